theorem d_Mo_chunk_291 : decode b_Mo_chunk 291 = .ok (.aload_n 0, 1) := by decide +kernel
theorem d_Mo_chunk_292 : decode b_Mo_chunk 292 = .ok (.getfield 37, 3) := by decide +kernel
theorem d_Mo_chunk_295 : decode b_Mo_chunk 295 = .ok (.iload 8, 2) := by decide +kernel
theorem d_Mo_chunk_297 : decode b_Mo_chunk 297 = .ok (.iaload, 1) := by decide +kernel
theorem d_Mo_chunk_298 : decode b_Mo_chunk 298 = .ok (.iadd, 1) := by decide +kernel
theorem d_Mo_chunk_299 : decode b_Mo_chunk 299 = .ok (.istore 10, 2) := by decide +kernel
theorem d_Mo_chunk_301 : decode b_Mo_chunk 301 = .ok (.iload 6, 2) := by decide +kernel
theorem d_Mo_chunk_303 : decode b_Mo_chunk 303 = .ok (.istore 7, 2) := by decide +kernel
theorem d_Mo_chunk_305 : decode b_Mo_chunk 305 = .ok (.iload 5, 2) := by decide +kernel
theorem d_Mo_chunk_307 : decode b_Mo_chunk 307 = .ok (.istore 6, 2) := by decide +kernel
theorem d_Mo_chunk_309 : decode b_Mo_chunk 309 = .ok (.iload 4, 2) := by decide +kernel
theorem d_Mo_chunk_311 : decode b_Mo_chunk 311 = .ok (.bipush 30, 2) := by decide +kernel
theorem d_Mo_chunk_313 : decode b_Mo_chunk 313 = .ok (.invokestatic 174, 3) := by decide +kernel
theorem d_Mo_chunk_316 : decode b_Mo_chunk 316 = .ok (.istore 5, 2) := by decide +kernel
theorem d_Mo_chunk_318 : decode b_Mo_chunk 318 = .ok (.iload_n 3, 1) := by decide +kernel
theorem d_Mo_chunk_319 : decode b_Mo_chunk 319 = .ok (.istore 4, 2) := by decide +kernel
theorem d_Mo_chunk_321 : decode b_Mo_chunk 321 = .ok (.iload 10, 2) := by decide +kernel
theorem d_Mo_chunk_323 : decode b_Mo_chunk 323 = .ok (.istore_n 3, 1) := by decide +kernel
theorem d_Mo_chunk_324 : decode b_Mo_chunk 324 = .ok (.iinc 8 1, 3) := by decide +kernel
theorem d_Mo_chunk_327 : decode b_Mo_chunk 327 = .ok (.goto (-144), 3) := by decide +kernel
theorem d_Mo_chunk_330 : decode b_Mo_chunk 330 = .ok (.aload_n 0, 1) := by decide +kernel
theorem d_Mo_chunk_331 : decode b_Mo_chunk 331 = .ok (.getfield 40, 3) := by decide +kernel
theorem d_Mo_chunk_334 : decode b_Mo_chunk 334 = .ok (.iconst 0, 1) := by decide +kernel
theorem d_Mo_chunk_335 : decode b_Mo_chunk 335 = .ok (.dup2, 1) := by decide +kernel
theorem d_Mo_chunk_336 : decode b_Mo_chunk 336 = .ok (.iaload, 1) := by decide +kernel
theorem d_Mo_chunk_337 : decode b_Mo_chunk 337 = .ok (.iload_n 3, 1) := by decide +kernel
theorem d_Mo_chunk_338 : decode b_Mo_chunk 338 = .ok (.iadd, 1) := by decide +kernel
theorem d_Mo_chunk_339 : decode b_Mo_chunk 339 = .ok (.iastore, 1) := by decide +kernel
theorem d_Mo_chunk_340 : decode b_Mo_chunk 340 = .ok (.aload_n 0, 1) := by decide +kernel
theorem d_Mo_chunk_341 : decode b_Mo_chunk 341 = .ok (.getfield 40, 3) := by decide +kernel
theorem d_Mo_chunk_344 : decode b_Mo_chunk 344 = .ok (.iconst 1, 1) := by decide +kernel
theorem d_Mo_chunk_345 : decode b_Mo_chunk 345 = .ok (.dup2, 1) := by decide +kernel
theorem d_Mo_chunk_346 : decode b_Mo_chunk 346 = .ok (.iaload, 1) := by decide +kernel
theorem d_Mo_chunk_347 : decode b_Mo_chunk 347 = .ok (.iload 4, 2) := by decide +kernel
theorem d_Mo_chunk_349 : decode b_Mo_chunk 349 = .ok (.iadd, 1) := by decide +kernel
theorem d_Mo_chunk_350 : decode b_Mo_chunk 350 = .ok (.iastore, 1) := by decide +kernel
theorem d_Mo_chunk_351 : decode b_Mo_chunk 351 = .ok (.aload_n 0, 1) := by decide +kernel
theorem d_Mo_chunk_352 : decode b_Mo_chunk 352 = .ok (.getfield 40, 3) := by decide +kernel
theorem d_Mo_chunk_355 : decode b_Mo_chunk 355 = .ok (.iconst 2, 1) := by decide +kernel
theorem d_Mo_chunk_356 : decode b_Mo_chunk 356 = .ok (.dup2, 1) := by decide +kernel
theorem d_Mo_chunk_357 : decode b_Mo_chunk 357 = .ok (.iaload, 1) := by decide +kernel
theorem d_Mo_chunk_358 : decode b_Mo_chunk 358 = .ok (.iload 5, 2) := by decide +kernel
theorem d_Mo_chunk_360 : decode b_Mo_chunk 360 = .ok (.iadd, 1) := by decide +kernel
theorem d_Mo_chunk_361 : decode b_Mo_chunk 361 = .ok (.iastore, 1) := by decide +kernel
theorem d_Mo_chunk_362 : decode b_Mo_chunk 362 = .ok (.aload_n 0, 1) := by decide +kernel
theorem d_Mo_chunk_363 : decode b_Mo_chunk 363 = .ok (.getfield 40, 3) := by decide +kernel
theorem d_Mo_chunk_366 : decode b_Mo_chunk 366 = .ok (.iconst 3, 1) := by decide +kernel
theorem d_Mo_chunk_367 : decode b_Mo_chunk 367 = .ok (.dup2, 1) := by decide +kernel
theorem d_Mo_chunk_368 : decode b_Mo_chunk 368 = .ok (.iaload, 1) := by decide +kernel
theorem d_Mo_chunk_369 : decode b_Mo_chunk 369 = .ok (.iload 6, 2) := by decide +kernel
theorem d_Mo_chunk_371 : decode b_Mo_chunk 371 = .ok (.iadd, 1) := by decide +kernel
theorem d_Mo_chunk_372 : decode b_Mo_chunk 372 = .ok (.iastore, 1) := by decide +kernel
theorem d_Mo_chunk_373 : decode b_Mo_chunk 373 = .ok (.aload_n 0, 1) := by decide +kernel
theorem d_Mo_chunk_374 : decode b_Mo_chunk 374 = .ok (.getfield 40, 3) := by decide +kernel
theorem d_Mo_chunk_377 : decode b_Mo_chunk 377 = .ok (.iconst 4, 1) := by decide +kernel
theorem d_Mo_chunk_378 : decode b_Mo_chunk 378 = .ok (.dup2, 1) := by decide +kernel
theorem d_Mo_chunk_379 : decode b_Mo_chunk 379 = .ok (.iaload, 1) := by decide +kernel
theorem d_Mo_chunk_380 : decode b_Mo_chunk 380 = .ok (.iload 7, 2) := by decide +kernel
theorem d_Mo_chunk_382 : decode b_Mo_chunk 382 = .ok (.iadd, 1) := by decide +kernel
theorem d_Mo_chunk_383 : decode b_Mo_chunk 383 = .ok (.iastore, 1) := by decide +kernel
theorem d_Mo_chunk_384 : decode b_Mo_chunk 384 = .ok (.return_, 1) := by decide +kernel
theorem d_Mo_hash_0 : decode b_Mo_hash 0 = .ok (.aload_n 0, 1) := by decide +kernel
theorem d_Mo_hash_1 : decode b_Mo_hash 1 = .ok (.iconst 0, 1) := by decide +kernel
theorem d_Mo_hash_2 : decode b_Mo_hash 2 = .ok (.putfield 43, 3) := by decide +kernel
theorem d_Mo_hash_5 : decode b_Mo_hash 5 = .ok (.iload_n 1, 1) := by decide +kernel
theorem d_Mo_hash_6 : decode b_Mo_hash 6 = .ok (.ifCond .lt 8, 3) := by decide +kernel
theorem d_Mo_hash_9 : decode b_Mo_hash 9 = .ok (.iload_n 1, 1) := by decide +kernel
theorem d_Mo_hash_10 : decode b_Mo_hash 10 = .ok (.iconst 2, 1) := by decide +kernel
theorem d_Mo_hash_11 : decode b_Mo_hash 11 = .ok (.if_icmp .le 10, 3) := by decide +kernel
theorem d_Mo_hash_14 : decode b_Mo_hash 14 = .ok (.aload_n 0, 1) := by decide +kernel
theorem d_Mo_hash_15 : decode b_Mo_hash 15 = .ok (.iconst 1, 1) := by decide +kernel
theorem d_Mo_hash_16 : decode b_Mo_hash 16 = .ok (.invokevirtual 50, 3) := by decide +kernel
theorem d_Mo_hash_19 : decode b_Mo_hash 19 = .ok (.i2l, 1) := by decide +kernel
theorem d_Mo_hash_20 : decode b_Mo_hash 20 = .ok (.lreturn, 1) := by decide +kernel
theorem d_Mo_hash_21 : decode b_Mo_hash 21 = .ok (.aload_n 0, 1) := by decide +kernel
theorem d_Mo_hash_22 : decode b_Mo_hash 22 = .ok (.getfield 40, 3) := by decide +kernel
theorem d_Mo_hash_25 : decode b_Mo_hash 25 = .ok (.iconst 0, 1) := by decide +kernel
theorem d_Mo_hash_26 : decode b_Mo_hash 26 = .ok (.ldc 181, 2) := by decide +kernel
theorem d_Mo_hash_28 : decode b_Mo_hash 28 = .ok (.iastore, 1) := by decide +kernel
theorem d_Mo_hash_29 : decode b_Mo_hash 29 = .ok (.aload_n 0, 1) := by decide +kernel
theorem d_Mo_hash_30 : decode b_Mo_hash 30 = .ok (.getfield 40, 3) := by decide +kernel
theorem d_Mo_hash_33 : decode b_Mo_hash 33 = .ok (.iconst 1, 1) := by decide +kernel
theorem d_Mo_hash_34 : decode b_Mo_hash 34 = .ok (.ldc 182, 2) := by decide +kernel
theorem d_Mo_hash_36 : decode b_Mo_hash 36 = .ok (.iastore, 1) := by decide +kernel
theorem d_Mo_hash_37 : decode b_Mo_hash 37 = .ok (.aload_n 0, 1) := by decide +kernel
theorem d_Mo_hash_38 : decode b_Mo_hash 38 = .ok (.getfield 40, 3) := by decide +kernel
theorem d_Mo_hash_41 : decode b_Mo_hash 41 = .ok (.iconst 2, 1) := by decide +kernel
theorem d_Mo_hash_42 : decode b_Mo_hash 42 = .ok (.ldc 183, 2) := by decide +kernel
theorem d_Mo_hash_44 : decode b_Mo_hash 44 = .ok (.iastore, 1) := by decide +kernel
theorem d_Mo_hash_45 : decode b_Mo_hash 45 = .ok (.aload_n 0, 1) := by decide +kernel
theorem d_Mo_hash_46 : decode b_Mo_hash 46 = .ok (.getfield 40, 3) := by decide +kernel
theorem d_Mo_hash_49 : decode b_Mo_hash 49 = .ok (.iconst 3, 1) := by decide +kernel
theorem d_Mo_hash_50 : decode b_Mo_hash 50 = .ok (.ldc 184, 2) := by decide +kernel
theorem d_Mo_hash_52 : decode b_Mo_hash 52 = .ok (.iastore, 1) := by decide +kernel
theorem d_Mo_hash_53 : decode b_Mo_hash 53 = .ok (.aload_n 0, 1) := by decide +kernel
theorem d_Mo_hash_54 : decode b_Mo_hash 54 = .ok (.getfield 40, 3) := by decide +kernel
theorem d_Mo_hash_57 : decode b_Mo_hash 57 = .ok (.iconst 4, 1) := by decide +kernel
theorem d_Mo_hash_58 : decode b_Mo_hash 58 = .ok (.ldc 185, 2) := by decide +kernel
theorem d_Mo_hash_60 : decode b_Mo_hash 60 = .ok (.iastore, 1) := by decide +kernel
theorem d_Mo_hash_61 : decode b_Mo_hash 61 = .ok (.aload_n 0, 1) := by decide +kernel
theorem d_Mo_hash_62 : decode b_Mo_hash 62 = .ok (.getfield 47, 3) := by decide +kernel
theorem d_Mo_hash_65 : decode b_Mo_hash 65 = .ok (.bipush 9, 2) := by decide +kernel
theorem d_Mo_hash_67 : decode b_Mo_hash 67 = .ok (.iadd, 1) := by decide +kernel
theorem d_Mo_hash_68 : decode b_Mo_hash 68 = .ok (.bipush 63, 2) := by decide +kernel
theorem d_Mo_hash_70 : decode b_Mo_hash 70 = .ok (.iadd, 1) := by decide +kernel
theorem d_Mo_hash_71 : decode b_Mo_hash 71 = .ok (.bipush 64, 2) := by decide +kernel
theorem d_Mo_hash_73 : decode b_Mo_hash 73 = .ok (.idiv, 1) := by decide +kernel
theorem d_Mo_hash_74 : decode b_Mo_hash 74 = .ok (.bipush 64, 2) := by decide +kernel
theorem d_Mo_hash_76 : decode b_Mo_hash 76 = .ok (.imul, 1) := by decide +kernel
theorem d_Mo_hash_77 : decode b_Mo_hash 77 = .ok (.istore_n 2, 1) := by decide +kernel
theorem d_Mo_hash_78 : decode b_Mo_hash 78 = .ok (.iconst 0, 1) := by decide +kernel
theorem d_Mo_hash_79 : decode b_Mo_hash 79 = .ok (.istore_n 3, 1) := by decide +kernel
theorem d_Mo_hash_80 : decode b_Mo_hash 80 = .ok (.iload_n 3, 1) := by decide +kernel
theorem d_Mo_hash_81 : decode b_Mo_hash 81 = .ok (.iload_n 2, 1) := by decide +kernel
theorem d_Mo_hash_82 : decode b_Mo_hash 82 = .ok (.if_icmp .ge 15, 3) := by decide +kernel
theorem d_Mo_hash_85 : decode b_Mo_hash 85 = .ok (.aload_n 0, 1) := by decide +kernel
theorem d_Mo_hash_86 : decode b_Mo_hash 86 = .ok (.iload_n 3, 1) := by decide +kernel
theorem d_Mo_hash_87 : decode b_Mo_hash 87 = .ok (.iload_n 2, 1) := by decide +kernel
theorem d_Mo_hash_88 : decode b_Mo_hash 88 = .ok (.invokevirtual 186, 3) := by decide +kernel
theorem d_Mo_hash_91 : decode b_Mo_hash 91 = .ok (.iinc 3 64, 3) := by decide +kernel
theorem d_Mo_hash_94 : decode b_Mo_hash 94 = .ok (.goto (-14), 3) := by decide +kernel
theorem d_Mo_hash_97 : decode b_Mo_hash 97 = .ok (.aload_n 0, 1) := by decide +kernel
theorem d_Mo_hash_98 : decode b_Mo_hash 98 = .ok (.getfield 40, 3) := by decide +kernel
theorem d_Mo_hash_101 : decode b_Mo_hash 101 = .ok (.iload_n 1, 1) := by decide +kernel
theorem d_Mo_hash_102 : decode b_Mo_hash 102 = .ok (.iconst 2, 1) := by decide +kernel
theorem d_Mo_hash_103 : decode b_Mo_hash 103 = .ok (.imul, 1) := by decide +kernel
theorem d_Mo_hash_104 : decode b_Mo_hash 104 = .ok (.iaload, 1) := by decide +kernel
theorem d_Mo_hash_105 : decode b_Mo_hash 105 = .ok (.i2l, 1) := by decide +kernel
theorem d_Mo_hash_106 : decode b_Mo_hash 106 = .ok (.lstore_n 3, 1) := by decide +kernel
theorem d_Mo_hash_107 : decode b_Mo_hash 107 = .ok (.iload_n 1, 1) := by decide +kernel
theorem d_Mo_hash_108 : decode b_Mo_hash 108 = .ok (.iconst 2, 1) := by decide +kernel
theorem d_Mo_hash_109 : decode b_Mo_hash 109 = .ok (.if_icmp .ne 11, 3) := by decide +kernel
theorem d_Mo_hash_112 : decode b_Mo_hash 112 = .ok (.lload_n 3, 1) := by decide +kernel
theorem d_Mo_hash_113 : decode b_Mo_hash 113 = .ok (.ldc2_w 189, 3) := by decide +kernel
theorem d_Mo_hash_116 : decode b_Mo_hash 116 = .ok (.land, 1) := by decide +kernel
theorem d_Mo_hash_117 : decode b_Mo_hash 117 = .ok (.goto 23, 3) := by decide +kernel
theorem d_Mo_hash_120 : decode b_Mo_hash 120 = .ok (.lload_n 3, 1) := by decide +kernel
theorem d_Mo_hash_121 : decode b_Mo_hash 121 = .ok (.bipush 32, 2) := by decide +kernel
theorem d_Mo_hash_123 : decode b_Mo_hash 123 = .ok (.lshl, 1) := by decide +kernel
theorem d_Mo_hash_124 : decode b_Mo_hash 124 = .ok (.aload_n 0, 1) := by decide +kernel
theorem d_Mo_hash_125 : decode b_Mo_hash 125 = .ok (.getfield 40, 3) := by decide +kernel
theorem d_Mo_hash_128 : decode b_Mo_hash 128 = .ok (.iload_n 1, 1) := by decide +kernel
theorem d_Mo_hash_129 : decode b_Mo_hash 129 = .ok (.iconst 2, 1) := by decide +kernel
theorem d_Mo_hash_130 : decode b_Mo_hash 130 = .ok (.imul, 1) := by decide +kernel
theorem d_Mo_hash_131 : decode b_Mo_hash 131 = .ok (.iconst 1, 1) := by decide +kernel
theorem d_Mo_hash_132 : decode b_Mo_hash 132 = .ok (.iadd, 1) := by decide +kernel
theorem d_Mo_hash_133 : decode b_Mo_hash 133 = .ok (.iaload, 1) := by decide +kernel
theorem d_Mo_hash_134 : decode b_Mo_hash 134 = .ok (.i2l, 1) := by decide +kernel
theorem d_Mo_hash_135 : decode b_Mo_hash 135 = .ok (.ldc2_w 189, 3) := by decide +kernel
theorem d_Mo_hash_138 : decode b_Mo_hash 138 = .ok (.land, 1) := by decide +kernel
theorem d_Mo_hash_139 : decode b_Mo_hash 139 = .ok (.lor, 1) := by decide +kernel
theorem d_Mo_hash_140 : decode b_Mo_hash 140 = .ok (.lreturn, 1) := by decide +kernel
theorem d_Mo_letter_0 : decode b_Mo_letter 0 = .ok (.aload_n 0, 1) := by decide +kernel
theorem d_Mo_letter_1 : decode b_Mo_letter 1 = .ok (.iconst 0, 1) := by decide +kernel
theorem d_Mo_letter_2 : decode b_Mo_letter 2 = .ok (.putfield 43, 3) := by decide +kernel
theorem d_Mo_letter_5 : decode b_Mo_letter 5 = .ok (.iload_n 1, 1) := by decide +kernel
theorem d_Mo_letter_6 : decode b_Mo_letter 6 = .ok (.ifCond .lt 11, 3) := by decide +kernel
theorem d_Mo_letter_9 : decode b_Mo_letter 9 = .ok (.iload_n 1, 1) := by decide +kernel
theorem d_Mo_letter_10 : decode b_Mo_letter 10 = .ok (.aload_n 0, 1) := by decide +kernel
theorem d_Mo_letter_11 : decode b_Mo_letter 11 = .ok (.getfield 98, 3) := by decide +kernel
theorem d_Mo_letter_14 : decode b_Mo_letter 14 = .ok (.if_icmp .lt 9, 3) := by decide +kernel
theorem d_Mo_letter_17 : decode b_Mo_letter 17 = .ok (.aload_n 0, 1) := by decide +kernel
theorem d_Mo_letter_18 : decode b_Mo_letter 18 = .ok (.iconst 1, 1) := by decide +kernel
theorem d_Mo_letter_19 : decode b_Mo_letter 19 = .ok (.invokevirtual 50, 3) := by decide +kernel
theorem d_Mo_letter_22 : decode b_Mo_letter 22 = .ok (.ireturn, 1) := by decide +kernel
theorem d_Mo_letter_23 : decode b_Mo_letter 23 = .ok (.aload_n 0, 1) := by decide +kernel
theorem d_Mo_letter_24 : decode b_Mo_letter 24 = .ok (.getfield 15, 3) := by decide +kernel
theorem d_Mo_letter_27 : decode b_Mo_letter 27 = .ok (.iload_n 1, 1) := by decide +kernel
theorem d_Mo_letter_28 : decode b_Mo_letter 28 = .ok (.baload, 1) := by decide +kernel
theorem d_Mo_letter_29 : decode b_Mo_letter 29 = .ok (.sipush 255, 3) := by decide +kernel
theorem d_Mo_letter_32 : decode b_Mo_letter 32 = .ok (.iand, 1) := by decide +kernel
theorem d_Mo_letter_33 : decode b_Mo_letter 33 = .ok (.ireturn, 1) := by decide +kernel
theorem d_Mo_count_0 : decode b_Mo_count 0 = .ok (.aload_n 0, 1) := by decide +kernel
theorem d_Mo_count_1 : decode b_Mo_count 1 = .ok (.iconst 0, 1) := by decide +kernel
theorem d_Mo_count_2 : decode b_Mo_count 2 = .ok (.putfield 43, 3) := by decide +kernel
theorem d_Mo_count_5 : decode b_Mo_count 5 = .ok (.iload_n 1, 1) := by decide +kernel
theorem d_Mo_count_6 : decode b_Mo_count 6 = .ok (.tableswitch 77 0 6 #[42, 47, 52, 57, 62, 67, 72], 42) := by decide +kernel
theorem d_Mo_count_48 : decode b_Mo_count 48 = .ok (.aload_n 0, 1) := by decide +kernel
theorem d_Mo_count_49 : decode b_Mo_count 49 = .ok (.getfield 47, 3) := by decide +kernel
theorem d_Mo_count_52 : decode b_Mo_count 52 = .ok (.ireturn, 1) := by decide +kernel
theorem d_Mo_count_53 : decode b_Mo_count 53 = .ok (.aload_n 0, 1) := by decide +kernel
theorem d_Mo_count_54 : decode b_Mo_count 54 = .ok (.getfield 98, 3) := by decide +kernel
theorem d_Mo_count_57 : decode b_Mo_count 57 = .ok (.ireturn, 1) := by decide +kernel
theorem d_Mo_count_58 : decode b_Mo_count 58 = .ok (.aload_n 0, 1) := by decide +kernel
theorem d_Mo_count_59 : decode b_Mo_count 59 = .ok (.getfield 84, 3) := by decide +kernel
theorem d_Mo_count_62 : decode b_Mo_count 62 = .ok (.ireturn, 1) := by decide +kernel
theorem d_Mo_count_63 : decode b_Mo_count 63 = .ok (.aload_n 0, 1) := by decide +kernel
theorem d_Mo_count_64 : decode b_Mo_count 64 = .ok (.getfield 87, 3) := by decide +kernel
theorem d_Mo_count_67 : decode b_Mo_count 67 = .ok (.ireturn, 1) := by decide +kernel
theorem d_Mo_count_68 : decode b_Mo_count 68 = .ok (.aload_n 0, 1) := by decide +kernel
theorem d_Mo_count_69 : decode b_Mo_count 69 = .ok (.getfield 165, 3) := by decide +kernel
theorem d_Mo_count_72 : decode b_Mo_count 72 = .ok (.ireturn, 1) := by decide +kernel
theorem d_Mo_count_73 : decode b_Mo_count 73 = .ok (.aload_n 0, 1) := by decide +kernel
theorem d_Mo_count_74 : decode b_Mo_count 74 = .ok (.getfield 168, 3) := by decide +kernel
theorem d_Mo_count_77 : decode b_Mo_count 77 = .ok (.ireturn, 1) := by decide +kernel
theorem d_Mo_count_78 : decode b_Mo_count 78 = .ok (.aload_n 0, 1) := by decide +kernel
theorem d_Mo_count_79 : decode b_Mo_count 79 = .ok (.getfield 162, 3) := by decide +kernel
theorem d_Mo_count_82 : decode b_Mo_count 82 = .ok (.ireturn, 1) := by decide +kernel
theorem d_Mo_count_83 : decode b_Mo_count 83 = .ok (.iconst (-1), 1) := by decide +kernel
theorem d_Mo_count_84 : decode b_Mo_count 84 = .ok (.ireturn, 1) := by decide +kernel
theorem d_JA_fill_0 : decode b_JA_fill 0 = .ok (.iconst 0, 1) := by decide +kernel
theorem d_JA_fill_1 : decode b_JA_fill 1 = .ok (.istore_n 2, 1) := by decide +kernel
theorem d_JA_fill_2 : decode b_JA_fill 2 = .ok (.aload_n 0, 1) := by decide +kernel
theorem d_JA_fill_3 : decode b_JA_fill 3 = .ok (.arraylength, 1) := by decide +kernel
theorem d_JA_fill_4 : decode b_JA_fill 4 = .ok (.istore_n 3, 1) := by decide +kernel
theorem d_JA_fill_5 : decode b_JA_fill 5 = .ok (.iload_n 2, 1) := by decide +kernel
theorem d_JA_fill_6 : decode b_JA_fill 6 = .ok (.iload_n 3, 1) := by decide +kernel
theorem d_JA_fill_7 : decode b_JA_fill 7 = .ok (.if_icmp .ge 13, 3) := by decide +kernel
theorem d_JA_fill_10 : decode b_JA_fill 10 = .ok (.aload_n 0, 1) := by decide +kernel
theorem d_JA_fill_11 : decode b_JA_fill 11 = .ok (.iload_n 2, 1) := by decide +kernel
theorem d_JA_fill_12 : decode b_JA_fill 12 = .ok (.iload_n 1, 1) := by decide +kernel
theorem d_JA_fill_13 : decode b_JA_fill 13 = .ok (.iastore, 1) := by decide +kernel
theorem d_JA_fill_14 : decode b_JA_fill 14 = .ok (.iinc 2 1, 3) := by decide +kernel
theorem d_JA_fill_17 : decode b_JA_fill 17 = .ok (.goto (-12), 3) := by decide +kernel
theorem d_JA_fill_20 : decode b_JA_fill 20 = .ok (.return_, 1) := by decide +kernel
theorem d_JA_copyOf_0 : decode b_JA_copyOf 0 = .ok (.iload_n 1, 1) := by decide +kernel
theorem d_JA_copyOf_1 : decode b_JA_copyOf 1 = .ok (.aload_n 0, 1) := by decide +kernel
theorem d_JA_copyOf_2 : decode b_JA_copyOf 2 = .ok (.arraylength, 1) := by decide +kernel
theorem d_JA_copyOf_3 : decode b_JA_copyOf 3 = .ok (.if_icmp .ne 11, 3) := by decide +kernel
theorem d_JA_copyOf_6 : decode b_JA_copyOf 6 = .ok (.aload_n 0, 1) := by decide +kernel
theorem d_JA_copyOf_7 : decode b_JA_copyOf 7 = .ok (.invokevirtual 310, 3) := by decide +kernel
theorem d_JA_copyOf_10 : decode b_JA_copyOf 10 = .ok (.checkcast 311, 3) := by decide +kernel
theorem d_JA_copyOf_13 : decode b_JA_copyOf 13 = .ok (.areturn, 1) := by decide +kernel
theorem d_JA_copyOf_14 : decode b_JA_copyOf 14 = .ok (.iload_n 1, 1) := by decide +kernel
theorem d_JA_copyOf_15 : decode b_JA_copyOf 15 = .ok (.newarray .byte, 2) := by decide +kernel
theorem d_JA_copyOf_17 : decode b_JA_copyOf 17 = .ok (.astore_n 2, 1) := by decide +kernel
theorem d_JA_copyOf_18 : decode b_JA_copyOf 18 = .ok (.aload_n 0, 1) := by decide +kernel
theorem d_JA_copyOf_19 : decode b_JA_copyOf 19 = .ok (.iconst 0, 1) := by decide +kernel
theorem d_JA_copyOf_20 : decode b_JA_copyOf 20 = .ok (.aload_n 2, 1) := by decide +kernel
theorem d_JA_copyOf_21 : decode b_JA_copyOf 21 = .ok (.iconst 0, 1) := by decide +kernel
theorem d_JA_copyOf_22 : decode b_JA_copyOf 22 = .ok (.aload_n 0, 1) := by decide +kernel
theorem d_JA_copyOf_23 : decode b_JA_copyOf 23 = .ok (.arraylength, 1) := by decide +kernel
theorem d_JA_copyOf_24 : decode b_JA_copyOf 24 = .ok (.iload_n 1, 1) := by decide +kernel
theorem d_JA_copyOf_25 : decode b_JA_copyOf 25 = .ok (.invokestatic 304, 3) := by decide +kernel
theorem d_JA_copyOf_28 : decode b_JA_copyOf 28 = .ok (.invokestatic 150, 3) := by decide +kernel
theorem d_JA_copyOf_31 : decode b_JA_copyOf 31 = .ok (.aload_n 2, 1) := by decide +kernel
theorem d_JA_copyOf_32 : decode b_JA_copyOf 32 = .ok (.areturn, 1) := by decide +kernel
theorem d_La_feed_0 : decode b_La_feed 0 = .ok (.aload 6, 2) := by decide +kernel
theorem d_La_feed_2 : decode b_La_feed 2 = .ok (.iconst 0, 1) := by decide +kernel
theorem d_La_feed_3 : decode b_La_feed 3 = .ok (.aload_n 0, 1) := by decide +kernel
theorem d_La_feed_4 : decode b_La_feed 4 = .ok (.iload_n 1, 1) := by decide +kernel
theorem d_La_feed_5 : decode b_La_feed 5 = .ok (.iload_n 2, 1) := by decide +kernel
theorem d_La_feed_6 : decode b_La_feed 6 = .ok (.iload_n 3, 1) := by decide +kernel
theorem d_La_feed_7 : decode b_La_feed 7 = .ok (.iload 4, 2) := by decide +kernel
theorem d_La_feed_9 : decode b_La_feed 9 = .ok (.iload 5, 2) := by decide +kernel
theorem d_La_feed_11 : decode b_La_feed 11 = .ok (.invokevirtual 7, 3) := by decide +kernel
theorem d_La_feed_14 : decode b_La_feed 14 = .ok (.i2l, 1) := by decide +kernel
theorem d_La_feed_15 : decode b_La_feed 15 = .ok (.lastore, 1) := by decide +kernel
theorem d_La_feed_16 : decode b_La_feed 16 = .ok (.goto 7, 3) := by decide +kernel
theorem d_La_feed_19 : decode b_La_feed 19 = .ok (.astore 7, 2) := by decide +kernel
theorem d_La_feed_21 : decode b_La_feed 21 = .ok (.iconst 1, 1) := by decide +kernel
theorem d_La_feed_22 : decode b_La_feed 22 = .ok (.ireturn, 1) := by decide +kernel
theorem d_La_feed_23 : decode b_La_feed 23 = .ok (.iconst 0, 1) := by decide +kernel
theorem d_La_feed_24 : decode b_La_feed 24 = .ok (.ireturn, 1) := by decide +kernel
theorem d_La_end_0 : decode b_La_end 0 = .ok (.aload_n 2, 1) := by decide +kernel
theorem d_La_end_1 : decode b_La_end 1 = .ok (.iconst 0, 1) := by decide +kernel
theorem d_La_end_2 : decode b_La_end 2 = .ok (.aload_n 0, 1) := by decide +kernel
theorem d_La_end_3 : decode b_La_end 3 = .ok (.iload_n 1, 1) := by decide +kernel
theorem d_La_end_4 : decode b_La_end 4 = .ok (.invokevirtual 15, 3) := by decide +kernel
theorem d_La_end_7 : decode b_La_end 7 = .ok (.i2l, 1) := by decide +kernel
theorem d_La_end_8 : decode b_La_end 8 = .ok (.lastore, 1) := by decide +kernel
theorem d_La_end_9 : decode b_La_end 9 = .ok (.goto 6, 3) := by decide +kernel
theorem d_La_end_12 : decode b_La_end 12 = .ok (.astore_n 3, 1) := by decide +kernel
theorem d_La_end_13 : decode b_La_end 13 = .ok (.iconst 1, 1) := by decide +kernel
theorem d_La_end_14 : decode b_La_end 14 = .ok (.ireturn, 1) := by decide +kernel
theorem d_La_end_15 : decode b_La_end 15 = .ok (.iconst 0, 1) := by decide +kernel
theorem d_La_end_16 : decode b_La_end 16 = .ok (.ireturn, 1) := by decide +kernel
theorem d_La_change_0 : decode b_La_change 0 = .ok (.aload_n 0, 1) := by decide +kernel
theorem d_La_change_1 : decode b_La_change 1 = .ok (.iload_n 1, 1) := by decide +kernel
theorem d_La_change_2 : decode b_La_change 2 = .ok (.iload_n 2, 1) := by decide +kernel
theorem d_La_change_3 : decode b_La_change 3 = .ok (.invokevirtual 21, 3) := by decide +kernel
theorem d_La_change_6 : decode b_La_change 6 = .ok (.goto 6, 3) := by decide +kernel
theorem d_La_change_9 : decode b_La_change 9 = .ok (.astore_n 3, 1) := by decide +kernel
theorem d_La_change_10 : decode b_La_change 10 = .ok (.iconst 1, 1) := by decide +kernel
theorem d_La_change_11 : decode b_La_change 11 = .ok (.ireturn, 1) := by decide +kernel
theorem d_La_change_12 : decode b_La_change 12 = .ok (.iconst 0, 1) := by decide +kernel
theorem d_La_change_13 : decode b_La_change 13 = .ok (.ireturn, 1) := by decide +kernel
theorem d_La_open_0 : decode b_La_open 0 = .ok (.aload_n 1, 1) := by decide +kernel
theorem d_La_open_1 : decode b_La_open 1 = .ok (.iconst 0, 1) := by decide +kernel
theorem d_La_open_2 : decode b_La_open 2 = .ok (.aload_n 0, 1) := by decide +kernel
theorem d_La_open_3 : decode b_La_open 3 = .ok (.invokevirtual 25, 3) := by decide +kernel
theorem d_La_open_6 : decode b_La_open 6 = .ok (.i2l, 1) := by decide +kernel
theorem d_La_open_7 : decode b_La_open 7 = .ok (.lastore, 1) := by decide +kernel
theorem d_La_open_8 : decode b_La_open 8 = .ok (.goto 6, 3) := by decide +kernel
theorem d_La_open_11 : decode b_La_open 11 = .ok (.astore_n 2, 1) := by decide +kernel
theorem d_La_open_12 : decode b_La_open 12 = .ok (.iconst 1, 1) := by decide +kernel
theorem d_La_open_13 : decode b_La_open 13 = .ok (.ireturn, 1) := by decide +kernel
theorem d_La_open_14 : decode b_La_open 14 = .ok (.iconst 0, 1) := by decide +kernel
theorem d_La_open_15 : decode b_La_open 15 = .ok (.ireturn, 1) := by decide +kernel
theorem d_La_turn_0 : decode b_La_turn 0 = .ok (.aload_n 1, 1) := by decide +kernel
theorem d_La_turn_1 : decode b_La_turn 1 = .ok (.iconst 0, 1) := by decide +kernel
theorem d_La_turn_2 : decode b_La_turn 2 = .ok (.aload_n 0, 1) := by decide +kernel
theorem d_La_turn_3 : decode b_La_turn 3 = .ok (.invokevirtual 31, 3) := by decide +kernel
theorem d_La_turn_6 : decode b_La_turn 6 = .ok (.i2l, 1) := by decide +kernel
theorem d_La_turn_7 : decode b_La_turn 7 = .ok (.lastore, 1) := by decide +kernel
theorem d_La_turn_8 : decode b_La_turn 8 = .ok (.goto 6, 3) := by decide +kernel
theorem d_La_turn_11 : decode b_La_turn 11 = .ok (.astore_n 2, 1) := by decide +kernel
theorem d_La_turn_12 : decode b_La_turn 12 = .ok (.iconst 1, 1) := by decide +kernel
theorem d_La_turn_13 : decode b_La_turn 13 = .ok (.ireturn, 1) := by decide +kernel
theorem d_La_turn_14 : decode b_La_turn 14 = .ok (.iconst 0, 1) := by decide +kernel
theorem d_La_turn_15 : decode b_La_turn 15 = .ok (.ireturn, 1) := by decide +kernel
theorem d_La_hash_0 : decode b_La_hash 0 = .ok (.aload_n 2, 1) := by decide +kernel
theorem d_La_hash_1 : decode b_La_hash 1 = .ok (.iconst 0, 1) := by decide +kernel
theorem d_La_hash_2 : decode b_La_hash 2 = .ok (.aload_n 0, 1) := by decide +kernel
theorem d_La_hash_3 : decode b_La_hash 3 = .ok (.iload_n 1, 1) := by decide +kernel
theorem d_La_hash_4 : decode b_La_hash 4 = .ok (.invokevirtual 34, 3) := by decide +kernel
theorem d_La_hash_7 : decode b_La_hash 7 = .ok (.lastore, 1) := by decide +kernel
theorem d_La_hash_8 : decode b_La_hash 8 = .ok (.goto 6, 3) := by decide +kernel
theorem d_La_hash_11 : decode b_La_hash 11 = .ok (.astore_n 3, 1) := by decide +kernel
theorem d_La_hash_12 : decode b_La_hash 12 = .ok (.iconst 1, 1) := by decide +kernel
theorem d_La_hash_13 : decode b_La_hash 13 = .ok (.ireturn, 1) := by decide +kernel
theorem d_La_hash_14 : decode b_La_hash 14 = .ok (.iconst 0, 1) := by decide +kernel
theorem d_La_hash_15 : decode b_La_hash 15 = .ok (.ireturn, 1) := by decide +kernel
theorem d_La_letter_0 : decode b_La_letter 0 = .ok (.aload_n 2, 1) := by decide +kernel
theorem d_La_letter_1 : decode b_La_letter 1 = .ok (.iconst 0, 1) := by decide +kernel
theorem d_La_letter_2 : decode b_La_letter 2 = .ok (.aload_n 0, 1) := by decide +kernel
theorem d_La_letter_3 : decode b_La_letter 3 = .ok (.iload_n 1, 1) := by decide +kernel
theorem d_La_letter_4 : decode b_La_letter 4 = .ok (.invokevirtual 38, 3) := by decide +kernel
theorem d_La_letter_7 : decode b_La_letter 7 = .ok (.i2l, 1) := by decide +kernel
theorem d_La_letter_8 : decode b_La_letter 8 = .ok (.lastore, 1) := by decide +kernel
theorem d_La_letter_9 : decode b_La_letter 9 = .ok (.goto 6, 3) := by decide +kernel
theorem d_La_letter_12 : decode b_La_letter 12 = .ok (.astore_n 3, 1) := by decide +kernel
theorem d_La_letter_13 : decode b_La_letter 13 = .ok (.iconst 1, 1) := by decide +kernel
theorem d_La_letter_14 : decode b_La_letter 14 = .ok (.ireturn, 1) := by decide +kernel
theorem d_La_letter_15 : decode b_La_letter 15 = .ok (.iconst 0, 1) := by decide +kernel
theorem d_La_letter_16 : decode b_La_letter 16 = .ok (.ireturn, 1) := by decide +kernel
theorem d_La_law_0 : decode b_La_law 0 = .ok (.new 8, 3) := by decide +kernel
theorem d_La_law_3 : decode b_La_law 3 = .ok (.dup, 1) := by decide +kernel
theorem d_La_law_4 : decode b_La_law 4 = .ok (.invokespecial 43, 3) := by decide +kernel
theorem d_La_law_7 : decode b_La_law 7 = .ok (.astore_n 1, 1) := by decide +kernel
theorem d_La_law_8 : decode b_La_law 8 = .ok (.new 44, 3) := by decide +kernel
theorem d_La_law_11 : decode b_La_law 11 = .ok (.dup, 1) := by decide +kernel
theorem d_La_law_12 : decode b_La_law 12 = .ok (.invokespecial 46, 3) := by decide +kernel
theorem d_La_law_15 : decode b_La_law 15 = .ok (.astore_n 2, 1) := by decide +kernel
theorem d_La_law_16 : decode b_La_law 16 = .ok (.iconst 1, 1) := by decide +kernel
theorem d_La_law_17 : decode b_La_law 17 = .ok (.newarray .long, 2) := by decide +kernel
theorem d_La_law_19 : decode b_La_law 19 = .ok (.astore_n 3, 1) := by decide +kernel
theorem d_La_law_20 : decode b_La_law 20 = .ok (.iconst 0, 1) := by decide +kernel
theorem d_La_law_21 : decode b_La_law 21 = .ok (.istore 4, 2) := by decide +kernel
theorem d_La_law_23 : decode b_La_law 23 = .ok (.iload 4, 2) := by decide +kernel
theorem d_La_law_25 : decode b_La_law 25 = .ok (.aload_n 0, 1) := by decide +kernel
theorem d_La_law_26 : decode b_La_law 26 = .ok (.arraylength, 1) := by decide +kernel
theorem d_La_law_27 : decode b_La_law 27 = .ok (.bipush 6, 2) := by decide +kernel
theorem d_La_law_29 : decode b_La_law 29 = .ok (.isub, 1) := by decide +kernel
theorem d_La_law_30 : decode b_La_law 30 = .ok (.if_icmp .gt 513, 3) := by decide +kernel
theorem d_La_law_33 : decode b_La_law 33 = .ok (.aload_n 0, 1) := by decide +kernel
theorem d_La_law_34 : decode b_La_law 34 = .ok (.iload 4, 2) := by decide +kernel
theorem d_La_law_36 : decode b_La_law 36 = .ok (.iaload, 1) := by decide +kernel
theorem d_La_law_37 : decode b_La_law 37 = .ok (.bipush 15, 2) := by decide +kernel
theorem d_La_law_39 : decode b_La_law 39 = .ok (.iand, 1) := by decide +kernel
theorem d_La_law_40 : decode b_La_law 40 = .ok (.tableswitch 497 0 8 #[52, 156, 212, 260, 273, 317, 361, 416, 472], 52) := by decide +kernel
theorem d_La_law_92 : decode b_La_law 92 = .ok (.aload_n 1, 1) := by decide +kernel
theorem d_La_law_93 : decode b_La_law 93 = .ok (.aload_n 0, 1) := by decide +kernel
theorem d_La_law_94 : decode b_La_law 94 = .ok (.iload 4, 2) := by decide +kernel
theorem d_La_law_96 : decode b_La_law 96 = .ok (.iconst 1, 1) := by decide +kernel
theorem d_La_law_97 : decode b_La_law 97 = .ok (.iadd, 1) := by decide +kernel
theorem d_La_law_98 : decode b_La_law 98 = .ok (.iaload, 1) := by decide +kernel
theorem d_La_law_99 : decode b_La_law 99 = .ok (.aload_n 0, 1) := by decide +kernel
theorem d_La_law_100 : decode b_La_law 100 = .ok (.iload 4, 2) := by decide +kernel
theorem d_La_law_102 : decode b_La_law 102 = .ok (.iconst 2, 1) := by decide +kernel
theorem d_La_law_103 : decode b_La_law 103 = .ok (.iadd, 1) := by decide +kernel
theorem d_La_law_104 : decode b_La_law 104 = .ok (.iaload, 1) := by decide +kernel
theorem d_La_law_105 : decode b_La_law 105 = .ok (.aload_n 0, 1) := by decide +kernel
theorem d_La_law_106 : decode b_La_law 106 = .ok (.iload 4, 2) := by decide +kernel
theorem d_La_law_108 : decode b_La_law 108 = .ok (.iconst 3, 1) := by decide +kernel
theorem d_La_law_109 : decode b_La_law 109 = .ok (.iadd, 1) := by decide +kernel
theorem d_La_law_110 : decode b_La_law 110 = .ok (.iaload, 1) := by decide +kernel
theorem d_La_law_111 : decode b_La_law 111 = .ok (.aload_n 0, 1) := by decide +kernel
theorem d_La_law_112 : decode b_La_law 112 = .ok (.iload 4, 2) := by decide +kernel
theorem d_La_law_114 : decode b_La_law 114 = .ok (.iconst 4, 1) := by decide +kernel
theorem d_La_law_115 : decode b_La_law 115 = .ok (.iadd, 1) := by decide +kernel
theorem d_La_law_116 : decode b_La_law 116 = .ok (.iaload, 1) := by decide +kernel
theorem d_La_law_117 : decode b_La_law 117 = .ok (.aload_n 0, 1) := by decide +kernel
theorem d_La_law_118 : decode b_La_law 118 = .ok (.iload 4, 2) := by decide +kernel
theorem d_La_law_120 : decode b_La_law 120 = .ok (.iconst 5, 1) := by decide +kernel
theorem d_La_law_121 : decode b_La_law 121 = .ok (.iadd, 1) := by decide +kernel
theorem d_La_law_122 : decode b_La_law 122 = .ok (.iaload, 1) := by decide +kernel
theorem d_La_law_123 : decode b_La_law 123 = .ok (.aload_n 3, 1) := by decide +kernel
theorem d_La_law_124 : decode b_La_law 124 = .ok (.invokestatic 47, 3) := by decide +kernel
theorem d_La_law_127 : decode b_La_law 127 = .ok (.istore 5, 2) := by decide +kernel
theorem d_La_law_129 : decode b_La_law 129 = .ok (.aload_n 2, 1) := by decide +kernel
theorem d_La_law_130 : decode b_La_law 130 = .ok (.aload_n 0, 1) := by decide +kernel
theorem d_La_law_131 : decode b_La_law 131 = .ok (.iload 4, 2) := by decide +kernel
theorem d_La_law_133 : decode b_La_law 133 = .ok (.iconst 1, 1) := by decide +kernel
theorem d_La_law_134 : decode b_La_law 134 = .ok (.iadd, 1) := by decide +kernel
theorem d_La_law_135 : decode b_La_law 135 = .ok (.iaload, 1) := by decide +kernel
theorem d_La_law_136 : decode b_La_law 136 = .ok (.aload_n 0, 1) := by decide +kernel
theorem d_La_law_137 : decode b_La_law 137 = .ok (.iload 4, 2) := by decide +kernel
theorem d_La_law_139 : decode b_La_law 139 = .ok (.iconst 2, 1) := by decide +kernel
theorem d_La_law_140 : decode b_La_law 140 = .ok (.iadd, 1) := by decide +kernel
theorem d_La_law_141 : decode b_La_law 141 = .ok (.iaload, 1) := by decide +kernel
theorem d_La_law_142 : decode b_La_law 142 = .ok (.aload_n 0, 1) := by decide +kernel
theorem d_La_law_143 : decode b_La_law 143 = .ok (.iload 4, 2) := by decide +kernel
theorem d_La_law_145 : decode b_La_law 145 = .ok (.iconst 3, 1) := by decide +kernel
theorem d_La_law_146 : decode b_La_law 146 = .ok (.iadd, 1) := by decide +kernel
theorem d_La_law_147 : decode b_La_law 147 = .ok (.iaload, 1) := by decide +kernel
theorem d_La_law_148 : decode b_La_law 148 = .ok (.aload_n 0, 1) := by decide +kernel
theorem d_La_law_149 : decode b_La_law 149 = .ok (.iload 4, 2) := by decide +kernel
theorem d_La_law_151 : decode b_La_law 151 = .ok (.iconst 4, 1) := by decide +kernel
theorem d_La_law_152 : decode b_La_law 152 = .ok (.iadd, 1) := by decide +kernel
theorem d_La_law_153 : decode b_La_law 153 = .ok (.iaload, 1) := by decide +kernel
theorem d_La_law_154 : decode b_La_law 154 = .ok (.aload_n 0, 1) := by decide +kernel
theorem d_La_law_155 : decode b_La_law 155 = .ok (.iload 4, 2) := by decide +kernel
theorem d_La_law_157 : decode b_La_law 157 = .ok (.iconst 5, 1) := by decide +kernel
theorem d_La_law_158 : decode b_La_law 158 = .ok (.iadd, 1) := by decide +kernel
theorem d_La_law_159 : decode b_La_law 159 = .ok (.iaload, 1) := by decide +kernel
theorem d_La_law_160 : decode b_La_law 160 = .ok (.invokevirtual 52, 3) := by decide +kernel
theorem d_La_law_163 : decode b_La_law 163 = .ok (.istore 6, 2) := by decide +kernel
theorem d_La_law_165 : decode b_La_law 165 = .ok (.aload_n 2, 1) := by decide +kernel
theorem d_La_law_166 : decode b_La_law 166 = .ok (.invokevirtual 53, 3) := by decide +kernel
theorem d_La_law_169 : decode b_La_law 169 = .ok (.iload 5, 2) := by decide +kernel
theorem d_La_law_171 : decode b_La_law 171 = .ok (.if_icmp .eq 5, 3) := by decide +kernel
theorem d_La_law_174 : decode b_La_law 174 = .ok (.iconst 0, 1) := by decide +kernel
theorem d_La_law_175 : decode b_La_law 175 = .ok (.ireturn, 1) := by decide +kernel
theorem d_La_law_176 : decode b_La_law 176 = .ok (.iload 5, 2) := by decide +kernel
theorem d_La_law_178 : decode b_La_law 178 = .ok (.ifCond .ne 15, 3) := by decide +kernel
theorem d_La_law_181 : decode b_La_law 181 = .ok (.aload_n 3, 1) := by decide +kernel
theorem d_La_law_182 : decode b_La_law 182 = .ok (.iconst 0, 1) := by decide +kernel
theorem d_La_law_183 : decode b_La_law 183 = .ok (.laload, 1) := by decide +kernel
theorem d_La_law_184 : decode b_La_law 184 = .ok (.iload 6, 2) := by decide +kernel
theorem d_La_law_186 : decode b_La_law 186 = .ok (.i2l, 1) := by decide +kernel
theorem d_La_law_187 : decode b_La_law 187 = .ok (.lcmp, 1) := by decide +kernel
theorem d_La_law_188 : decode b_La_law 188 = .ok (.ifCond .eq 5, 3) := by decide +kernel
theorem d_La_law_191 : decode b_La_law 191 = .ok (.iconst 0, 1) := by decide +kernel
theorem d_La_law_192 : decode b_La_law 192 = .ok (.ireturn, 1) := by decide +kernel
theorem d_La_law_193 : decode b_La_law 193 = .ok (.goto 344, 3) := by decide +kernel
theorem d_La_law_196 : decode b_La_law 196 = .ok (.aload_n 1, 1) := by decide +kernel
theorem d_La_law_197 : decode b_La_law 197 = .ok (.aload_n 0, 1) := by decide +kernel
theorem d_La_law_198 : decode b_La_law 198 = .ok (.iload 4, 2) := by decide +kernel
theorem d_La_law_200 : decode b_La_law 200 = .ok (.iconst 1, 1) := by decide +kernel
theorem d_La_law_201 : decode b_La_law 201 = .ok (.iadd, 1) := by decide +kernel
theorem d_La_law_202 : decode b_La_law 202 = .ok (.iaload, 1) := by decide +kernel
theorem d_La_law_203 : decode b_La_law 203 = .ok (.aload_n 3, 1) := by decide +kernel
theorem d_La_law_204 : decode b_La_law 204 = .ok (.invokestatic 56, 3) := by decide +kernel
theorem d_La_law_207 : decode b_La_law 207 = .ok (.istore 5, 2) := by decide +kernel
theorem d_La_law_209 : decode b_La_law 209 = .ok (.aload_n 2, 1) := by decide +kernel
theorem d_La_law_210 : decode b_La_law 210 = .ok (.aload_n 0, 1) := by decide +kernel
theorem d_La_law_211 : decode b_La_law 211 = .ok (.iload 4, 2) := by decide +kernel
theorem d_La_law_213 : decode b_La_law 213 = .ok (.iconst 1, 1) := by decide +kernel
theorem d_La_law_214 : decode b_La_law 214 = .ok (.iadd, 1) := by decide +kernel
theorem d_La_law_215 : decode b_La_law 215 = .ok (.iaload, 1) := by decide +kernel
theorem d_La_law_216 : decode b_La_law 216 = .ok (.invokevirtual 59, 3) := by decide +kernel
theorem d_La_law_219 : decode b_La_law 219 = .ok (.istore 6, 2) := by decide +kernel
theorem d_La_law_221 : decode b_La_law 221 = .ok (.aload_n 2, 1) := by decide +kernel
theorem d_La_law_222 : decode b_La_law 222 = .ok (.invokevirtual 53, 3) := by decide +kernel
theorem d_La_law_225 : decode b_La_law 225 = .ok (.iload 5, 2) := by decide +kernel
theorem d_La_law_227 : decode b_La_law 227 = .ok (.if_icmp .eq 5, 3) := by decide +kernel
theorem d_La_law_230 : decode b_La_law 230 = .ok (.iconst 0, 1) := by decide +kernel
theorem d_La_law_231 : decode b_La_law 231 = .ok (.ireturn, 1) := by decide +kernel
theorem d_La_law_232 : decode b_La_law 232 = .ok (.iload 5, 2) := by decide +kernel
theorem d_La_law_234 : decode b_La_law 234 = .ok (.ifCond .ne 15, 3) := by decide +kernel
theorem d_La_law_237 : decode b_La_law 237 = .ok (.aload_n 3, 1) := by decide +kernel
theorem d_La_law_238 : decode b_La_law 238 = .ok (.iconst 0, 1) := by decide +kernel
theorem d_La_law_239 : decode b_La_law 239 = .ok (.laload, 1) := by decide +kernel
theorem d_La_law_240 : decode b_La_law 240 = .ok (.iload 6, 2) := by decide +kernel
theorem d_La_law_242 : decode b_La_law 242 = .ok (.i2l, 1) := by decide +kernel
theorem d_La_law_243 : decode b_La_law 243 = .ok (.lcmp, 1) := by decide +kernel
theorem d_La_law_244 : decode b_La_law 244 = .ok (.ifCond .eq 5, 3) := by decide +kernel
theorem d_La_law_247 : decode b_La_law 247 = .ok (.iconst 0, 1) := by decide +kernel
theorem d_La_law_248 : decode b_La_law 248 = .ok (.ireturn, 1) := by decide +kernel
theorem d_La_law_249 : decode b_La_law 249 = .ok (.goto 288, 3) := by decide +kernel
theorem d_La_law_252 : decode b_La_law 252 = .ok (.aload_n 1, 1) := by decide +kernel
theorem d_La_law_253 : decode b_La_law 253 = .ok (.aload_n 0, 1) := by decide +kernel
theorem d_La_law_254 : decode b_La_law 254 = .ok (.iload 4, 2) := by decide +kernel
theorem d_La_law_256 : decode b_La_law 256 = .ok (.iconst 1, 1) := by decide +kernel
theorem d_La_law_257 : decode b_La_law 257 = .ok (.iadd, 1) := by decide +kernel
theorem d_La_law_258 : decode b_La_law 258 = .ok (.iaload, 1) := by decide +kernel
theorem d_La_law_259 : decode b_La_law 259 = .ok (.aload_n 0, 1) := by decide +kernel
theorem d_La_law_260 : decode b_La_law 260 = .ok (.iload 4, 2) := by decide +kernel
theorem d_La_law_262 : decode b_La_law 262 = .ok (.iconst 2, 1) := by decide +kernel
theorem d_La_law_263 : decode b_La_law 263 = .ok (.iadd, 1) := by decide +kernel
theorem d_La_law_264 : decode b_La_law 264 = .ok (.iaload, 1) := by decide +kernel
theorem d_La_law_265 : decode b_La_law 265 = .ok (.invokestatic 60, 3) := by decide +kernel
theorem d_La_law_268 : decode b_La_law 268 = .ok (.istore 5, 2) := by decide +kernel
theorem d_La_law_270 : decode b_La_law 270 = .ok (.aload_n 2, 1) := by decide +kernel
theorem d_La_law_271 : decode b_La_law 271 = .ok (.aload_n 0, 1) := by decide +kernel
theorem d_La_law_272 : decode b_La_law 272 = .ok (.iload 4, 2) := by decide +kernel
theorem d_La_law_274 : decode b_La_law 274 = .ok (.iconst 1, 1) := by decide +kernel
theorem d_La_law_275 : decode b_La_law 275 = .ok (.iadd, 1) := by decide +kernel
theorem d_La_law_276 : decode b_La_law 276 = .ok (.iaload, 1) := by decide +kernel
theorem d_La_law_277 : decode b_La_law 277 = .ok (.aload_n 0, 1) := by decide +kernel
theorem d_La_law_278 : decode b_La_law 278 = .ok (.iload 4, 2) := by decide +kernel
theorem d_La_law_280 : decode b_La_law 280 = .ok (.iconst 2, 1) := by decide +kernel
theorem d_La_law_281 : decode b_La_law 281 = .ok (.iadd, 1) := by decide +kernel
theorem d_La_law_282 : decode b_La_law 282 = .ok (.iaload, 1) := by decide +kernel
theorem d_La_law_283 : decode b_La_law 283 = .ok (.invokevirtual 63, 3) := by decide +kernel
theorem d_La_law_286 : decode b_La_law 286 = .ok (.aload_n 2, 1) := by decide +kernel
theorem d_La_law_287 : decode b_La_law 287 = .ok (.invokevirtual 53, 3) := by decide +kernel
theorem d_La_law_290 : decode b_La_law 290 = .ok (.iload 5, 2) := by decide +kernel
theorem d_La_law_292 : decode b_La_law 292 = .ok (.if_icmp .eq 5, 3) := by decide +kernel
theorem d_La_law_295 : decode b_La_law 295 = .ok (.iconst 0, 1) := by decide +kernel
theorem d_La_law_296 : decode b_La_law 296 = .ok (.ireturn, 1) := by decide +kernel
theorem d_La_law_297 : decode b_La_law 297 = .ok (.goto 240, 3) := by decide +kernel
theorem d_La_law_300 : decode b_La_law 300 = .ok (.aload_n 1, 1) := by decide +kernel
theorem d_La_law_301 : decode b_La_law 301 = .ok (.invokevirtual 64, 3) := by decide +kernel
theorem d_La_law_304 : decode b_La_law 304 = .ok (.aload_n 2, 1) := by decide +kernel
theorem d_La_law_305 : decode b_La_law 305 = .ok (.invokevirtual 67, 3) := by decide +kernel
theorem d_La_law_308 : decode b_La_law 308 = .ok (.if_icmp .eq 229, 3) := by decide +kernel
theorem d_La_law_311 : decode b_La_law 311 = .ok (.iconst 0, 1) := by decide +kernel
theorem d_La_law_312 : decode b_La_law 312 = .ok (.ireturn, 1) := by decide +kernel
theorem d_La_law_313 : decode b_La_law 313 = .ok (.aload_n 1, 1) := by decide +kernel
theorem d_La_law_314 : decode b_La_law 314 = .ok (.aload_n 3, 1) := by decide +kernel
theorem d_La_law_315 : decode b_La_law 315 = .ok (.invokestatic 68, 3) := by decide +kernel
theorem d_La_law_318 : decode b_La_law 318 = .ok (.istore 5, 2) := by decide +kernel
theorem d_La_law_320 : decode b_La_law 320 = .ok (.aload_n 2, 1) := by decide +kernel
theorem d_La_law_321 : decode b_La_law 321 = .ok (.invokevirtual 71, 3) := by decide +kernel
theorem d_La_law_324 : decode b_La_law 324 = .ok (.istore 6, 2) := by decide +kernel
theorem d_La_law_326 : decode b_La_law 326 = .ok (.aload_n 2, 1) := by decide +kernel
theorem d_La_law_327 : decode b_La_law 327 = .ok (.invokevirtual 53, 3) := by decide +kernel
theorem d_La_law_330 : decode b_La_law 330 = .ok (.iload 5, 2) := by decide +kernel
theorem d_La_law_332 : decode b_La_law 332 = .ok (.if_icmp .eq 5, 3) := by decide +kernel
theorem d_La_law_335 : decode b_La_law 335 = .ok (.iconst 0, 1) := by decide +kernel
theorem d_La_law_336 : decode b_La_law 336 = .ok (.ireturn, 1) := by decide +kernel
theorem d_La_law_337 : decode b_La_law 337 = .ok (.iload 5, 2) := by decide +kernel
theorem d_La_law_339 : decode b_La_law 339 = .ok (.ifCond .ne 15, 3) := by decide +kernel
theorem d_La_law_342 : decode b_La_law 342 = .ok (.aload_n 3, 1) := by decide +kernel
theorem d_La_law_343 : decode b_La_law 343 = .ok (.iconst 0, 1) := by decide +kernel
theorem d_La_law_344 : decode b_La_law 344 = .ok (.laload, 1) := by decide +kernel
theorem d_La_law_345 : decode b_La_law 345 = .ok (.iload 6, 2) := by decide +kernel
theorem d_La_law_347 : decode b_La_law 347 = .ok (.i2l, 1) := by decide +kernel
theorem d_La_law_348 : decode b_La_law 348 = .ok (.lcmp, 1) := by decide +kernel
theorem d_La_law_349 : decode b_La_law 349 = .ok (.ifCond .eq 5, 3) := by decide +kernel
theorem d_La_law_352 : decode b_La_law 352 = .ok (.iconst 0, 1) := by decide +kernel
theorem d_La_law_353 : decode b_La_law 353 = .ok (.ireturn, 1) := by decide +kernel
theorem d_La_law_354 : decode b_La_law 354 = .ok (.goto 183, 3) := by decide +kernel
theorem d_La_law_357 : decode b_La_law 357 = .ok (.aload_n 1, 1) := by decide +kernel
theorem d_La_law_358 : decode b_La_law 358 = .ok (.aload_n 3, 1) := by decide +kernel
theorem d_La_law_359 : decode b_La_law 359 = .ok (.invokestatic 72, 3) := by decide +kernel
theorem d_La_law_362 : decode b_La_law 362 = .ok (.istore 5, 2) := by decide +kernel
theorem d_La_law_364 : decode b_La_law 364 = .ok (.aload_n 2, 1) := by decide +kernel
theorem d_La_law_365 : decode b_La_law 365 = .ok (.invokevirtual 74, 3) := by decide +kernel
theorem d_La_law_368 : decode b_La_law 368 = .ok (.istore 6, 2) := by decide +kernel
theorem d_La_law_370 : decode b_La_law 370 = .ok (.aload_n 2, 1) := by decide +kernel
theorem d_La_law_371 : decode b_La_law 371 = .ok (.invokevirtual 53, 3) := by decide +kernel
theorem d_La_law_374 : decode b_La_law 374 = .ok (.iload 5, 2) := by decide +kernel
theorem d_La_law_376 : decode b_La_law 376 = .ok (.if_icmp .eq 5, 3) := by decide +kernel
theorem d_La_law_379 : decode b_La_law 379 = .ok (.iconst 0, 1) := by decide +kernel
theorem d_La_law_380 : decode b_La_law 380 = .ok (.ireturn, 1) := by decide +kernel
theorem d_La_law_381 : decode b_La_law 381 = .ok (.iload 5, 2) := by decide +kernel
theorem d_La_law_383 : decode b_La_law 383 = .ok (.ifCond .ne 15, 3) := by decide +kernel
theorem d_La_law_386 : decode b_La_law 386 = .ok (.aload_n 3, 1) := by decide +kernel
theorem d_La_law_387 : decode b_La_law 387 = .ok (.iconst 0, 1) := by decide +kernel
theorem d_La_law_388 : decode b_La_law 388 = .ok (.laload, 1) := by decide +kernel
theorem d_La_law_389 : decode b_La_law 389 = .ok (.iload 6, 2) := by decide +kernel
theorem d_La_law_391 : decode b_La_law 391 = .ok (.i2l, 1) := by decide +kernel
theorem d_La_law_392 : decode b_La_law 392 = .ok (.lcmp, 1) := by decide +kernel
theorem d_La_law_393 : decode b_La_law 393 = .ok (.ifCond .eq 5, 3) := by decide +kernel
theorem d_La_law_396 : decode b_La_law 396 = .ok (.iconst 0, 1) := by decide +kernel
theorem d_La_law_397 : decode b_La_law 397 = .ok (.ireturn, 1) := by decide +kernel
theorem d_La_law_398 : decode b_La_law 398 = .ok (.goto 139, 3) := by decide +kernel
theorem d_La_law_401 : decode b_La_law 401 = .ok (.aload_n 1, 1) := by decide +kernel
theorem d_La_law_402 : decode b_La_law 402 = .ok (.aload_n 0, 1) := by decide +kernel
theorem d_La_law_403 : decode b_La_law 403 = .ok (.iload 4, 2) := by decide +kernel
theorem d_La_law_405 : decode b_La_law 405 = .ok (.iconst 1, 1) := by decide +kernel
theorem d_La_law_406 : decode b_La_law 406 = .ok (.iadd, 1) := by decide +kernel
theorem d_La_law_407 : decode b_La_law 407 = .ok (.iaload, 1) := by decide +kernel
theorem d_La_law_408 : decode b_La_law 408 = .ok (.aload_n 3, 1) := by decide +kernel
theorem d_La_law_409 : decode b_La_law 409 = .ok (.invokestatic 75, 3) := by decide +kernel
theorem d_La_law_412 : decode b_La_law 412 = .ok (.istore 5, 2) := by decide +kernel
theorem d_La_law_414 : decode b_La_law 414 = .ok (.aload_n 2, 1) := by decide +kernel
theorem d_La_law_415 : decode b_La_law 415 = .ok (.aload_n 0, 1) := by decide +kernel
theorem d_La_law_416 : decode b_La_law 416 = .ok (.iload 4, 2) := by decide +kernel
theorem d_La_law_418 : decode b_La_law 418 = .ok (.iconst 1, 1) := by decide +kernel
theorem d_La_law_419 : decode b_La_law 419 = .ok (.iadd, 1) := by decide +kernel
theorem d_La_law_420 : decode b_La_law 420 = .ok (.iaload, 1) := by decide +kernel
theorem d_La_law_421 : decode b_La_law 421 = .ok (.invokevirtual 77, 3) := by decide +kernel
theorem d_La_law_424 : decode b_La_law 424 = .ok (.lstore 6, 2) := by decide +kernel
theorem d_La_law_426 : decode b_La_law 426 = .ok (.aload_n 2, 1) := by decide +kernel
theorem d_La_law_427 : decode b_La_law 427 = .ok (.invokevirtual 53, 3) := by decide +kernel
theorem d_La_law_430 : decode b_La_law 430 = .ok (.iload 5, 2) := by decide +kernel
theorem d_La_law_432 : decode b_La_law 432 = .ok (.if_icmp .eq 5, 3) := by decide +kernel
theorem d_La_law_435 : decode b_La_law 435 = .ok (.iconst 0, 1) := by decide +kernel
theorem d_La_law_436 : decode b_La_law 436 = .ok (.ireturn, 1) := by decide +kernel
theorem d_La_law_437 : decode b_La_law 437 = .ok (.iload 5, 2) := by decide +kernel
theorem d_La_law_439 : decode b_La_law 439 = .ok (.ifCond .ne 14, 3) := by decide +kernel
theorem d_La_law_442 : decode b_La_law 442 = .ok (.aload_n 3, 1) := by decide +kernel
theorem d_La_law_443 : decode b_La_law 443 = .ok (.iconst 0, 1) := by decide +kernel
theorem d_La_law_444 : decode b_La_law 444 = .ok (.laload, 1) := by decide +kernel
theorem d_La_law_445 : decode b_La_law 445 = .ok (.lload 6, 2) := by decide +kernel
theorem d_La_law_447 : decode b_La_law 447 = .ok (.lcmp, 1) := by decide +kernel
theorem d_La_law_448 : decode b_La_law 448 = .ok (.ifCond .eq 5, 3) := by decide +kernel
theorem d_La_law_451 : decode b_La_law 451 = .ok (.iconst 0, 1) := by decide +kernel
theorem d_La_law_452 : decode b_La_law 452 = .ok (.ireturn, 1) := by decide +kernel
theorem d_La_law_453 : decode b_La_law 453 = .ok (.goto 84, 3) := by decide +kernel
theorem d_La_law_456 : decode b_La_law 456 = .ok (.aload_n 1, 1) := by decide +kernel
theorem d_La_law_457 : decode b_La_law 457 = .ok (.aload_n 0, 1) := by decide +kernel
theorem d_La_law_458 : decode b_La_law 458 = .ok (.iload 4, 2) := by decide +kernel
theorem d_La_law_460 : decode b_La_law 460 = .ok (.iconst 1, 1) := by decide +kernel
theorem d_La_law_461 : decode b_La_law 461 = .ok (.iadd, 1) := by decide +kernel
theorem d_La_law_462 : decode b_La_law 462 = .ok (.iaload, 1) := by decide +kernel
theorem d_La_law_463 : decode b_La_law 463 = .ok (.aload_n 3, 1) := by decide +kernel
theorem d_La_law_464 : decode b_La_law 464 = .ok (.invokestatic 78, 3) := by decide +kernel
theorem d_La_law_467 : decode b_La_law 467 = .ok (.istore 5, 2) := by decide +kernel
theorem d_La_law_469 : decode b_La_law 469 = .ok (.aload_n 2, 1) := by decide +kernel
theorem d_La_law_470 : decode b_La_law 470 = .ok (.aload_n 0, 1) := by decide +kernel
theorem d_La_law_471 : decode b_La_law 471 = .ok (.iload 4, 2) := by decide +kernel
theorem d_La_law_473 : decode b_La_law 473 = .ok (.iconst 1, 1) := by decide +kernel
theorem d_La_law_474 : decode b_La_law 474 = .ok (.iadd, 1) := by decide +kernel
theorem d_La_law_475 : decode b_La_law 475 = .ok (.iaload, 1) := by decide +kernel
theorem d_La_law_476 : decode b_La_law 476 = .ok (.invokevirtual 80, 3) := by decide +kernel
