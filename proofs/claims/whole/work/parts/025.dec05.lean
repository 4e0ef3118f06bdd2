theorem dX12_setsAside_272 : decode cX12_setsAside 272 = .ok (.goto (-24), 3) := by decide +kernel
theorem dX12_setsAside_275 : decode cX12_setsAside 275 = .ok (.iconst 0, 1) := by decide +kernel
theorem dX12_setsAside_276 : decode cX12_setsAside 276 = .ok (.istore_n 2, 1) := by decide +kernel
theorem dX12_setsAside_277 : decode cX12_setsAside 277 = .ok (.iload_n 2, 1) := by decide +kernel
theorem dX12_setsAside_278 : decode cX12_setsAside 278 = .ok (.sipush 192, 3) := by decide +kernel
theorem dX12_setsAside_281 : decode cX12_setsAside 281 = .ok (.if_icmp .ge 27, 3) := by decide +kernel
theorem dX12_setsAside_284 : decode cX12_setsAside 284 = .ok (.aload_n 0, 1) := by decide +kernel
theorem dX12_setsAside_285 : decode cX12_setsAside 285 = .ok (.getfield 151, 3) := by decide +kernel
theorem dX12_setsAside_288 : decode cX12_setsAside 288 = .ok (.sipush 192, 3) := by decide +kernel
theorem dX12_setsAside_291 : decode cX12_setsAside 291 = .ok (.iload_n 1, 1) := by decide +kernel
theorem dX12_setsAside_292 : decode cX12_setsAside 292 = .ok (.imul, 1) := by decide +kernel
theorem dX12_setsAside_293 : decode cX12_setsAside 293 = .ok (.iload_n 2, 1) := by decide +kernel
theorem dX12_setsAside_294 : decode cX12_setsAside 294 = .ok (.iadd, 1) := by decide +kernel
theorem dX12_setsAside_295 : decode cX12_setsAside 295 = .ok (.aload_n 0, 1) := by decide +kernel
theorem dX12_setsAside_296 : decode cX12_setsAside 296 = .ok (.getfield 61, 3) := by decide +kernel
theorem dX12_setsAside_299 : decode cX12_setsAside 299 = .ok (.iload_n 2, 1) := by decide +kernel
theorem dX12_setsAside_300 : decode cX12_setsAside 300 = .ok (.iaload, 1) := by decide +kernel
theorem dX12_setsAside_301 : decode cX12_setsAside 301 = .ok (.iastore, 1) := by decide +kernel
theorem dX12_setsAside_302 : decode cX12_setsAside 302 = .ok (.iinc 2 1, 3) := by decide +kernel
theorem dX12_setsAside_305 : decode cX12_setsAside 305 = .ok (.goto (-28), 3) := by decide +kernel
theorem dX12_setsAside_308 : decode cX12_setsAside 308 = .ok (.aload_n 0, 1) := by decide +kernel
theorem dX12_setsAside_309 : decode cX12_setsAside 309 = .ok (.getfield 154, 3) := by decide +kernel
theorem dX12_setsAside_312 : decode cX12_setsAside 312 = .ok (.bipush 6, 2) := by decide +kernel
theorem dX12_setsAside_314 : decode cX12_setsAside 314 = .ok (.iload_n 1, 1) := by decide +kernel
theorem dX12_setsAside_315 : decode cX12_setsAside 315 = .ok (.imul, 1) := by decide +kernel
theorem dX12_setsAside_316 : decode cX12_setsAside 316 = .ok (.aload_n 0, 1) := by decide +kernel
theorem dX12_setsAside_317 : decode cX12_setsAside 317 = .ok (.getfield 192, 3) := by decide +kernel
theorem dX12_setsAside_320 : decode cX12_setsAside 320 = .ok (.iastore, 1) := by decide +kernel
theorem dX12_setsAside_321 : decode cX12_setsAside 321 = .ok (.aload_n 0, 1) := by decide +kernel
theorem dX12_setsAside_322 : decode cX12_setsAside 322 = .ok (.getfield 154, 3) := by decide +kernel
theorem dX12_setsAside_325 : decode cX12_setsAside 325 = .ok (.bipush 6, 2) := by decide +kernel
theorem dX12_setsAside_327 : decode cX12_setsAside 327 = .ok (.iload_n 1, 1) := by decide +kernel
theorem dX12_setsAside_328 : decode cX12_setsAside 328 = .ok (.imul, 1) := by decide +kernel
theorem dX12_setsAside_329 : decode cX12_setsAside 329 = .ok (.iconst 1, 1) := by decide +kernel
theorem dX12_setsAside_330 : decode cX12_setsAside 330 = .ok (.iadd, 1) := by decide +kernel
theorem dX12_setsAside_331 : decode cX12_setsAside 331 = .ok (.aload_n 0, 1) := by decide +kernel
theorem dX12_setsAside_332 : decode cX12_setsAside 332 = .ok (.getfield 199, 3) := by decide +kernel
theorem dX12_setsAside_335 : decode cX12_setsAside 335 = .ok (.iastore, 1) := by decide +kernel
theorem dX12_setsAside_336 : decode cX12_setsAside 336 = .ok (.aload_n 0, 1) := by decide +kernel
theorem dX12_setsAside_337 : decode cX12_setsAside 337 = .ok (.getfield 154, 3) := by decide +kernel
theorem dX12_setsAside_340 : decode cX12_setsAside 340 = .ok (.bipush 6, 2) := by decide +kernel
theorem dX12_setsAside_342 : decode cX12_setsAside 342 = .ok (.iload_n 1, 1) := by decide +kernel
theorem dX12_setsAside_343 : decode cX12_setsAside 343 = .ok (.imul, 1) := by decide +kernel
theorem dX12_setsAside_344 : decode cX12_setsAside 344 = .ok (.iconst 2, 1) := by decide +kernel
theorem dX12_setsAside_345 : decode cX12_setsAside 345 = .ok (.iadd, 1) := by decide +kernel
theorem dX12_setsAside_346 : decode cX12_setsAside 346 = .ok (.aload_n 0, 1) := by decide +kernel
theorem dX12_setsAside_347 : decode cX12_setsAside 347 = .ok (.getfield 359, 3) := by decide +kernel
theorem dX12_setsAside_350 : decode cX12_setsAside 350 = .ok (.iastore, 1) := by decide +kernel
theorem dX12_setsAside_351 : decode cX12_setsAside 351 = .ok (.aload_n 0, 1) := by decide +kernel
theorem dX12_setsAside_352 : decode cX12_setsAside 352 = .ok (.getfield 154, 3) := by decide +kernel
theorem dX12_setsAside_355 : decode cX12_setsAside 355 = .ok (.bipush 6, 2) := by decide +kernel
theorem dX12_setsAside_357 : decode cX12_setsAside 357 = .ok (.iload_n 1, 1) := by decide +kernel
theorem dX12_setsAside_358 : decode cX12_setsAside 358 = .ok (.imul, 1) := by decide +kernel
theorem dX12_setsAside_359 : decode cX12_setsAside 359 = .ok (.iconst 3, 1) := by decide +kernel
theorem dX12_setsAside_360 : decode cX12_setsAside 360 = .ok (.iadd, 1) := by decide +kernel
theorem dX12_setsAside_361 : decode cX12_setsAside 361 = .ok (.aload_n 0, 1) := by decide +kernel
theorem dX12_setsAside_362 : decode cX12_setsAside 362 = .ok (.getfield 17, 3) := by decide +kernel
theorem dX12_setsAside_365 : decode cX12_setsAside 365 = .ok (.iastore, 1) := by decide +kernel
theorem dX12_setsAside_366 : decode cX12_setsAside 366 = .ok (.aload_n 0, 1) := by decide +kernel
theorem dX12_setsAside_367 : decode cX12_setsAside 367 = .ok (.getfield 154, 3) := by decide +kernel
theorem dX12_setsAside_370 : decode cX12_setsAside 370 = .ok (.bipush 6, 2) := by decide +kernel
theorem dX12_setsAside_372 : decode cX12_setsAside 372 = .ok (.iload_n 1, 1) := by decide +kernel
theorem dX12_setsAside_373 : decode cX12_setsAside 373 = .ok (.imul, 1) := by decide +kernel
theorem dX12_setsAside_374 : decode cX12_setsAside 374 = .ok (.iconst 4, 1) := by decide +kernel
theorem dX12_setsAside_375 : decode cX12_setsAside 375 = .ok (.iadd, 1) := by decide +kernel
theorem dX12_setsAside_376 : decode cX12_setsAside 376 = .ok (.aload_n 0, 1) := by decide +kernel
theorem dX12_setsAside_377 : decode cX12_setsAside 377 = .ok (.getfield 225, 3) := by decide +kernel
theorem dX12_setsAside_380 : decode cX12_setsAside 380 = .ok (.iastore, 1) := by decide +kernel
theorem dX12_setsAside_381 : decode cX12_setsAside 381 = .ok (.aload_n 0, 1) := by decide +kernel
theorem dX12_setsAside_382 : decode cX12_setsAside 382 = .ok (.getfield 154, 3) := by decide +kernel
theorem dX12_setsAside_385 : decode cX12_setsAside 385 = .ok (.bipush 6, 2) := by decide +kernel
theorem dX12_setsAside_387 : decode cX12_setsAside 387 = .ok (.iload_n 1, 1) := by decide +kernel
theorem dX12_setsAside_388 : decode cX12_setsAside 388 = .ok (.imul, 1) := by decide +kernel
theorem dX12_setsAside_389 : decode cX12_setsAside 389 = .ok (.iconst 5, 1) := by decide +kernel
theorem dX12_setsAside_390 : decode cX12_setsAside 390 = .ok (.iadd, 1) := by decide +kernel
theorem dX12_setsAside_391 : decode cX12_setsAside 391 = .ok (.aload_n 0, 1) := by decide +kernel
theorem dX12_setsAside_392 : decode cX12_setsAside 392 = .ok (.getfield 13, 3) := by decide +kernel
theorem dX12_setsAside_395 : decode cX12_setsAside 395 = .ok (.iastore, 1) := by decide +kernel
theorem dX12_setsAside_396 : decode cX12_setsAside 396 = .ok (.return_, 1) := by decide +kernel
theorem dX12_putsBack_0 : decode cX12_putsBack 0 = .ok (.iconst 0, 1) := by decide +kernel
theorem dX12_putsBack_1 : decode cX12_putsBack 1 = .ok (.istore_n 2, 1) := by decide +kernel
theorem dX12_putsBack_2 : decode cX12_putsBack 2 = .ok (.iload_n 2, 1) := by decide +kernel
theorem dX12_putsBack_3 : decode cX12_putsBack 3 = .ok (.bipush 12, 2) := by decide +kernel
theorem dX12_putsBack_5 : decode cX12_putsBack 5 = .ok (.if_icmp .ge 128, 3) := by decide +kernel
theorem dX12_putsBack_8 : decode cX12_putsBack 8 = .ok (.aload_n 0, 1) := by decide +kernel
theorem dX12_putsBack_9 : decode cX12_putsBack 9 = .ok (.getfield 20, 3) := by decide +kernel
theorem dX12_putsBack_12 : decode cX12_putsBack 12 = .ok (.iload_n 2, 1) := by decide +kernel
theorem dX12_putsBack_13 : decode cX12_putsBack 13 = .ok (.aload_n 0, 1) := by decide +kernel
theorem dX12_putsBack_14 : decode cX12_putsBack 14 = .ok (.getfield 112, 3) := by decide +kernel
theorem dX12_putsBack_17 : decode cX12_putsBack 17 = .ok (.bipush 12, 2) := by decide +kernel
theorem dX12_putsBack_19 : decode cX12_putsBack 19 = .ok (.iload_n 1, 1) := by decide +kernel
theorem dX12_putsBack_20 : decode cX12_putsBack 20 = .ok (.imul, 1) := by decide +kernel
theorem dX12_putsBack_21 : decode cX12_putsBack 21 = .ok (.iload_n 2, 1) := by decide +kernel
theorem dX12_putsBack_22 : decode cX12_putsBack 22 = .ok (.iadd, 1) := by decide +kernel
theorem dX12_putsBack_23 : decode cX12_putsBack 23 = .ok (.iaload, 1) := by decide +kernel
theorem dX12_putsBack_24 : decode cX12_putsBack 24 = .ok (.iastore, 1) := by decide +kernel
theorem dX12_putsBack_25 : decode cX12_putsBack 25 = .ok (.aload_n 0, 1) := by decide +kernel
theorem dX12_putsBack_26 : decode cX12_putsBack 26 = .ok (.getfield 24, 3) := by decide +kernel
theorem dX12_putsBack_29 : decode cX12_putsBack 29 = .ok (.iload_n 2, 1) := by decide +kernel
theorem dX12_putsBack_30 : decode cX12_putsBack 30 = .ok (.aload_n 0, 1) := by decide +kernel
theorem dX12_putsBack_31 : decode cX12_putsBack 31 = .ok (.getfield 115, 3) := by decide +kernel
theorem dX12_putsBack_34 : decode cX12_putsBack 34 = .ok (.bipush 12, 2) := by decide +kernel
theorem dX12_putsBack_36 : decode cX12_putsBack 36 = .ok (.iload_n 1, 1) := by decide +kernel
theorem dX12_putsBack_37 : decode cX12_putsBack 37 = .ok (.imul, 1) := by decide +kernel
theorem dX12_putsBack_38 : decode cX12_putsBack 38 = .ok (.iload_n 2, 1) := by decide +kernel
theorem dX12_putsBack_39 : decode cX12_putsBack 39 = .ok (.iadd, 1) := by decide +kernel
theorem dX12_putsBack_40 : decode cX12_putsBack 40 = .ok (.iaload, 1) := by decide +kernel
theorem dX12_putsBack_41 : decode cX12_putsBack 41 = .ok (.iastore, 1) := by decide +kernel
theorem dX12_putsBack_42 : decode cX12_putsBack 42 = .ok (.aload_n 0, 1) := by decide +kernel
theorem dX12_putsBack_43 : decode cX12_putsBack 43 = .ok (.getfield 27, 3) := by decide +kernel
theorem dX12_putsBack_46 : decode cX12_putsBack 46 = .ok (.iload_n 2, 1) := by decide +kernel
theorem dX12_putsBack_47 : decode cX12_putsBack 47 = .ok (.aload_n 0, 1) := by decide +kernel
theorem dX12_putsBack_48 : decode cX12_putsBack 48 = .ok (.getfield 118, 3) := by decide +kernel
theorem dX12_putsBack_51 : decode cX12_putsBack 51 = .ok (.bipush 12, 2) := by decide +kernel
theorem dX12_putsBack_53 : decode cX12_putsBack 53 = .ok (.iload_n 1, 1) := by decide +kernel
theorem dX12_putsBack_54 : decode cX12_putsBack 54 = .ok (.imul, 1) := by decide +kernel
theorem dX12_putsBack_55 : decode cX12_putsBack 55 = .ok (.iload_n 2, 1) := by decide +kernel
theorem dX12_putsBack_56 : decode cX12_putsBack 56 = .ok (.iadd, 1) := by decide +kernel
theorem dX12_putsBack_57 : decode cX12_putsBack 57 = .ok (.iaload, 1) := by decide +kernel
theorem dX12_putsBack_58 : decode cX12_putsBack 58 = .ok (.iastore, 1) := by decide +kernel
theorem dX12_putsBack_59 : decode cX12_putsBack 59 = .ok (.aload_n 0, 1) := by decide +kernel
theorem dX12_putsBack_60 : decode cX12_putsBack 60 = .ok (.getfield 30, 3) := by decide +kernel
theorem dX12_putsBack_63 : decode cX12_putsBack 63 = .ok (.iload_n 2, 1) := by decide +kernel
theorem dX12_putsBack_64 : decode cX12_putsBack 64 = .ok (.aload_n 0, 1) := by decide +kernel
theorem dX12_putsBack_65 : decode cX12_putsBack 65 = .ok (.getfield 121, 3) := by decide +kernel
theorem dX12_putsBack_68 : decode cX12_putsBack 68 = .ok (.bipush 12, 2) := by decide +kernel
theorem dX12_putsBack_70 : decode cX12_putsBack 70 = .ok (.iload_n 1, 1) := by decide +kernel
theorem dX12_putsBack_71 : decode cX12_putsBack 71 = .ok (.imul, 1) := by decide +kernel
theorem dX12_putsBack_72 : decode cX12_putsBack 72 = .ok (.iload_n 2, 1) := by decide +kernel
theorem dX12_putsBack_73 : decode cX12_putsBack 73 = .ok (.iadd, 1) := by decide +kernel
theorem dX12_putsBack_74 : decode cX12_putsBack 74 = .ok (.iaload, 1) := by decide +kernel
theorem dX12_putsBack_75 : decode cX12_putsBack 75 = .ok (.iastore, 1) := by decide +kernel
theorem dX12_putsBack_76 : decode cX12_putsBack 76 = .ok (.aload_n 0, 1) := by decide +kernel
theorem dX12_putsBack_77 : decode cX12_putsBack 77 = .ok (.getfield 33, 3) := by decide +kernel
theorem dX12_putsBack_80 : decode cX12_putsBack 80 = .ok (.iload_n 2, 1) := by decide +kernel
theorem dX12_putsBack_81 : decode cX12_putsBack 81 = .ok (.aload_n 0, 1) := by decide +kernel
theorem dX12_putsBack_82 : decode cX12_putsBack 82 = .ok (.getfield 124, 3) := by decide +kernel
theorem dX12_putsBack_85 : decode cX12_putsBack 85 = .ok (.bipush 12, 2) := by decide +kernel
theorem dX12_putsBack_87 : decode cX12_putsBack 87 = .ok (.iload_n 1, 1) := by decide +kernel
theorem dX12_putsBack_88 : decode cX12_putsBack 88 = .ok (.imul, 1) := by decide +kernel
theorem dX12_putsBack_89 : decode cX12_putsBack 89 = .ok (.iload_n 2, 1) := by decide +kernel
theorem dX12_putsBack_90 : decode cX12_putsBack 90 = .ok (.iadd, 1) := by decide +kernel
theorem dX12_putsBack_91 : decode cX12_putsBack 91 = .ok (.iaload, 1) := by decide +kernel
theorem dX12_putsBack_92 : decode cX12_putsBack 92 = .ok (.iastore, 1) := by decide +kernel
theorem dX12_putsBack_93 : decode cX12_putsBack 93 = .ok (.aload_n 0, 1) := by decide +kernel
theorem dX12_putsBack_94 : decode cX12_putsBack 94 = .ok (.getfield 36, 3) := by decide +kernel
theorem dX12_putsBack_97 : decode cX12_putsBack 97 = .ok (.iload_n 2, 1) := by decide +kernel
theorem dX12_putsBack_98 : decode cX12_putsBack 98 = .ok (.aload_n 0, 1) := by decide +kernel
theorem dX12_putsBack_99 : decode cX12_putsBack 99 = .ok (.getfield 127, 3) := by decide +kernel
theorem dX12_putsBack_102 : decode cX12_putsBack 102 = .ok (.bipush 12, 2) := by decide +kernel
theorem dX12_putsBack_104 : decode cX12_putsBack 104 = .ok (.iload_n 1, 1) := by decide +kernel
theorem dX12_putsBack_105 : decode cX12_putsBack 105 = .ok (.imul, 1) := by decide +kernel
theorem dX12_putsBack_106 : decode cX12_putsBack 106 = .ok (.iload_n 2, 1) := by decide +kernel
theorem dX12_putsBack_107 : decode cX12_putsBack 107 = .ok (.iadd, 1) := by decide +kernel
theorem dX12_putsBack_108 : decode cX12_putsBack 108 = .ok (.iaload, 1) := by decide +kernel
theorem dX12_putsBack_109 : decode cX12_putsBack 109 = .ok (.iastore, 1) := by decide +kernel
theorem dX12_putsBack_110 : decode cX12_putsBack 110 = .ok (.aload_n 0, 1) := by decide +kernel
theorem dX12_putsBack_111 : decode cX12_putsBack 111 = .ok (.getfield 39, 3) := by decide +kernel
theorem dX12_putsBack_114 : decode cX12_putsBack 114 = .ok (.iload_n 2, 1) := by decide +kernel
theorem dX12_putsBack_115 : decode cX12_putsBack 115 = .ok (.aload_n 0, 1) := by decide +kernel
theorem dX12_putsBack_116 : decode cX12_putsBack 116 = .ok (.getfield 130, 3) := by decide +kernel
theorem dX12_putsBack_119 : decode cX12_putsBack 119 = .ok (.bipush 12, 2) := by decide +kernel
theorem dX12_putsBack_121 : decode cX12_putsBack 121 = .ok (.iload_n 1, 1) := by decide +kernel
theorem dX12_putsBack_122 : decode cX12_putsBack 122 = .ok (.imul, 1) := by decide +kernel
theorem dX12_putsBack_123 : decode cX12_putsBack 123 = .ok (.iload_n 2, 1) := by decide +kernel
theorem dX12_putsBack_124 : decode cX12_putsBack 124 = .ok (.iadd, 1) := by decide +kernel
theorem dX12_putsBack_125 : decode cX12_putsBack 125 = .ok (.baload, 1) := by decide +kernel
theorem dX12_putsBack_126 : decode cX12_putsBack 126 = .ok (.bastore, 1) := by decide +kernel
theorem dX12_putsBack_127 : decode cX12_putsBack 127 = .ok (.iinc 2 1, 3) := by decide +kernel
theorem dX12_putsBack_130 : decode cX12_putsBack 130 = .ok (.goto (-128), 3) := by decide +kernel
theorem dX12_putsBack_133 : decode cX12_putsBack 133 = .ok (.iconst 0, 1) := by decide +kernel
theorem dX12_putsBack_134 : decode cX12_putsBack 134 = .ok (.istore_n 2, 1) := by decide +kernel
theorem dX12_putsBack_135 : decode cX12_putsBack 135 = .ok (.iload_n 2, 1) := by decide +kernel
theorem dX12_putsBack_136 : decode cX12_putsBack 136 = .ok (.bipush 16, 2) := by decide +kernel
theorem dX12_putsBack_138 : decode cX12_putsBack 138 = .ok (.if_icmp .ge 77, 3) := by decide +kernel
theorem dX12_putsBack_141 : decode cX12_putsBack 141 = .ok (.aload_n 0, 1) := by decide +kernel
theorem dX12_putsBack_142 : decode cX12_putsBack 142 = .ok (.getfield 43, 3) := by decide +kernel
theorem dX12_putsBack_145 : decode cX12_putsBack 145 = .ok (.iload_n 2, 1) := by decide +kernel
theorem dX12_putsBack_146 : decode cX12_putsBack 146 = .ok (.aload_n 0, 1) := by decide +kernel
theorem dX12_putsBack_147 : decode cX12_putsBack 147 = .ok (.getfield 133, 3) := by decide +kernel
theorem dX12_putsBack_150 : decode cX12_putsBack 150 = .ok (.bipush 16, 2) := by decide +kernel
theorem dX12_putsBack_152 : decode cX12_putsBack 152 = .ok (.iload_n 1, 1) := by decide +kernel
theorem dX12_putsBack_153 : decode cX12_putsBack 153 = .ok (.imul, 1) := by decide +kernel
theorem dX12_putsBack_154 : decode cX12_putsBack 154 = .ok (.iload_n 2, 1) := by decide +kernel
theorem dX12_putsBack_155 : decode cX12_putsBack 155 = .ok (.iadd, 1) := by decide +kernel
theorem dX12_putsBack_156 : decode cX12_putsBack 156 = .ok (.iaload, 1) := by decide +kernel
theorem dX12_putsBack_157 : decode cX12_putsBack 157 = .ok (.iastore, 1) := by decide +kernel
theorem dX12_putsBack_158 : decode cX12_putsBack 158 = .ok (.aload_n 0, 1) := by decide +kernel
theorem dX12_putsBack_159 : decode cX12_putsBack 159 = .ok (.getfield 46, 3) := by decide +kernel
theorem dX12_putsBack_162 : decode cX12_putsBack 162 = .ok (.iload_n 2, 1) := by decide +kernel
theorem dX12_putsBack_163 : decode cX12_putsBack 163 = .ok (.aload_n 0, 1) := by decide +kernel
theorem dX12_putsBack_164 : decode cX12_putsBack 164 = .ok (.getfield 136, 3) := by decide +kernel
theorem dX12_putsBack_167 : decode cX12_putsBack 167 = .ok (.bipush 16, 2) := by decide +kernel
theorem dX12_putsBack_169 : decode cX12_putsBack 169 = .ok (.iload_n 1, 1) := by decide +kernel
theorem dX12_putsBack_170 : decode cX12_putsBack 170 = .ok (.imul, 1) := by decide +kernel
theorem dX12_putsBack_171 : decode cX12_putsBack 171 = .ok (.iload_n 2, 1) := by decide +kernel
theorem dX12_putsBack_172 : decode cX12_putsBack 172 = .ok (.iadd, 1) := by decide +kernel
theorem dX12_putsBack_173 : decode cX12_putsBack 173 = .ok (.iaload, 1) := by decide +kernel
theorem dX12_putsBack_174 : decode cX12_putsBack 174 = .ok (.iastore, 1) := by decide +kernel
theorem dX12_putsBack_175 : decode cX12_putsBack 175 = .ok (.aload_n 0, 1) := by decide +kernel
theorem dX12_putsBack_176 : decode cX12_putsBack 176 = .ok (.getfield 49, 3) := by decide +kernel
theorem dX12_putsBack_179 : decode cX12_putsBack 179 = .ok (.iload_n 2, 1) := by decide +kernel
theorem dX12_putsBack_180 : decode cX12_putsBack 180 = .ok (.aload_n 0, 1) := by decide +kernel
theorem dX12_putsBack_181 : decode cX12_putsBack 181 = .ok (.getfield 139, 3) := by decide +kernel
theorem dX12_putsBack_184 : decode cX12_putsBack 184 = .ok (.bipush 16, 2) := by decide +kernel
theorem dX12_putsBack_186 : decode cX12_putsBack 186 = .ok (.iload_n 1, 1) := by decide +kernel
theorem dX12_putsBack_187 : decode cX12_putsBack 187 = .ok (.imul, 1) := by decide +kernel
theorem dX12_putsBack_188 : decode cX12_putsBack 188 = .ok (.iload_n 2, 1) := by decide +kernel
theorem dX12_putsBack_189 : decode cX12_putsBack 189 = .ok (.iadd, 1) := by decide +kernel
theorem dX12_putsBack_190 : decode cX12_putsBack 190 = .ok (.iaload, 1) := by decide +kernel
theorem dX12_putsBack_191 : decode cX12_putsBack 191 = .ok (.iastore, 1) := by decide +kernel
theorem dX12_putsBack_192 : decode cX12_putsBack 192 = .ok (.aload_n 0, 1) := by decide +kernel
theorem dX12_putsBack_193 : decode cX12_putsBack 193 = .ok (.getfield 52, 3) := by decide +kernel
theorem dX12_putsBack_196 : decode cX12_putsBack 196 = .ok (.iload_n 2, 1) := by decide +kernel
theorem dX12_putsBack_197 : decode cX12_putsBack 197 = .ok (.aload_n 0, 1) := by decide +kernel
theorem dX12_putsBack_198 : decode cX12_putsBack 198 = .ok (.getfield 142, 3) := by decide +kernel
theorem dX12_putsBack_201 : decode cX12_putsBack 201 = .ok (.bipush 16, 2) := by decide +kernel
theorem dX12_putsBack_203 : decode cX12_putsBack 203 = .ok (.iload_n 1, 1) := by decide +kernel
theorem dX12_putsBack_204 : decode cX12_putsBack 204 = .ok (.imul, 1) := by decide +kernel
theorem dX12_putsBack_205 : decode cX12_putsBack 205 = .ok (.iload_n 2, 1) := by decide +kernel
theorem dX12_putsBack_206 : decode cX12_putsBack 206 = .ok (.iadd, 1) := by decide +kernel
theorem dX12_putsBack_207 : decode cX12_putsBack 207 = .ok (.iaload, 1) := by decide +kernel
theorem dX12_putsBack_208 : decode cX12_putsBack 208 = .ok (.iastore, 1) := by decide +kernel
theorem dX12_putsBack_209 : decode cX12_putsBack 209 = .ok (.iinc 2 1, 3) := by decide +kernel
theorem dX12_putsBack_212 : decode cX12_putsBack 212 = .ok (.goto (-77), 3) := by decide +kernel
theorem dX12_putsBack_215 : decode cX12_putsBack 215 = .ok (.iconst 0, 1) := by decide +kernel
theorem dX12_putsBack_216 : decode cX12_putsBack 216 = .ok (.istore_n 2, 1) := by decide +kernel
theorem dX12_putsBack_217 : decode cX12_putsBack 217 = .ok (.iload_n 2, 1) := by decide +kernel
theorem dX12_putsBack_218 : decode cX12_putsBack 218 = .ok (.bipush 80, 2) := by decide +kernel
theorem dX12_putsBack_220 : decode cX12_putsBack 220 = .ok (.if_icmp .ge 26, 3) := by decide +kernel
theorem dX12_putsBack_223 : decode cX12_putsBack 223 = .ok (.aload_n 0, 1) := by decide +kernel
theorem dX12_putsBack_224 : decode cX12_putsBack 224 = .ok (.getfield 55, 3) := by decide +kernel
theorem dX12_putsBack_227 : decode cX12_putsBack 227 = .ok (.iload_n 2, 1) := by decide +kernel
theorem dX12_putsBack_228 : decode cX12_putsBack 228 = .ok (.aload_n 0, 1) := by decide +kernel
theorem dX12_putsBack_229 : decode cX12_putsBack 229 = .ok (.getfield 145, 3) := by decide +kernel
theorem dX12_putsBack_232 : decode cX12_putsBack 232 = .ok (.bipush 80, 2) := by decide +kernel
theorem dX12_putsBack_234 : decode cX12_putsBack 234 = .ok (.iload_n 1, 1) := by decide +kernel
theorem dX12_putsBack_235 : decode cX12_putsBack 235 = .ok (.imul, 1) := by decide +kernel
theorem dX12_putsBack_236 : decode cX12_putsBack 236 = .ok (.iload_n 2, 1) := by decide +kernel
theorem dX12_putsBack_237 : decode cX12_putsBack 237 = .ok (.iadd, 1) := by decide +kernel
theorem dX12_putsBack_238 : decode cX12_putsBack 238 = .ok (.iaload, 1) := by decide +kernel
theorem dX12_putsBack_239 : decode cX12_putsBack 239 = .ok (.iastore, 1) := by decide +kernel
theorem dX12_putsBack_240 : decode cX12_putsBack 240 = .ok (.iinc 2 1, 3) := by decide +kernel
theorem dX12_putsBack_243 : decode cX12_putsBack 243 = .ok (.goto (-26), 3) := by decide +kernel
theorem dX12_putsBack_246 : decode cX12_putsBack 246 = .ok (.iconst 0, 1) := by decide +kernel
theorem dX12_putsBack_247 : decode cX12_putsBack 247 = .ok (.istore_n 2, 1) := by decide +kernel
theorem dX12_putsBack_248 : decode cX12_putsBack 248 = .ok (.iload_n 2, 1) := by decide +kernel
theorem dX12_putsBack_249 : decode cX12_putsBack 249 = .ok (.iconst 5, 1) := by decide +kernel
theorem dX12_putsBack_250 : decode cX12_putsBack 250 = .ok (.if_icmp .ge 25, 3) := by decide +kernel
theorem dX12_putsBack_253 : decode cX12_putsBack 253 = .ok (.aload_n 0, 1) := by decide +kernel
theorem dX12_putsBack_254 : decode cX12_putsBack 254 = .ok (.getfield 58, 3) := by decide +kernel
theorem dX12_putsBack_257 : decode cX12_putsBack 257 = .ok (.iload_n 2, 1) := by decide +kernel
theorem dX12_putsBack_258 : decode cX12_putsBack 258 = .ok (.aload_n 0, 1) := by decide +kernel
theorem dX12_putsBack_259 : decode cX12_putsBack 259 = .ok (.getfield 148, 3) := by decide +kernel
theorem dX12_putsBack_262 : decode cX12_putsBack 262 = .ok (.iconst 5, 1) := by decide +kernel
theorem dX12_putsBack_263 : decode cX12_putsBack 263 = .ok (.iload_n 1, 1) := by decide +kernel
theorem dX12_putsBack_264 : decode cX12_putsBack 264 = .ok (.imul, 1) := by decide +kernel
theorem dX12_putsBack_265 : decode cX12_putsBack 265 = .ok (.iload_n 2, 1) := by decide +kernel
theorem dX12_putsBack_266 : decode cX12_putsBack 266 = .ok (.iadd, 1) := by decide +kernel
theorem dX12_putsBack_267 : decode cX12_putsBack 267 = .ok (.iaload, 1) := by decide +kernel
theorem dX12_putsBack_268 : decode cX12_putsBack 268 = .ok (.iastore, 1) := by decide +kernel
theorem dX12_putsBack_269 : decode cX12_putsBack 269 = .ok (.iinc 2 1, 3) := by decide +kernel
theorem dX12_putsBack_272 : decode cX12_putsBack 272 = .ok (.goto (-24), 3) := by decide +kernel
theorem dX12_putsBack_275 : decode cX12_putsBack 275 = .ok (.iconst 0, 1) := by decide +kernel
theorem dX12_putsBack_276 : decode cX12_putsBack 276 = .ok (.istore_n 2, 1) := by decide +kernel
theorem dX12_putsBack_277 : decode cX12_putsBack 277 = .ok (.iload_n 2, 1) := by decide +kernel
theorem dX12_putsBack_278 : decode cX12_putsBack 278 = .ok (.sipush 192, 3) := by decide +kernel
theorem dX12_putsBack_281 : decode cX12_putsBack 281 = .ok (.if_icmp .ge 27, 3) := by decide +kernel
theorem dX12_putsBack_284 : decode cX12_putsBack 284 = .ok (.aload_n 0, 1) := by decide +kernel
theorem dX12_putsBack_285 : decode cX12_putsBack 285 = .ok (.getfield 61, 3) := by decide +kernel
theorem dX12_putsBack_288 : decode cX12_putsBack 288 = .ok (.iload_n 2, 1) := by decide +kernel
theorem dX12_putsBack_289 : decode cX12_putsBack 289 = .ok (.aload_n 0, 1) := by decide +kernel
theorem dX12_putsBack_290 : decode cX12_putsBack 290 = .ok (.getfield 151, 3) := by decide +kernel
theorem dX12_putsBack_293 : decode cX12_putsBack 293 = .ok (.sipush 192, 3) := by decide +kernel
theorem dX12_putsBack_296 : decode cX12_putsBack 296 = .ok (.iload_n 1, 1) := by decide +kernel
theorem dX12_putsBack_297 : decode cX12_putsBack 297 = .ok (.imul, 1) := by decide +kernel
theorem dX12_putsBack_298 : decode cX12_putsBack 298 = .ok (.iload_n 2, 1) := by decide +kernel
theorem dX12_putsBack_299 : decode cX12_putsBack 299 = .ok (.iadd, 1) := by decide +kernel
theorem dX12_putsBack_300 : decode cX12_putsBack 300 = .ok (.iaload, 1) := by decide +kernel
theorem dX12_putsBack_301 : decode cX12_putsBack 301 = .ok (.iastore, 1) := by decide +kernel
theorem dX12_putsBack_302 : decode cX12_putsBack 302 = .ok (.iinc 2 1, 3) := by decide +kernel
theorem dX12_putsBack_305 : decode cX12_putsBack 305 = .ok (.goto (-28), 3) := by decide +kernel
theorem dX12_putsBack_308 : decode cX12_putsBack 308 = .ok (.aload_n 0, 1) := by decide +kernel
theorem dX12_putsBack_309 : decode cX12_putsBack 309 = .ok (.aload_n 0, 1) := by decide +kernel
theorem dX12_putsBack_310 : decode cX12_putsBack 310 = .ok (.getfield 154, 3) := by decide +kernel
theorem dX12_putsBack_313 : decode cX12_putsBack 313 = .ok (.bipush 6, 2) := by decide +kernel
theorem dX12_putsBack_315 : decode cX12_putsBack 315 = .ok (.iload_n 1, 1) := by decide +kernel
theorem dX12_putsBack_316 : decode cX12_putsBack 316 = .ok (.imul, 1) := by decide +kernel
theorem dX12_putsBack_317 : decode cX12_putsBack 317 = .ok (.iaload, 1) := by decide +kernel
theorem dX12_putsBack_318 : decode cX12_putsBack 318 = .ok (.putfield 192, 3) := by decide +kernel
theorem dX12_putsBack_321 : decode cX12_putsBack 321 = .ok (.aload_n 0, 1) := by decide +kernel
theorem dX12_putsBack_322 : decode cX12_putsBack 322 = .ok (.aload_n 0, 1) := by decide +kernel
theorem dX12_putsBack_323 : decode cX12_putsBack 323 = .ok (.getfield 154, 3) := by decide +kernel
theorem dX12_putsBack_326 : decode cX12_putsBack 326 = .ok (.bipush 6, 2) := by decide +kernel
theorem dX12_putsBack_328 : decode cX12_putsBack 328 = .ok (.iload_n 1, 1) := by decide +kernel
theorem dX12_putsBack_329 : decode cX12_putsBack 329 = .ok (.imul, 1) := by decide +kernel
theorem dX12_putsBack_330 : decode cX12_putsBack 330 = .ok (.iconst 1, 1) := by decide +kernel
theorem dX12_putsBack_331 : decode cX12_putsBack 331 = .ok (.iadd, 1) := by decide +kernel
theorem dX12_putsBack_332 : decode cX12_putsBack 332 = .ok (.iaload, 1) := by decide +kernel
theorem dX12_putsBack_333 : decode cX12_putsBack 333 = .ok (.putfield 199, 3) := by decide +kernel
theorem dX12_putsBack_336 : decode cX12_putsBack 336 = .ok (.aload_n 0, 1) := by decide +kernel
theorem dX12_putsBack_337 : decode cX12_putsBack 337 = .ok (.aload_n 0, 1) := by decide +kernel
theorem dX12_putsBack_338 : decode cX12_putsBack 338 = .ok (.getfield 154, 3) := by decide +kernel
theorem dX12_putsBack_341 : decode cX12_putsBack 341 = .ok (.bipush 6, 2) := by decide +kernel
theorem dX12_putsBack_343 : decode cX12_putsBack 343 = .ok (.iload_n 1, 1) := by decide +kernel
theorem dX12_putsBack_344 : decode cX12_putsBack 344 = .ok (.imul, 1) := by decide +kernel
theorem dX12_putsBack_345 : decode cX12_putsBack 345 = .ok (.iconst 2, 1) := by decide +kernel
theorem dX12_putsBack_346 : decode cX12_putsBack 346 = .ok (.iadd, 1) := by decide +kernel
theorem dX12_putsBack_347 : decode cX12_putsBack 347 = .ok (.iaload, 1) := by decide +kernel
theorem dX12_putsBack_348 : decode cX12_putsBack 348 = .ok (.putfield 359, 3) := by decide +kernel
theorem dX12_putsBack_351 : decode cX12_putsBack 351 = .ok (.aload_n 0, 1) := by decide +kernel
theorem dX12_putsBack_352 : decode cX12_putsBack 352 = .ok (.aload_n 0, 1) := by decide +kernel
theorem dX12_putsBack_353 : decode cX12_putsBack 353 = .ok (.getfield 154, 3) := by decide +kernel
theorem dX12_putsBack_356 : decode cX12_putsBack 356 = .ok (.bipush 6, 2) := by decide +kernel
theorem dX12_putsBack_358 : decode cX12_putsBack 358 = .ok (.iload_n 1, 1) := by decide +kernel
theorem dX12_putsBack_359 : decode cX12_putsBack 359 = .ok (.imul, 1) := by decide +kernel
theorem dX12_putsBack_360 : decode cX12_putsBack 360 = .ok (.iconst 3, 1) := by decide +kernel
theorem dX12_putsBack_361 : decode cX12_putsBack 361 = .ok (.iadd, 1) := by decide +kernel
theorem dX12_putsBack_362 : decode cX12_putsBack 362 = .ok (.iaload, 1) := by decide +kernel
theorem dX12_putsBack_363 : decode cX12_putsBack 363 = .ok (.putfield 17, 3) := by decide +kernel
theorem dX12_putsBack_366 : decode cX12_putsBack 366 = .ok (.aload_n 0, 1) := by decide +kernel
theorem dX12_putsBack_367 : decode cX12_putsBack 367 = .ok (.aload_n 0, 1) := by decide +kernel
theorem dX12_putsBack_368 : decode cX12_putsBack 368 = .ok (.getfield 154, 3) := by decide +kernel
theorem dX12_putsBack_371 : decode cX12_putsBack 371 = .ok (.bipush 6, 2) := by decide +kernel
theorem dX12_putsBack_373 : decode cX12_putsBack 373 = .ok (.iload_n 1, 1) := by decide +kernel
theorem dX12_putsBack_374 : decode cX12_putsBack 374 = .ok (.imul, 1) := by decide +kernel
theorem dX12_putsBack_375 : decode cX12_putsBack 375 = .ok (.iconst 4, 1) := by decide +kernel
theorem dX12_putsBack_376 : decode cX12_putsBack 376 = .ok (.iadd, 1) := by decide +kernel
theorem dX12_putsBack_377 : decode cX12_putsBack 377 = .ok (.iaload, 1) := by decide +kernel
theorem dX12_putsBack_378 : decode cX12_putsBack 378 = .ok (.putfield 225, 3) := by decide +kernel
theorem dX12_putsBack_381 : decode cX12_putsBack 381 = .ok (.aload_n 0, 1) := by decide +kernel
theorem dX12_putsBack_382 : decode cX12_putsBack 382 = .ok (.aload_n 0, 1) := by decide +kernel
theorem dX12_putsBack_383 : decode cX12_putsBack 383 = .ok (.getfield 154, 3) := by decide +kernel
theorem dX12_putsBack_386 : decode cX12_putsBack 386 = .ok (.bipush 6, 2) := by decide +kernel
theorem dX12_putsBack_388 : decode cX12_putsBack 388 = .ok (.iload_n 1, 1) := by decide +kernel
theorem dX12_putsBack_389 : decode cX12_putsBack 389 = .ok (.imul, 1) := by decide +kernel
theorem dX12_putsBack_390 : decode cX12_putsBack 390 = .ok (.iconst 5, 1) := by decide +kernel
theorem dX12_putsBack_391 : decode cX12_putsBack 391 = .ok (.iadd, 1) := by decide +kernel
theorem dX12_putsBack_392 : decode cX12_putsBack 392 = .ok (.iaload, 1) := by decide +kernel
theorem dX12_putsBack_393 : decode cX12_putsBack 393 = .ok (.putfield 13, 3) := by decide +kernel
theorem dX12_putsBack_396 : decode cX12_putsBack 396 = .ok (.return_, 1) := by decide +kernel
theorem dX12_runs_0 : decode cX12_runs 0 = .ok (.aload_n 0, 1) := by decide +kernel
theorem dX12_runs_1 : decode cX12_runs 1 = .ok (.iconst 0, 1) := by decide +kernel
theorem dX12_runs_2 : decode cX12_runs 2 = .ok (.putfield 393, 3) := by decide +kernel
theorem dX12_runs_5 : decode cX12_runs 5 = .ok (.iconst 0, 1) := by decide +kernel
theorem dX12_runs_6 : decode cX12_runs 6 = .ok (.istore_n 2, 1) := by decide +kernel
theorem dX12_runs_7 : decode cX12_runs 7 = .ok (.iload_n 2, 1) := by decide +kernel
theorem dX12_runs_8 : decode cX12_runs 8 = .ok (.iload_n 1, 1) := by decide +kernel
theorem dX12_runs_9 : decode cX12_runs 9 = .ok (.if_icmp .ge 13, 3) := by decide +kernel
theorem dX12_runs_12 : decode cX12_runs 12 = .ok (.aload_n 0, 1) := by decide +kernel
theorem dX12_runs_13 : decode cX12_runs 13 = .ok (.invokevirtual 401, 3) := by decide +kernel
theorem dX12_runs_16 : decode cX12_runs 16 = .ok (.iinc 2 1, 3) := by decide +kernel
theorem dX12_runs_19 : decode cX12_runs 19 = .ok (.goto (-12), 3) := by decide +kernel
theorem dX12_runs_22 : decode cX12_runs 22 = .ok (.iconst 0, 1) := by decide +kernel
theorem dX12_runs_23 : decode cX12_runs 23 = .ok (.istore_n 2, 1) := by decide +kernel
theorem dX12_runs_24 : decode cX12_runs 24 = .ok (.iload_n 2, 1) := by decide +kernel
theorem dX12_runs_25 : decode cX12_runs 25 = .ok (.iconst 5, 1) := by decide +kernel
theorem dX12_runs_26 : decode cX12_runs 26 = .ok (.if_icmp .ge 28, 3) := by decide +kernel
theorem dX12_runs_29 : decode cX12_runs 29 = .ok (.aload_n 0, 1) := by decide +kernel
theorem dX12_runs_30 : decode cX12_runs 30 = .ok (.getfield 157, 3) := by decide +kernel
theorem dX12_runs_33 : decode cX12_runs 33 = .ok (.iload_n 2, 1) := by decide +kernel
theorem dX12_runs_34 : decode cX12_runs 34 = .ok (.aload_n 0, 1) := by decide +kernel
theorem dX12_runs_35 : decode cX12_runs 35 = .ok (.getfield 58, 3) := by decide +kernel
theorem dX12_runs_38 : decode cX12_runs 38 = .ok (.iload_n 2, 1) := by decide +kernel
theorem dX12_runs_39 : decode cX12_runs 39 = .ok (.iaload, 1) := by decide +kernel
theorem dX12_runs_40 : decode cX12_runs 40 = .ok (.aload_n 0, 1) := by decide +kernel
theorem dX12_runs_41 : decode cX12_runs 41 = .ok (.getfield 148, 3) := by decide +kernel
theorem dX12_runs_44 : decode cX12_runs 44 = .ok (.iload_n 2, 1) := by decide +kernel
theorem dX12_runs_45 : decode cX12_runs 45 = .ok (.iaload, 1) := by decide +kernel
theorem dX12_runs_46 : decode cX12_runs 46 = .ok (.isub, 1) := by decide +kernel
theorem dX12_runs_47 : decode cX12_runs 47 = .ok (.iastore, 1) := by decide +kernel
theorem dX12_runs_48 : decode cX12_runs 48 = .ok (.iinc 2 1, 3) := by decide +kernel
theorem dX12_runs_51 : decode cX12_runs 51 = .ok (.goto (-27), 3) := by decide +kernel
theorem dX12_runs_54 : decode cX12_runs 54 = .ok (.return_, 1) := by decide +kernel
theorem dX12_wins_0 : decode cX12_wins 0 = .ok (.iconst 0, 1) := by decide +kernel
theorem dX12_wins_1 : decode cX12_wins 1 = .ok (.istore_n 2, 1) := by decide +kernel
theorem dX12_wins_2 : decode cX12_wins 2 = .ok (.iload_n 2, 1) := by decide +kernel
theorem dX12_wins_3 : decode cX12_wins 3 = .ok (.iconst 5, 1) := by decide +kernel
theorem dX12_wins_4 : decode cX12_wins 4 = .ok (.if_icmp .ge 31, 3) := by decide +kernel
theorem dX12_wins_7 : decode cX12_wins 7 = .ok (.iload_n 2, 1) := by decide +kernel
theorem dX12_wins_8 : decode cX12_wins 8 = .ok (.iload_n 1, 1) := by decide +kernel
theorem dX12_wins_9 : decode cX12_wins 9 = .ok (.if_icmp .eq 20, 3) := by decide +kernel
theorem dX12_wins_12 : decode cX12_wins 12 = .ok (.aload_n 0, 1) := by decide +kernel
theorem dX12_wins_13 : decode cX12_wins 13 = .ok (.getfield 157, 3) := by decide +kernel
theorem dX12_wins_16 : decode cX12_wins 16 = .ok (.iload_n 2, 1) := by decide +kernel
theorem dX12_wins_17 : decode cX12_wins 17 = .ok (.iaload, 1) := by decide +kernel
theorem dX12_wins_18 : decode cX12_wins 18 = .ok (.aload_n 0, 1) := by decide +kernel
theorem dX12_wins_19 : decode cX12_wins 19 = .ok (.getfield 157, 3) := by decide +kernel
theorem dX12_wins_22 : decode cX12_wins 22 = .ok (.iload_n 1, 1) := by decide +kernel
theorem dX12_wins_23 : decode cX12_wins 23 = .ok (.iaload, 1) := by decide +kernel
theorem dX12_wins_24 : decode cX12_wins 24 = .ok (.if_icmp .lt 5, 3) := by decide +kernel
theorem dX12_wins_27 : decode cX12_wins 27 = .ok (.iconst 0, 1) := by decide +kernel
theorem dX12_wins_28 : decode cX12_wins 28 = .ok (.ireturn, 1) := by decide +kernel
theorem dX12_wins_29 : decode cX12_wins 29 = .ok (.iinc 2 1, 3) := by decide +kernel
theorem dX12_wins_32 : decode cX12_wins 32 = .ok (.goto (-30), 3) := by decide +kernel
theorem dX12_wins_35 : decode cX12_wins 35 = .ok (.iconst 1, 1) := by decide +kernel
theorem dX12_wins_36 : decode cX12_wins 36 = .ok (.ireturn, 1) := by decide +kernel
theorem dX12_winner_0 : decode cX12_winner 0 = .ok (.iconst 0, 1) := by decide +kernel
theorem dX12_winner_1 : decode cX12_winner 1 = .ok (.istore_n 1, 1) := by decide +kernel
theorem dX12_winner_2 : decode cX12_winner 2 = .ok (.iload_n 1, 1) := by decide +kernel
theorem dX12_winner_3 : decode cX12_winner 3 = .ok (.iconst 5, 1) := by decide +kernel
theorem dX12_winner_4 : decode cX12_winner 4 = .ok (.if_icmp .ge 19, 3) := by decide +kernel
theorem dX12_winner_7 : decode cX12_winner 7 = .ok (.aload_n 0, 1) := by decide +kernel
theorem dX12_winner_8 : decode cX12_winner 8 = .ok (.iload_n 1, 1) := by decide +kernel
theorem dX12_winner_9 : decode cX12_winner 9 = .ok (.invokevirtual 404, 3) := by decide +kernel
theorem dX12_winner_12 : decode cX12_winner 12 = .ok (.ifCond .eq 5, 3) := by decide +kernel
theorem dX12_winner_15 : decode cX12_winner 15 = .ok (.iload_n 1, 1) := by decide +kernel
theorem dX12_winner_16 : decode cX12_winner 16 = .ok (.ireturn, 1) := by decide +kernel
theorem dX12_winner_17 : decode cX12_winner 17 = .ok (.iinc 1 1, 3) := by decide +kernel
theorem dX12_winner_20 : decode cX12_winner 20 = .ok (.goto (-18), 3) := by decide +kernel
theorem dX12_winner_23 : decode cX12_winner 23 = .ok (.bipush (-2), 2) := by decide +kernel
theorem dX12_winner_25 : decode cX12_winner 25 = .ok (.ireturn, 1) := by decide +kernel
theorem dX12_run_0 : decode cX12_run 0 = .ok (.iload_n 1, 1) := by decide +kernel
theorem dX12_run_1 : decode cX12_run 1 = .ok (.invokestatic 398, 3) := by decide +kernel
theorem dX12_run_4 : decode cX12_run 4 = .ok (.ifCond .eq 34, 3) := by decide +kernel
theorem dX12_run_7 : decode cX12_run 7 = .ok (.iload_n 2, 1) := by decide +kernel
theorem dX12_run_8 : decode cX12_run 8 = .ok (.i2l, 1) := by decide +kernel
theorem dX12_run_9 : decode cX12_run 9 = .ok (.lconst 0, 1) := by decide +kernel
theorem dX12_run_10 : decode cX12_run 10 = .ok (.ldc2_w 407, 3) := by decide +kernel
theorem dX12_run_13 : decode cX12_run 13 = .ok (.invokestatic 188, 3) := by decide +kernel
theorem dX12_run_16 : decode cX12_run 16 = .ok (.ifCond .ne 24, 3) := by decide +kernel
theorem dX12_run_19 : decode cX12_run 19 = .ok (.iload_n 2, 1) := by decide +kernel
theorem dX12_run_20 : decode cX12_run 20 = .ok (.i2l, 1) := by decide +kernel
theorem dX12_run_21 : decode cX12_run 21 = .ok (.ldc2_w 409, 3) := by decide +kernel
theorem dX12_run_24 : decode cX12_run 24 = .ok (.bipush 9, 2) := by decide +kernel
theorem dX12_run_26 : decode cX12_run 26 = .ok (.aload_n 0, 1) := by decide +kernel
theorem dX12_run_27 : decode cX12_run 27 = .ok (.getfield 192, 3) := by decide +kernel
theorem dX12_run_30 : decode cX12_run 30 = .ok (.iadd, 1) := by decide +kernel
theorem dX12_run_31 : decode cX12_run 31 = .ok (.i2l, 1) := by decide +kernel
theorem dX12_run_32 : decode cX12_run 32 = .ok (.invokestatic 188, 3) := by decide +kernel
theorem dX12_run_35 : decode cX12_run 35 = .ok (.ifCond .ne 5, 3) := by decide +kernel
theorem dX12_run_38 : decode cX12_run 38 = .ok (.iconst (-1), 1) := by decide +kernel
theorem dX12_run_39 : decode cX12_run 39 = .ok (.ireturn, 1) := by decide +kernel
theorem dX12_run_40 : decode cX12_run 40 = .ok (.aload_n 0, 1) := by decide +kernel
theorem dX12_run_41 : decode cX12_run 41 = .ok (.iconst 0, 1) := by decide +kernel
theorem dX12_run_42 : decode cX12_run 42 = .ok (.invokevirtual 411, 3) := by decide +kernel
theorem dX12_run_45 : decode cX12_run 45 = .ok (.aload_n 0, 1) := by decide +kernel
theorem dX12_run_46 : decode cX12_run 46 = .ok (.iload_n 1, 1) := by decide +kernel
theorem dX12_run_47 : decode cX12_run 47 = .ok (.invokevirtual 414, 3) := by decide +kernel
theorem dX12_run_50 : decode cX12_run 50 = .ok (.iload_n 2, 1) := by decide +kernel
theorem dX12_run_51 : decode cX12_run 51 = .ok (.iconst 5, 1) := by decide +kernel
theorem dX12_run_52 : decode cX12_run 52 = .ok (.if_icmp .ge 12, 3) := by decide +kernel
theorem dX12_run_55 : decode cX12_run 55 = .ok (.aload_n 0, 1) := by decide +kernel
theorem dX12_run_56 : decode cX12_run 56 = .ok (.getfield 157, 3) := by decide +kernel
theorem dX12_run_59 : decode cX12_run 59 = .ok (.iload_n 2, 1) := by decide +kernel
theorem dX12_run_60 : decode cX12_run 60 = .ok (.iaload, 1) := by decide +kernel
theorem dX12_run_61 : decode cX12_run 61 = .ok (.goto 37, 3) := by decide +kernel
theorem dX12_run_64 : decode cX12_run 64 = .ok (.iload_n 2, 1) := by decide +kernel
theorem dX12_run_65 : decode cX12_run 65 = .ok (.iconst 5, 1) := by decide +kernel
theorem dX12_run_66 : decode cX12_run 66 = .ok (.if_icmp .ne 10, 3) := by decide +kernel
theorem dX12_run_69 : decode cX12_run 69 = .ok (.aload_n 0, 1) := by decide +kernel
theorem dX12_run_70 : decode cX12_run 70 = .ok (.invokevirtual 417, 3) := by decide +kernel
theorem dX12_run_73 : decode cX12_run 73 = .ok (.goto 25, 3) := by decide +kernel
theorem dX12_run_76 : decode cX12_run 76 = .ok (.iload_n 2, 1) := by decide +kernel
theorem dX12_run_77 : decode cX12_run 77 = .ok (.bipush 6, 2) := by decide +kernel
theorem dX12_run_79 : decode cX12_run 79 = .ok (.if_icmp .ne 10, 3) := by decide +kernel
theorem dX12_run_82 : decode cX12_run 82 = .ok (.aload_n 0, 1) := by decide +kernel
theorem dX12_run_83 : decode cX12_run 83 = .ok (.getfield 393, 3) := by decide +kernel
theorem dX12_run_86 : decode cX12_run 86 = .ok (.goto 12, 3) := by decide +kernel
theorem dX12_run_89 : decode cX12_run 89 = .ok (.aload_n 0, 1) := by decide +kernel
theorem dX12_run_90 : decode cX12_run 90 = .ok (.getfield 27, 3) := by decide +kernel
theorem dX12_run_93 : decode cX12_run 93 = .ok (.iload_n 2, 1) := by decide +kernel
theorem dX12_run_94 : decode cX12_run 94 = .ok (.bipush 10, 2) := by decide +kernel
theorem dX12_run_96 : decode cX12_run 96 = .ok (.isub, 1) := by decide +kernel
theorem dX12_run_97 : decode cX12_run 97 = .ok (.iaload, 1) := by decide +kernel
theorem dX12_run_98 : decode cX12_run 98 = .ok (.istore_n 3, 1) := by decide +kernel
theorem dX12_run_99 : decode cX12_run 99 = .ok (.aload_n 0, 1) := by decide +kernel
theorem dX12_run_100 : decode cX12_run 100 = .ok (.iconst 0, 1) := by decide +kernel
theorem dX12_run_101 : decode cX12_run 101 = .ok (.invokevirtual 420, 3) := by decide +kernel
theorem dX12_run_104 : decode cX12_run 104 = .ok (.iload_n 3, 1) := by decide +kernel
theorem dX12_run_105 : decode cX12_run 105 = .ok (.ireturn, 1) := by decide +kernel
theorem dX12_stackIs_0 : decode cX12_stackIs 0 = .ok (.aload_n 0, 1) := by decide +kernel
theorem dX12_stackIs_1 : decode cX12_stackIs 1 = .ok (.iload_n 1, 1) := by decide +kernel
theorem dX12_stackIs_2 : decode cX12_stackIs 2 = .ok (.invokevirtual 195, 3) := by decide +kernel
theorem dX12_stackIs_5 : decode cX12_stackIs 5 = .ok (.ifCond .ne 5, 3) := by decide +kernel
theorem dX12_stackIs_8 : decode cX12_stackIs 8 = .ok (.iconst (-1), 1) := by decide +kernel
theorem dX12_stackIs_9 : decode cX12_stackIs 9 = .ok (.ireturn, 1) := by decide +kernel
theorem dX12_stackIs_10 : decode cX12_stackIs 10 = .ok (.iload_n 2, 1) := by decide +kernel
theorem dX12_stackIs_11 : decode cX12_stackIs 11 = .ok (.tableswitch 98 0 6 #[41, 48, 55, 62, 69, 76, 83], 41) := by decide +kernel
theorem dX12_stackIs_52 : decode cX12_stackIs 52 = .ok (.aload_n 0, 1) := by decide +kernel
theorem dX12_stackIs_53 : decode cX12_stackIs 53 = .ok (.getfield 20, 3) := by decide +kernel
theorem dX12_stackIs_56 : decode cX12_stackIs 56 = .ok (.iload_n 1, 1) := by decide +kernel
theorem dX12_stackIs_57 : decode cX12_stackIs 57 = .ok (.iaload, 1) := by decide +kernel
theorem dX12_stackIs_58 : decode cX12_stackIs 58 = .ok (.ireturn, 1) := by decide +kernel
theorem dX12_stackIs_59 : decode cX12_stackIs 59 = .ok (.aload_n 0, 1) := by decide +kernel
theorem dX12_stackIs_60 : decode cX12_stackIs 60 = .ok (.getfield 24, 3) := by decide +kernel
theorem dX12_stackIs_63 : decode cX12_stackIs 63 = .ok (.iload_n 1, 1) := by decide +kernel
theorem dX12_stackIs_64 : decode cX12_stackIs 64 = .ok (.iaload, 1) := by decide +kernel
theorem dX12_stackIs_65 : decode cX12_stackIs 65 = .ok (.ireturn, 1) := by decide +kernel
theorem dX12_stackIs_66 : decode cX12_stackIs 66 = .ok (.aload_n 0, 1) := by decide +kernel
theorem dX12_stackIs_67 : decode cX12_stackIs 67 = .ok (.getfield 27, 3) := by decide +kernel
theorem dX12_stackIs_70 : decode cX12_stackIs 70 = .ok (.iload_n 1, 1) := by decide +kernel
theorem dX12_stackIs_71 : decode cX12_stackIs 71 = .ok (.iaload, 1) := by decide +kernel
theorem dX12_stackIs_72 : decode cX12_stackIs 72 = .ok (.ireturn, 1) := by decide +kernel
theorem dX12_stackIs_73 : decode cX12_stackIs 73 = .ok (.aload_n 0, 1) := by decide +kernel
theorem dX12_stackIs_74 : decode cX12_stackIs 74 = .ok (.getfield 30, 3) := by decide +kernel
theorem dX12_stackIs_77 : decode cX12_stackIs 77 = .ok (.iload_n 1, 1) := by decide +kernel
theorem dX12_stackIs_78 : decode cX12_stackIs 78 = .ok (.iaload, 1) := by decide +kernel
theorem dX12_stackIs_79 : decode cX12_stackIs 79 = .ok (.ireturn, 1) := by decide +kernel
theorem dX12_stackIs_80 : decode cX12_stackIs 80 = .ok (.aload_n 0, 1) := by decide +kernel
theorem dX12_stackIs_81 : decode cX12_stackIs 81 = .ok (.getfield 33, 3) := by decide +kernel
theorem dX12_stackIs_84 : decode cX12_stackIs 84 = .ok (.iload_n 1, 1) := by decide +kernel
theorem dX12_stackIs_85 : decode cX12_stackIs 85 = .ok (.iaload, 1) := by decide +kernel
theorem dX12_stackIs_86 : decode cX12_stackIs 86 = .ok (.ireturn, 1) := by decide +kernel
theorem dX12_stackIs_87 : decode cX12_stackIs 87 = .ok (.aload_n 0, 1) := by decide +kernel
theorem dX12_stackIs_88 : decode cX12_stackIs 88 = .ok (.getfield 36, 3) := by decide +kernel
theorem dX12_stackIs_91 : decode cX12_stackIs 91 = .ok (.iload_n 1, 1) := by decide +kernel
theorem dX12_stackIs_92 : decode cX12_stackIs 92 = .ok (.iaload, 1) := by decide +kernel
theorem dX12_stackIs_93 : decode cX12_stackIs 93 = .ok (.ireturn, 1) := by decide +kernel
theorem dX12_stackIs_94 : decode cX12_stackIs 94 = .ok (.aload_n 0, 1) := by decide +kernel
theorem dX12_stackIs_95 : decode cX12_stackIs 95 = .ok (.getfield 39, 3) := by decide +kernel
theorem dX12_stackIs_98 : decode cX12_stackIs 98 = .ok (.iload_n 1, 1) := by decide +kernel
theorem dX12_stackIs_99 : decode cX12_stackIs 99 = .ok (.baload, 1) := by decide +kernel
theorem dX12_stackIs_100 : decode cX12_stackIs 100 = .ok (.ifCond .eq 7, 3) := by decide +kernel
theorem dX12_stackIs_103 : decode cX12_stackIs 103 = .ok (.iconst 1, 1) := by decide +kernel
theorem dX12_stackIs_104 : decode cX12_stackIs 104 = .ok (.goto 4, 3) := by decide +kernel
theorem dX12_stackIs_107 : decode cX12_stackIs 107 = .ok (.iconst 0, 1) := by decide +kernel
theorem dX12_stackIs_108 : decode cX12_stackIs 108 = .ok (.ireturn, 1) := by decide +kernel
theorem dX12_stackIs_109 : decode cX12_stackIs 109 = .ok (.iconst (-1), 1) := by decide +kernel
theorem dX12_stackIs_110 : decode cX12_stackIs 110 = .ok (.ireturn, 1) := by decide +kernel
theorem dX12_cowIs_0 : decode cX12_cowIs 0 = .ok (.aload_n 0, 1) := by decide +kernel
theorem dX12_cowIs_1 : decode cX12_cowIs 1 = .ok (.iload_n 1, 1) := by decide +kernel
theorem dX12_cowIs_2 : decode cX12_cowIs 2 = .ok (.invokevirtual 217, 3) := by decide +kernel
theorem dX12_cowIs_5 : decode cX12_cowIs 5 = .ok (.ifCond .ne 7, 3) := by decide +kernel
theorem dX12_cowIs_8 : decode cX12_cowIs 8 = .ok (.sipush (-1000), 3) := by decide +kernel
theorem dX12_cowIs_11 : decode cX12_cowIs 11 = .ok (.ireturn, 1) := by decide +kernel
theorem dX12_cowIs_12 : decode cX12_cowIs 12 = .ok (.iload_n 2, 1) := by decide +kernel
theorem dX12_cowIs_13 : decode cX12_cowIs 13 = .ok (.i2l, 1) := by decide +kernel
theorem dX12_cowIs_14 : decode cX12_cowIs 14 = .ok (.ldc2_w 409, 3) := by decide +kernel
theorem dX12_cowIs_17 : decode cX12_cowIs 17 = .ok (.ldc2_w 423, 3) := by decide +kernel
theorem dX12_cowIs_20 : decode cX12_cowIs 20 = .ok (.invokestatic 188, 3) := by decide +kernel
theorem dX12_cowIs_23 : decode cX12_cowIs 23 = .ok (.ifCond .eq 17, 3) := by decide +kernel
theorem dX12_cowIs_26 : decode cX12_cowIs 26 = .ok (.aload_n 0, 1) := by decide +kernel
theorem dX12_cowIs_27 : decode cX12_cowIs 27 = .ok (.getfield 55, 3) := by decide +kernel
theorem dX12_cowIs_30 : decode cX12_cowIs 30 = .ok (.iconst 5, 1) := by decide +kernel
theorem dX12_cowIs_31 : decode cX12_cowIs 31 = .ok (.iload_n 1, 1) := by decide +kernel
theorem dX12_cowIs_32 : decode cX12_cowIs 32 = .ok (.imul, 1) := by decide +kernel
theorem dX12_cowIs_33 : decode cX12_cowIs 33 = .ok (.iload_n 2, 1) := by decide +kernel
theorem dX12_cowIs_34 : decode cX12_cowIs 34 = .ok (.iadd, 1) := by decide +kernel
theorem dX12_cowIs_35 : decode cX12_cowIs 35 = .ok (.bipush 10, 2) := by decide +kernel
theorem dX12_cowIs_37 : decode cX12_cowIs 37 = .ok (.isub, 1) := by decide +kernel
theorem dX12_cowIs_38 : decode cX12_cowIs 38 = .ok (.iaload, 1) := by decide +kernel
theorem dX12_cowIs_39 : decode cX12_cowIs 39 = .ok (.ireturn, 1) := by decide +kernel
theorem dX12_cowIs_40 : decode cX12_cowIs 40 = .ok (.iload_n 2, 1) := by decide +kernel
theorem dX12_cowIs_41 : decode cX12_cowIs 41 = .ok (.tableswitch 59 0 3 #[31, 38, 45, 52], 31) := by decide +kernel
theorem dX12_cowIs_72 : decode cX12_cowIs 72 = .ok (.aload_n 0, 1) := by decide +kernel
theorem dX12_cowIs_73 : decode cX12_cowIs 73 = .ok (.getfield 43, 3) := by decide +kernel
theorem dX12_cowIs_76 : decode cX12_cowIs 76 = .ok (.iload_n 1, 1) := by decide +kernel
theorem dX12_cowIs_77 : decode cX12_cowIs 77 = .ok (.iaload, 1) := by decide +kernel
theorem dX12_cowIs_78 : decode cX12_cowIs 78 = .ok (.ireturn, 1) := by decide +kernel
theorem dX12_cowIs_79 : decode cX12_cowIs 79 = .ok (.aload_n 0, 1) := by decide +kernel
theorem dX12_cowIs_80 : decode cX12_cowIs 80 = .ok (.getfield 46, 3) := by decide +kernel
theorem dX12_cowIs_83 : decode cX12_cowIs 83 = .ok (.iload_n 1, 1) := by decide +kernel
theorem dX12_cowIs_84 : decode cX12_cowIs 84 = .ok (.iaload, 1) := by decide +kernel
theorem dX12_cowIs_85 : decode cX12_cowIs 85 = .ok (.ireturn, 1) := by decide +kernel
theorem dX12_cowIs_86 : decode cX12_cowIs 86 = .ok (.aload_n 0, 1) := by decide +kernel
theorem dX12_cowIs_87 : decode cX12_cowIs 87 = .ok (.getfield 49, 3) := by decide +kernel
theorem dX12_cowIs_90 : decode cX12_cowIs 90 = .ok (.iload_n 1, 1) := by decide +kernel
theorem dX12_cowIs_91 : decode cX12_cowIs 91 = .ok (.iaload, 1) := by decide +kernel
theorem dX12_cowIs_92 : decode cX12_cowIs 92 = .ok (.ireturn, 1) := by decide +kernel
theorem dX12_cowIs_93 : decode cX12_cowIs 93 = .ok (.aload_n 0, 1) := by decide +kernel
theorem dX12_cowIs_94 : decode cX12_cowIs 94 = .ok (.getfield 52, 3) := by decide +kernel
theorem dX12_cowIs_97 : decode cX12_cowIs 97 = .ok (.iload_n 1, 1) := by decide +kernel
theorem dX12_cowIs_98 : decode cX12_cowIs 98 = .ok (.iaload, 1) := by decide +kernel
theorem dX12_cowIs_99 : decode cX12_cowIs 99 = .ok (.ireturn, 1) := by decide +kernel
theorem dX12_cowIs_100 : decode cX12_cowIs 100 = .ok (.sipush (-1000), 3) := by decide +kernel
theorem dX12_cowIs_103 : decode cX12_cowIs 103 = .ok (.ireturn, 1) := by decide +kernel
theorem dX12_eaten_0 : decode cX12_eaten 0 = .ok (.iload_n 1, 1) := by decide +kernel
theorem dX12_eaten_1 : decode cX12_eaten 1 = .ok (.iconst (-1), 1) := by decide +kernel
theorem dX12_eaten_2 : decode cX12_eaten 2 = .ok (.if_icmp .eq 11, 3) := by decide +kernel
theorem dX12_eaten_5 : decode cX12_eaten 5 = .ok (.aload_n 0, 1) := by decide +kernel
theorem dX12_eaten_6 : decode cX12_eaten 6 = .ok (.iload_n 1, 1) := by decide +kernel
theorem dX12_eaten_7 : decode cX12_eaten 7 = .ok (.invokevirtual 195, 3) := by decide +kernel
theorem dX12_eaten_10 : decode cX12_eaten 10 = .ok (.ifCond .eq 16, 3) := by decide +kernel
theorem dX12_eaten_13 : decode cX12_eaten 13 = .ok (.iload_n 2, 1) := by decide +kernel
theorem dX12_eaten_14 : decode cX12_eaten 14 = .ok (.iconst (-1), 1) := by decide +kernel
theorem dX12_eaten_15 : decode cX12_eaten 15 = .ok (.if_icmp .eq 14, 3) := by decide +kernel
theorem dX12_eaten_18 : decode cX12_eaten 18 = .ok (.aload_n 0, 1) := by decide +kernel
theorem dX12_eaten_19 : decode cX12_eaten 19 = .ok (.iload_n 2, 1) := by decide +kernel
theorem dX12_eaten_20 : decode cX12_eaten 20 = .ok (.invokevirtual 217, 3) := by decide +kernel
theorem dX12_eaten_23 : decode cX12_eaten 23 = .ok (.ifCond .ne 6, 3) := by decide +kernel
theorem dX12_eaten_26 : decode cX12_eaten 26 = .ok (.bipush (-2), 2) := by decide +kernel
theorem dX12_eaten_28 : decode cX12_eaten 28 = .ok (.ireturn, 1) := by decide +kernel
theorem dX12_eaten_29 : decode cX12_eaten 29 = .ok (.iconst 0, 1) := by decide +kernel
theorem dX12_eaten_30 : decode cX12_eaten 30 = .ok (.istore_n 3, 1) := by decide +kernel
theorem dX12_eaten_31 : decode cX12_eaten 31 = .ok (.iconst 0, 1) := by decide +kernel
theorem dX12_eaten_32 : decode cX12_eaten 32 = .ok (.istore 4, 2) := by decide +kernel
theorem dX12_eaten_34 : decode cX12_eaten 34 = .ok (.iload 4, 2) := by decide +kernel
theorem dX12_eaten_36 : decode cX12_eaten 36 = .ok (.aload_n 0, 1) := by decide +kernel
theorem dX12_eaten_37 : decode cX12_eaten 37 = .ok (.getfield 192, 3) := by decide +kernel
theorem dX12_eaten_40 : decode cX12_eaten 40 = .ok (.if_icmp .ge 69, 3) := by decide +kernel
theorem dX12_eaten_43 : decode cX12_eaten 43 = .ok (.iconst 0, 1) := by decide +kernel
theorem dX12_eaten_44 : decode cX12_eaten 44 = .ok (.istore 5, 2) := by decide +kernel
theorem dX12_eaten_46 : decode cX12_eaten 46 = .ok (.iload 5, 2) := by decide +kernel
theorem dX12_eaten_48 : decode cX12_eaten 48 = .ok (.aload_n 0, 1) := by decide +kernel
theorem dX12_eaten_49 : decode cX12_eaten 49 = .ok (.getfield 199, 3) := by decide +kernel
theorem dX12_eaten_52 : decode cX12_eaten 52 = .ok (.if_icmp .ge 51, 3) := by decide +kernel
theorem dX12_eaten_55 : decode cX12_eaten 55 = .ok (.iload_n 3, 1) := by decide +kernel
theorem dX12_eaten_56 : decode cX12_eaten 56 = .ok (.iload_n 1, 1) := by decide +kernel
theorem dX12_eaten_57 : decode cX12_eaten 57 = .ok (.iconst (-1), 1) := by decide +kernel
theorem dX12_eaten_58 : decode cX12_eaten 58 = .ok (.if_icmp .eq 9, 3) := by decide +kernel
theorem dX12_eaten_61 : decode cX12_eaten 61 = .ok (.iload_n 1, 1) := by decide +kernel
theorem dX12_eaten_62 : decode cX12_eaten 62 = .ok (.iload 4, 2) := by decide +kernel
theorem dX12_eaten_64 : decode cX12_eaten 64 = .ok (.if_icmp .ne 30, 3) := by decide +kernel
theorem dX12_eaten_67 : decode cX12_eaten 67 = .ok (.iload_n 2, 1) := by decide +kernel
theorem dX12_eaten_68 : decode cX12_eaten 68 = .ok (.iconst (-1), 1) := by decide +kernel
theorem dX12_eaten_69 : decode cX12_eaten 69 = .ok (.if_icmp .eq 9, 3) := by decide +kernel
theorem dX12_eaten_72 : decode cX12_eaten 72 = .ok (.iload_n 2, 1) := by decide +kernel
theorem dX12_eaten_73 : decode cX12_eaten 73 = .ok (.iload 5, 2) := by decide +kernel
theorem dX12_eaten_75 : decode cX12_eaten 75 = .ok (.if_icmp .ne 19, 3) := by decide +kernel
theorem dX12_eaten_78 : decode cX12_eaten 78 = .ok (.aload_n 0, 1) := by decide +kernel
theorem dX12_eaten_79 : decode cX12_eaten 79 = .ok (.getfield 61, 3) := by decide +kernel
theorem dX12_eaten_82 : decode cX12_eaten 82 = .ok (.bipush 16, 2) := by decide +kernel
theorem dX12_eaten_84 : decode cX12_eaten 84 = .ok (.iload 4, 2) := by decide +kernel
theorem dX12_eaten_86 : decode cX12_eaten 86 = .ok (.imul, 1) := by decide +kernel
theorem dX12_eaten_87 : decode cX12_eaten 87 = .ok (.iload 5, 2) := by decide +kernel
theorem dX12_eaten_89 : decode cX12_eaten 89 = .ok (.iadd, 1) := by decide +kernel
theorem dX12_eaten_90 : decode cX12_eaten 90 = .ok (.iaload, 1) := by decide +kernel
theorem dX12_eaten_91 : decode cX12_eaten 91 = .ok (.goto 4, 3) := by decide +kernel
theorem dX12_eaten_94 : decode cX12_eaten 94 = .ok (.iconst 0, 1) := by decide +kernel
theorem dX12_eaten_95 : decode cX12_eaten 95 = .ok (.iadd, 1) := by decide +kernel
theorem dX12_eaten_96 : decode cX12_eaten 96 = .ok (.istore_n 3, 1) := by decide +kernel
theorem dX12_eaten_97 : decode cX12_eaten 97 = .ok (.iinc 5 1, 3) := by decide +kernel
theorem dX12_eaten_100 : decode cX12_eaten 100 = .ok (.goto (-54), 3) := by decide +kernel
theorem dX12_eaten_103 : decode cX12_eaten 103 = .ok (.iinc 4 1, 3) := by decide +kernel
theorem dX12_eaten_106 : decode cX12_eaten 106 = .ok (.goto (-72), 3) := by decide +kernel
theorem dX12_eaten_109 : decode cX12_eaten 109 = .ok (.iload_n 3, 1) := by decide +kernel
theorem dX12_eaten_110 : decode cX12_eaten 110 = .ok (.ireturn, 1) := by decide +kernel
theorem dX12_votes_0 : decode cX12_votes 0 = .ok (.iload_n 1, 1) := by decide +kernel
theorem dX12_votes_1 : decode cX12_votes 1 = .ok (.invokestatic 209, 3) := by decide +kernel
theorem dX12_votes_4 : decode cX12_votes 4 = .ok (.ifCond .eq 12, 3) := by decide +kernel
theorem dX12_votes_7 : decode cX12_votes 7 = .ok (.aload_n 0, 1) := by decide +kernel
theorem dX12_votes_8 : decode cX12_votes 8 = .ok (.getfield 58, 3) := by decide +kernel
theorem dX12_votes_11 : decode cX12_votes 11 = .ok (.iload_n 1, 1) := by decide +kernel
theorem dX12_votes_12 : decode cX12_votes 12 = .ok (.iaload, 1) := by decide +kernel
theorem dX12_votes_13 : decode cX12_votes 13 = .ok (.goto 4, 3) := by decide +kernel
theorem dX12_votes_16 : decode cX12_votes 16 = .ok (.iconst (-1), 1) := by decide +kernel
theorem dX12_votes_17 : decode cX12_votes 17 = .ok (.ireturn, 1) := by decide +kernel
theorem dX12_digit_0 : decode cX12_digit 0 = .ok (.iload_n 0, 1) := by decide +kernel
theorem dX12_digit_1 : decode cX12_digit 1 = .ok (.iconst 2, 1) := by decide +kernel
theorem dX12_digit_2 : decode cX12_digit 2 = .ok (.iload_n 1, 1) := by decide +kernel
theorem dX12_digit_3 : decode cX12_digit 3 = .ok (.iconst 1, 1) := by decide +kernel
theorem dX12_digit_4 : decode cX12_digit 4 = .ok (.isub, 1) := by decide +kernel
theorem dX12_digit_5 : decode cX12_digit 5 = .ok (.iload_n 2, 1) := by decide +kernel
theorem dX12_digit_6 : decode cX12_digit 6 = .ok (.isub, 1) := by decide +kernel
theorem dX12_digit_7 : decode cX12_digit 7 = .ok (.imul, 1) := by decide +kernel
theorem dX12_digit_8 : decode cX12_digit 8 = .ok (.ishr, 1) := by decide +kernel
theorem dX12_digit_9 : decode cX12_digit 9 = .ok (.iconst 3, 1) := by decide +kernel
theorem dX12_digit_10 : decode cX12_digit 10 = .ok (.iand, 1) := by decide +kernel
theorem dX12_digit_11 : decode cX12_digit 11 = .ok (.ireturn, 1) := by decide +kernel
theorem dX12_pence_0 : decode cX12_pence 0 = .ok (.iload_n 0, 1) := by decide +kernel
theorem dX12_pence_1 : decode cX12_pence 1 = .ok (.iconst 3, 1) := by decide +kernel
theorem dX12_pence_2 : decode cX12_pence 2 = .ok (.iand, 1) := by decide +kernel
theorem dX12_pence_3 : decode cX12_pence 3 = .ok (.iload_n 0, 1) := by decide +kernel
theorem dX12_pence_4 : decode cX12_pence 4 = .ok (.iconst 2, 1) := by decide +kernel
theorem dX12_pence_5 : decode cX12_pence 5 = .ok (.ishr, 1) := by decide +kernel
theorem dX12_pence_6 : decode cX12_pence 6 = .ok (.iconst 3, 1) := by decide +kernel
theorem dX12_pence_7 : decode cX12_pence 7 = .ok (.iand, 1) := by decide +kernel
theorem dX12_pence_8 : decode cX12_pence 8 = .ok (.iadd, 1) := by decide +kernel
theorem dX12_pence_9 : decode cX12_pence 9 = .ok (.iload_n 0, 1) := by decide +kernel
theorem dX12_pence_10 : decode cX12_pence 10 = .ok (.iconst 4, 1) := by decide +kernel
theorem dX12_pence_11 : decode cX12_pence 11 = .ok (.ishr, 1) := by decide +kernel
theorem dX12_pence_12 : decode cX12_pence 12 = .ok (.iconst 3, 1) := by decide +kernel
theorem dX12_pence_13 : decode cX12_pence 13 = .ok (.iand, 1) := by decide +kernel
theorem dX12_pence_14 : decode cX12_pence 14 = .ok (.iadd, 1) := by decide +kernel
theorem dX12_pence_15 : decode cX12_pence 15 = .ok (.iload_n 0, 1) := by decide +kernel
theorem dX12_pence_16 : decode cX12_pence 16 = .ok (.bipush 6, 2) := by decide +kernel
theorem dX12_pence_18 : decode cX12_pence 18 = .ok (.ishr, 1) := by decide +kernel
theorem dX12_pence_19 : decode cX12_pence 19 = .ok (.iconst 3, 1) := by decide +kernel
theorem dX12_pence_20 : decode cX12_pence 20 = .ok (.iand, 1) := by decide +kernel
theorem dX12_pence_21 : decode cX12_pence 21 = .ok (.iadd, 1) := by decide +kernel
theorem dX12_pence_22 : decode cX12_pence 22 = .ok (.ireturn, 1) := by decide +kernel
theorem dX12_spreads_0 : decode cX12_spreads 0 = .ok (.iconst 0, 1) := by decide +kernel
theorem dX12_spreads_1 : decode cX12_spreads 1 = .ok (.istore_n 2, 1) := by decide +kernel
theorem dX12_spreads_2 : decode cX12_spreads 2 = .ok (.iload_n 2, 1) := by decide +kernel
theorem dX12_spreads_3 : decode cX12_spreads 3 = .ok (.aload_n 0, 1) := by decide +kernel
theorem dX12_spreads_4 : decode cX12_spreads 4 = .ok (.getfield 425, 3) := by decide +kernel
theorem dX12_spreads_7 : decode cX12_spreads 7 = .ok (.if_icmp .ge 54, 3) := by decide +kernel
theorem dX12_spreads_10 : decode cX12_spreads 10 = .ok (.aload_n 0, 1) := by decide +kernel
theorem dX12_spreads_11 : decode cX12_spreads 11 = .ok (.getfield 30, 3) := by decide +kernel
theorem dX12_spreads_14 : decode cX12_spreads 14 = .ok (.aload_n 0, 1) := by decide +kernel
theorem dX12_spreads_15 : decode cX12_spreads 15 = .ok (.getfield 160, 3) := by decide +kernel
theorem dX12_spreads_18 : decode cX12_spreads 18 = .ok (.iload_n 2, 1) := by decide +kernel
theorem dX12_spreads_19 : decode cX12_spreads 19 = .ok (.iaload, 1) := by decide +kernel
theorem dX12_spreads_20 : decode cX12_spreads 20 = .ok (.iaload, 1) := by decide +kernel
theorem dX12_spreads_21 : decode cX12_spreads 21 = .ok (.iload_n 1, 1) := by decide +kernel
theorem dX12_spreads_22 : decode cX12_spreads 22 = .ok (.aload_n 0, 1) := by decide +kernel
theorem dX12_spreads_23 : decode cX12_spreads 23 = .ok (.getfield 425, 3) := by decide +kernel
theorem dX12_spreads_26 : decode cX12_spreads 26 = .ok (.iload_n 2, 1) := by decide +kernel
theorem dX12_spreads_27 : decode cX12_spreads 27 = .ok (.invokestatic 428, 3) := by decide +kernel
theorem dX12_spreads_30 : decode cX12_spreads 30 = .ok (.iadd, 1) := by decide +kernel
theorem dX12_spreads_31 : decode cX12_spreads 31 = .ok (.istore_n 3, 1) := by decide +kernel
theorem dX12_spreads_32 : decode cX12_spreads 32 = .ok (.aload_n 0, 1) := by decide +kernel
theorem dX12_spreads_33 : decode cX12_spreads 33 = .ok (.getfield 30, 3) := by decide +kernel
theorem dX12_spreads_36 : decode cX12_spreads 36 = .ok (.aload_n 0, 1) := by decide +kernel
theorem dX12_spreads_37 : decode cX12_spreads 37 = .ok (.getfield 160, 3) := by decide +kernel
theorem dX12_spreads_40 : decode cX12_spreads 40 = .ok (.iload_n 2, 1) := by decide +kernel
theorem dX12_spreads_41 : decode cX12_spreads 41 = .ok (.iaload, 1) := by decide +kernel
theorem dX12_spreads_42 : decode cX12_spreads 42 = .ok (.iload_n 3, 1) := by decide +kernel
theorem dX12_spreads_43 : decode cX12_spreads 43 = .ok (.bipush 99, 2) := by decide +kernel
theorem dX12_spreads_45 : decode cX12_spreads 45 = .ok (.if_icmp .le 8, 3) := by decide +kernel
theorem dX12_spreads_48 : decode cX12_spreads 48 = .ok (.bipush 99, 2) := by decide +kernel
theorem dX12_spreads_50 : decode cX12_spreads 50 = .ok (.goto 4, 3) := by decide +kernel
theorem dX12_spreads_53 : decode cX12_spreads 53 = .ok (.iload_n 3, 1) := by decide +kernel
theorem dX12_spreads_54 : decode cX12_spreads 54 = .ok (.iastore, 1) := by decide +kernel
theorem dX12_spreads_55 : decode cX12_spreads 55 = .ok (.iinc 2 1, 3) := by decide +kernel
theorem dX12_spreads_58 : decode cX12_spreads 58 = .ok (.goto (-56), 3) := by decide +kernel
theorem dX12_spreads_61 : decode cX12_spreads 61 = .ok (.return_, 1) := by decide +kernel
theorem dX12_campaign_0 : decode cX12_campaign 0 = .ok (.iload_n 1, 1) := by decide +kernel
theorem dX12_campaign_1 : decode cX12_campaign 1 = .ok (.invokestatic 209, 3) := by decide +kernel
theorem dX12_campaign_4 : decode cX12_campaign 4 = .ok (.ifCond .eq 29, 3) := by decide +kernel
theorem dX12_campaign_7 : decode cX12_campaign 7 = .ok (.iload_n 2, 1) := by decide +kernel
theorem dX12_campaign_8 : decode cX12_campaign 8 = .ok (.i2l, 1) := by decide +kernel
theorem dX12_campaign_9 : decode cX12_campaign 9 = .ok (.lconst 1, 1) := by decide +kernel
theorem dX12_campaign_10 : decode cX12_campaign 10 = .ok (.ldc2_w 407, 3) := by decide +kernel
theorem dX12_campaign_13 : decode cX12_campaign 13 = .ok (.invokestatic 188, 3) := by decide +kernel
theorem dX12_campaign_16 : decode cX12_campaign 16 = .ok (.ifCond .eq 17, 3) := by decide +kernel
theorem dX12_campaign_19 : decode cX12_campaign 19 = .ok (.iload_n 3, 1) := by decide +kernel
theorem dX12_campaign_20 : decode cX12_campaign 20 = .ok (.i2l, 1) := by decide +kernel
theorem dX12_campaign_21 : decode cX12_campaign 21 = .ok (.ldc2_w 431, 3) := by decide +kernel
theorem dX12_campaign_24 : decode cX12_campaign 24 = .ok (.ldc2_w 202, 3) := by decide +kernel
theorem dX12_campaign_27 : decode cX12_campaign 27 = .ok (.invokestatic 188, 3) := by decide +kernel
theorem dX12_campaign_30 : decode cX12_campaign 30 = .ok (.ifCond .ne 6, 3) := by decide +kernel
theorem dX12_campaign_33 : decode cX12_campaign 33 = .ok (.bipush (-3), 2) := by decide +kernel
theorem dX12_campaign_35 : decode cX12_campaign 35 = .ok (.ireturn, 1) := by decide +kernel
theorem dX12_campaign_36 : decode cX12_campaign 36 = .ok (.aload_n 0, 1) := by decide +kernel
theorem dX12_campaign_37 : decode cX12_campaign 37 = .ok (.iconst 0, 1) := by decide +kernel
theorem dX12_campaign_38 : decode cX12_campaign 38 = .ok (.putfield 425, 3) := by decide +kernel
theorem dX12_campaign_41 : decode cX12_campaign 41 = .ok (.iconst 0, 1) := by decide +kernel
theorem dX12_campaign_42 : decode cX12_campaign 42 = .ok (.istore 4, 2) := by decide +kernel
theorem dX12_campaign_44 : decode cX12_campaign 44 = .ok (.iload 4, 2) := by decide +kernel
theorem dX12_campaign_46 : decode cX12_campaign 46 = .ok (.aload_n 0, 1) := by decide +kernel
theorem dX12_campaign_47 : decode cX12_campaign 47 = .ok (.getfield 192, 3) := by decide +kernel
theorem dX12_campaign_50 : decode cX12_campaign 50 = .ok (.if_icmp .ge 62, 3) := by decide +kernel
theorem dX12_campaign_53 : decode cX12_campaign 53 = .ok (.aload_n 0, 1) := by decide +kernel
theorem dX12_campaign_54 : decode cX12_campaign 54 = .ok (.getfield 425, 3) := by decide +kernel
theorem dX12_campaign_57 : decode cX12_campaign 57 = .ok (.iconst 4, 1) := by decide +kernel
theorem dX12_campaign_58 : decode cX12_campaign 58 = .ok (.if_icmp .ge 54, 3) := by decide +kernel
theorem dX12_campaign_61 : decode cX12_campaign 61 = .ok (.aload_n 0, 1) := by decide +kernel
theorem dX12_campaign_62 : decode cX12_campaign 62 = .ok (.getfield 39, 3) := by decide +kernel
theorem dX12_campaign_65 : decode cX12_campaign 65 = .ok (.iload 4, 2) := by decide +kernel
theorem dX12_campaign_67 : decode cX12_campaign 67 = .ok (.baload, 1) := by decide +kernel
theorem dX12_campaign_68 : decode cX12_campaign 68 = .ok (.ifCond .eq 38, 3) := by decide +kernel
theorem dX12_campaign_71 : decode cX12_campaign 71 = .ok (.aload_n 0, 1) := by decide +kernel
theorem dX12_campaign_72 : decode cX12_campaign 72 = .ok (.getfield 24, 3) := by decide +kernel
theorem dX12_campaign_75 : decode cX12_campaign 75 = .ok (.iload 4, 2) := by decide +kernel
theorem dX12_campaign_77 : decode cX12_campaign 77 = .ok (.iaload, 1) := by decide +kernel
theorem dX12_campaign_78 : decode cX12_campaign 78 = .ok (.iload_n 1, 1) := by decide +kernel
theorem dX12_campaign_79 : decode cX12_campaign 79 = .ok (.if_icmp .eq 6, 3) := by decide +kernel
theorem dX12_campaign_82 : decode cX12_campaign 82 = .ok (.goto 24, 3) := by decide +kernel
theorem dX12_campaign_85 : decode cX12_campaign 85 = .ok (.aload_n 0, 1) := by decide +kernel
theorem dX12_campaign_86 : decode cX12_campaign 86 = .ok (.getfield 160, 3) := by decide +kernel
theorem dX12_campaign_89 : decode cX12_campaign 89 = .ok (.aload_n 0, 1) := by decide +kernel
theorem dX12_campaign_90 : decode cX12_campaign 90 = .ok (.getfield 425, 3) := by decide +kernel
theorem dX12_campaign_93 : decode cX12_campaign 93 = .ok (.iload 4, 2) := by decide +kernel
theorem dX12_campaign_95 : decode cX12_campaign 95 = .ok (.iastore, 1) := by decide +kernel
theorem dX12_campaign_96 : decode cX12_campaign 96 = .ok (.aload_n 0, 1) := by decide +kernel
theorem dX12_campaign_97 : decode cX12_campaign 97 = .ok (.dup, 1) := by decide +kernel
theorem dX12_campaign_98 : decode cX12_campaign 98 = .ok (.getfield 425, 3) := by decide +kernel
theorem dX12_campaign_101 : decode cX12_campaign 101 = .ok (.iconst 1, 1) := by decide +kernel
theorem dX12_campaign_102 : decode cX12_campaign 102 = .ok (.iadd, 1) := by decide +kernel
theorem dX12_campaign_103 : decode cX12_campaign 103 = .ok (.putfield 425, 3) := by decide +kernel
theorem dX12_campaign_106 : decode cX12_campaign 106 = .ok (.iinc 4 1, 3) := by decide +kernel
theorem dX12_campaign_109 : decode cX12_campaign 109 = .ok (.goto (-65), 3) := by decide +kernel
theorem dX12_campaign_112 : decode cX12_campaign 112 = .ok (.iload_n 3, 1) := by decide +kernel
theorem dX12_campaign_113 : decode cX12_campaign 113 = .ok (.i2l, 1) := by decide +kernel
theorem dX12_campaign_114 : decode cX12_campaign 114 = .ok (.aload_n 0, 1) := by decide +kernel
theorem dX12_campaign_115 : decode cX12_campaign 115 = .ok (.getfield 425, 3) := by decide +kernel
theorem dX12_campaign_118 : decode cX12_campaign 118 = .ok (.i2l, 1) := by decide +kernel
theorem dX12_campaign_119 : decode cX12_campaign 119 = .ok (.ldc2_w 433, 3) := by decide +kernel
theorem dX12_campaign_122 : decode cX12_campaign 122 = .ok (.invokestatic 188, 3) := by decide +kernel
theorem dX12_campaign_125 : decode cX12_campaign 125 = .ok (.ifCond .eq 6, 3) := by decide +kernel
theorem dX12_campaign_128 : decode cX12_campaign 128 = .ok (.bipush (-3), 2) := by decide +kernel
theorem dX12_campaign_130 : decode cX12_campaign 130 = .ok (.ireturn, 1) := by decide +kernel
theorem dX12_campaign_131 : decode cX12_campaign 131 = .ok (.iconst (-1), 1) := by decide +kernel
theorem dX12_campaign_132 : decode cX12_campaign 132 = .ok (.istore 4, 2) := by decide +kernel
theorem dX12_campaign_134 : decode cX12_campaign 134 = .ok (.iconst 0, 1) := by decide +kernel
theorem dX12_campaign_135 : decode cX12_campaign 135 = .ok (.istore 5, 2) := by decide +kernel
theorem dX12_campaign_137 : decode cX12_campaign 137 = .ok (.iload 5, 2) := by decide +kernel
theorem dX12_campaign_139 : decode cX12_campaign 139 = .ok (.iconst 1, 1) := by decide +kernel
theorem dX12_campaign_140 : decode cX12_campaign 140 = .ok (.iconst 2, 1) := by decide +kernel
theorem dX12_campaign_141 : decode cX12_campaign 141 = .ok (.aload_n 0, 1) := by decide +kernel
theorem dX12_campaign_142 : decode cX12_campaign 142 = .ok (.getfield 425, 3) := by decide +kernel
theorem dX12_campaign_145 : decode cX12_campaign 145 = .ok (.imul, 1) := by decide +kernel
theorem dX12_campaign_146 : decode cX12_campaign 146 = .ok (.ishl, 1) := by decide +kernel
theorem dX12_campaign_147 : decode cX12_campaign 147 = .ok (.if_icmp .ge 68, 3) := by decide +kernel
theorem dX12_campaign_150 : decode cX12_campaign 150 = .ok (.iload 4, 2) := by decide +kernel
theorem dX12_campaign_152 : decode cX12_campaign 152 = .ok (.iconst (-1), 1) := by decide +kernel
theorem dX12_campaign_153 : decode cX12_campaign 153 = .ok (.if_icmp .eq 19, 3) := by decide +kernel
theorem dX12_campaign_156 : decode cX12_campaign 156 = .ok (.iload 5, 2) := by decide +kernel
theorem dX12_campaign_158 : decode cX12_campaign 158 = .ok (.invokestatic 435, 3) := by decide +kernel
theorem dX12_campaign_161 : decode cX12_campaign 161 = .ok (.iload 4, 2) := by decide +kernel
theorem dX12_campaign_163 : decode cX12_campaign 163 = .ok (.invokestatic 435, 3) := by decide +kernel
theorem dX12_campaign_166 : decode cX12_campaign 166 = .ok (.if_icmp .lt 6, 3) := by decide +kernel
theorem dX12_campaign_169 : decode cX12_campaign 169 = .ok (.goto 40, 3) := by decide +kernel
theorem dX12_campaign_172 : decode cX12_campaign 172 = .ok (.aload_n 0, 1) := by decide +kernel
theorem dX12_campaign_173 : decode cX12_campaign 173 = .ok (.iconst 0, 1) := by decide +kernel
theorem dX12_campaign_174 : decode cX12_campaign 174 = .ok (.invokevirtual 411, 3) := by decide +kernel
theorem dX12_campaign_177 : decode cX12_campaign 177 = .ok (.aload_n 0, 1) := by decide +kernel
theorem dX12_campaign_178 : decode cX12_campaign 178 = .ok (.iload 5, 2) := by decide +kernel
theorem dX12_campaign_180 : decode cX12_campaign 180 = .ok (.invokevirtual 438, 3) := by decide +kernel
theorem dX12_campaign_183 : decode cX12_campaign 183 = .ok (.aload_n 0, 1) := by decide +kernel
theorem dX12_campaign_184 : decode cX12_campaign 184 = .ok (.iload_n 2, 1) := by decide +kernel
theorem dX12_campaign_185 : decode cX12_campaign 185 = .ok (.invokevirtual 414, 3) := by decide +kernel
theorem dX12_campaign_188 : decode cX12_campaign 188 = .ok (.aload_n 0, 1) := by decide +kernel
theorem dX12_campaign_189 : decode cX12_campaign 189 = .ok (.iload_n 1, 1) := by decide +kernel
theorem dX12_campaign_190 : decode cX12_campaign 190 = .ok (.invokevirtual 404, 3) := by decide +kernel
theorem dX12_campaign_193 : decode cX12_campaign 193 = .ok (.istore 6, 2) := by decide +kernel
theorem dX12_campaign_195 : decode cX12_campaign 195 = .ok (.aload_n 0, 1) := by decide +kernel
theorem dX12_campaign_196 : decode cX12_campaign 196 = .ok (.iconst 0, 1) := by decide +kernel
theorem dX12_campaign_197 : decode cX12_campaign 197 = .ok (.invokevirtual 420, 3) := by decide +kernel
theorem dX12_campaign_200 : decode cX12_campaign 200 = .ok (.iload 6, 2) := by decide +kernel
theorem dX12_campaign_202 : decode cX12_campaign 202 = .ok (.ifCond .eq 7, 3) := by decide +kernel
theorem dX12_campaign_205 : decode cX12_campaign 205 = .ok (.iload 5, 2) := by decide +kernel
theorem dX12_campaign_207 : decode cX12_campaign 207 = .ok (.istore 4, 2) := by decide +kernel
theorem dX12_campaign_209 : decode cX12_campaign 209 = .ok (.iinc 5 1, 3) := by decide +kernel
theorem dX12_campaign_212 : decode cX12_campaign 212 = .ok (.goto (-75), 3) := by decide +kernel
theorem dX12_campaign_215 : decode cX12_campaign 215 = .ok (.iload 4, 2) := by decide +kernel
theorem dX12_campaign_217 : decode cX12_campaign 217 = .ok (.iconst (-1), 1) := by decide +kernel
theorem dX12_campaign_218 : decode cX12_campaign 218 = .ok (.if_icmp .ne 6, 3) := by decide +kernel
theorem dX12_campaign_221 : decode cX12_campaign 221 = .ok (.bipush (-2), 2) := by decide +kernel
theorem dX12_campaign_223 : decode cX12_campaign 223 = .ok (.ireturn, 1) := by decide +kernel
theorem dX12_campaign_224 : decode cX12_campaign 224 = .ok (.iload_n 3, 1) := by decide +kernel
theorem dX12_campaign_225 : decode cX12_campaign 225 = .ok (.iconst 4, 1) := by decide +kernel
theorem dX12_campaign_226 : decode cX12_campaign 226 = .ok (.if_icmp .ne 9, 3) := by decide +kernel
theorem dX12_campaign_229 : decode cX12_campaign 229 = .ok (.aload_n 0, 1) := by decide +kernel
theorem dX12_campaign_230 : decode cX12_campaign 230 = .ok (.iload 4, 2) := by decide +kernel
theorem dX12_campaign_232 : decode cX12_campaign 232 = .ok (.invokevirtual 438, 3) := by decide +kernel
theorem dX12_campaign_235 : decode cX12_campaign 235 = .ok (.iload_n 3, 1) := by decide +kernel
theorem dX12_campaign_236 : decode cX12_campaign 236 = .ok (.iconst (-1), 1) := by decide +kernel
theorem dX12_campaign_237 : decode cX12_campaign 237 = .ok (.if_icmp .eq 8, 3) := by decide +kernel
theorem dX12_campaign_240 : decode cX12_campaign 240 = .ok (.iload_n 3, 1) := by decide +kernel
theorem dX12_campaign_241 : decode cX12_campaign 241 = .ok (.iconst 4, 1) := by decide +kernel
theorem dX12_campaign_242 : decode cX12_campaign 242 = .ok (.if_icmp .ne 11, 3) := by decide +kernel
theorem dX12_campaign_245 : decode cX12_campaign 245 = .ok (.iload 4, 2) := by decide +kernel
theorem dX12_campaign_247 : decode cX12_campaign 247 = .ok (.invokestatic 435, 3) := by decide +kernel
theorem dX12_campaign_250 : decode cX12_campaign 250 = .ok (.goto 13, 3) := by decide +kernel
theorem dX12_campaign_253 : decode cX12_campaign 253 = .ok (.iload 4, 2) := by decide +kernel
theorem dX12_campaign_255 : decode cX12_campaign 255 = .ok (.aload_n 0, 1) := by decide +kernel
theorem dX12_campaign_256 : decode cX12_campaign 256 = .ok (.getfield 425, 3) := by decide +kernel
theorem dX12_campaign_259 : decode cX12_campaign 259 = .ok (.iload_n 3, 1) := by decide +kernel
theorem dX12_campaign_260 : decode cX12_campaign 260 = .ok (.invokestatic 428, 3) := by decide +kernel
theorem dX12_campaign_263 : decode cX12_campaign 263 = .ok (.ireturn, 1) := by decide +kernel
theorem dX12_sizeOf_0 : decode cX12_sizeOf 0 = .ok (.iconst 0, 1) := by decide +kernel
theorem dX12_sizeOf_1 : decode cX12_sizeOf 1 = .ok (.istore_n 1, 1) := by decide +kernel
theorem dX12_sizeOf_2 : decode cX12_sizeOf 2 = .ok (.iload_n 0, 1) := by decide +kernel
theorem dX12_sizeOf_3 : decode cX12_sizeOf 3 = .ok (.istore_n 2, 1) := by decide +kernel
theorem dX12_sizeOf_4 : decode cX12_sizeOf 4 = .ok (.iload_n 2, 1) := by decide +kernel
theorem dX12_sizeOf_5 : decode cX12_sizeOf 5 = .ok (.ifCond .eq 15, 3) := by decide +kernel
theorem dX12_sizeOf_8 : decode cX12_sizeOf 8 = .ok (.iinc 1 1, 3) := by decide +kernel
theorem dX12_sizeOf_11 : decode cX12_sizeOf 11 = .ok (.iload_n 2, 1) := by decide +kernel
theorem dX12_sizeOf_12 : decode cX12_sizeOf 12 = .ok (.iload_n 2, 1) := by decide +kernel
theorem dX12_sizeOf_13 : decode cX12_sizeOf 13 = .ok (.iconst 1, 1) := by decide +kernel
theorem dX12_sizeOf_14 : decode cX12_sizeOf 14 = .ok (.isub, 1) := by decide +kernel
theorem dX12_sizeOf_15 : decode cX12_sizeOf 15 = .ok (.iand, 1) := by decide +kernel
theorem dX12_sizeOf_16 : decode cX12_sizeOf 16 = .ok (.istore_n 2, 1) := by decide +kernel
theorem dX12_sizeOf_17 : decode cX12_sizeOf 17 = .ok (.goto (-13), 3) := by decide +kernel
theorem dX12_sizeOf_20 : decode cX12_sizeOf 20 = .ok (.iload_n 1, 1) := by decide +kernel
theorem dX12_sizeOf_21 : decode cX12_sizeOf 21 = .ok (.ireturn, 1) := by decide +kernel
theorem dX12_laysVotes_0 : decode cX12_laysVotes 0 = .ok (.aload_n 0, 1) := by decide +kernel
theorem dX12_laysVotes_1 : decode cX12_laysVotes 1 = .ok (.getfield 164, 3) := by decide +kernel
theorem dX12_laysVotes_4 : decode cX12_laysVotes 4 = .ok (.iconst 0, 1) := by decide +kernel
theorem dX12_laysVotes_5 : decode cX12_laysVotes 5 = .ok (.iconst 0, 1) := by decide +kernel
theorem dX12_laysVotes_6 : decode cX12_laysVotes 6 = .ok (.iastore, 1) := by decide +kernel
theorem dX12_laysVotes_7 : decode cX12_laysVotes 7 = .ok (.iconst 1, 1) := by decide +kernel
theorem dX12_laysVotes_8 : decode cX12_laysVotes 8 = .ok (.istore_n 1, 1) := by decide +kernel
theorem dX12_laysVotes_9 : decode cX12_laysVotes 9 = .ok (.iload_n 1, 1) := by decide +kernel
theorem dX12_laysVotes_10 : decode cX12_laysVotes 10 = .ok (.iconst 1, 1) := by decide +kernel
theorem dX12_laysVotes_11 : decode cX12_laysVotes 11 = .ok (.aload_n 0, 1) := by decide +kernel
theorem dX12_laysVotes_12 : decode cX12_laysVotes 12 = .ok (.getfield 199, 3) := by decide +kernel
theorem dX12_laysVotes_15 : decode cX12_laysVotes 15 = .ok (.ishl, 1) := by decide +kernel
theorem dX12_laysVotes_16 : decode cX12_laysVotes 16 = .ok (.if_icmp .ge 48, 3) := by decide +kernel
theorem dX12_laysVotes_19 : decode cX12_laysVotes 19 = .ok (.iconst 0, 1) := by decide +kernel
theorem dX12_laysVotes_20 : decode cX12_laysVotes 20 = .ok (.istore_n 2, 1) := by decide +kernel
theorem dX12_laysVotes_21 : decode cX12_laysVotes 21 = .ok (.iload_n 1, 1) := by decide +kernel
theorem dX12_laysVotes_22 : decode cX12_laysVotes 22 = .ok (.iload_n 2, 1) := by decide +kernel
theorem dX12_laysVotes_23 : decode cX12_laysVotes 23 = .ok (.invokestatic 441, 3) := by decide +kernel
theorem dX12_laysVotes_26 : decode cX12_laysVotes 26 = .ok (.ifCond .ne 9, 3) := by decide +kernel
theorem dX12_laysVotes_29 : decode cX12_laysVotes 29 = .ok (.iinc 2 1, 3) := by decide +kernel
theorem dX12_laysVotes_32 : decode cX12_laysVotes 32 = .ok (.goto (-11), 3) := by decide +kernel
theorem dX12_laysVotes_35 : decode cX12_laysVotes 35 = .ok (.aload_n 0, 1) := by decide +kernel
theorem dX12_laysVotes_36 : decode cX12_laysVotes 36 = .ok (.getfield 164, 3) := by decide +kernel
theorem dX12_laysVotes_39 : decode cX12_laysVotes 39 = .ok (.iload_n 1, 1) := by decide +kernel
theorem dX12_laysVotes_40 : decode cX12_laysVotes 40 = .ok (.aload_n 0, 1) := by decide +kernel
theorem dX12_laysVotes_41 : decode cX12_laysVotes 41 = .ok (.getfield 164, 3) := by decide +kernel
theorem dX12_laysVotes_44 : decode cX12_laysVotes 44 = .ok (.iload_n 1, 1) := by decide +kernel
theorem dX12_laysVotes_45 : decode cX12_laysVotes 45 = .ok (.iload_n 1, 1) := by decide +kernel
theorem dX12_laysVotes_46 : decode cX12_laysVotes 46 = .ok (.iconst 1, 1) := by decide +kernel
theorem dX12_laysVotes_47 : decode cX12_laysVotes 47 = .ok (.isub, 1) := by decide +kernel
theorem dX12_laysVotes_48 : decode cX12_laysVotes 48 = .ok (.iand, 1) := by decide +kernel
theorem dX12_laysVotes_49 : decode cX12_laysVotes 49 = .ok (.iaload, 1) := by decide +kernel
theorem dX12_laysVotes_50 : decode cX12_laysVotes 50 = .ok (.aload_n 0, 1) := by decide +kernel
theorem dX12_laysVotes_51 : decode cX12_laysVotes 51 = .ok (.getfield 46, 3) := by decide +kernel
theorem dX12_laysVotes_54 : decode cX12_laysVotes 54 = .ok (.iload_n 2, 1) := by decide +kernel
theorem dX12_laysVotes_55 : decode cX12_laysVotes 55 = .ok (.iaload, 1) := by decide +kernel
theorem dX12_laysVotes_56 : decode cX12_laysVotes 56 = .ok (.iadd, 1) := by decide +kernel
theorem dX12_laysVotes_57 : decode cX12_laysVotes 57 = .ok (.iastore, 1) := by decide +kernel
theorem dX12_laysVotes_58 : decode cX12_laysVotes 58 = .ok (.iinc 1 1, 3) := by decide +kernel
theorem dX12_laysVotes_61 : decode cX12_laysVotes 61 = .ok (.goto (-52), 3) := by decide +kernel
theorem dX12_laysVotes_64 : decode cX12_laysVotes 64 = .ok (.return_, 1) := by decide +kernel
theorem dX12_isSwing_0 : decode cX12_isSwing 0 = .ok (.aload_n 0, 1) := by decide +kernel
theorem dX12_isSwing_1 : decode cX12_isSwing 1 = .ok (.getfield 164, 3) := by decide +kernel
theorem dX12_isSwing_4 : decode cX12_isSwing 4 = .ok (.iconst 1, 1) := by decide +kernel
theorem dX12_isSwing_5 : decode cX12_isSwing 5 = .ok (.aload_n 0, 1) := by decide +kernel
theorem dX12_isSwing_6 : decode cX12_isSwing 6 = .ok (.getfield 199, 3) := by decide +kernel
theorem dX12_isSwing_9 : decode cX12_isSwing 9 = .ok (.ishl, 1) := by decide +kernel
theorem dX12_isSwing_10 : decode cX12_isSwing 10 = .ok (.iconst 1, 1) := by decide +kernel
theorem dX12_isSwing_11 : decode cX12_isSwing 11 = .ok (.isub, 1) := by decide +kernel
theorem dX12_isSwing_12 : decode cX12_isSwing 12 = .ok (.iaload, 1) := by decide +kernel
theorem dX12_isSwing_13 : decode cX12_isSwing 13 = .ok (.istore_n 3, 1) := by decide +kernel
theorem dX12_isSwing_14 : decode cX12_isSwing 14 = .ok (.iload_n 1, 1) := by decide +kernel
theorem dX12_isSwing_15 : decode cX12_isSwing 15 = .ok (.iload_n 2, 1) := by decide +kernel
theorem dX12_isSwing_16 : decode cX12_isSwing 16 = .ok (.invokestatic 441, 3) := by decide +kernel
theorem dX12_isSwing_19 : decode cX12_isSwing 19 = .ok (.ifCond .ne 38, 3) := by decide +kernel
theorem dX12_isSwing_22 : decode cX12_isSwing 22 = .ok (.iconst 2, 1) := by decide +kernel
theorem dX12_isSwing_23 : decode cX12_isSwing 23 = .ok (.aload_n 0, 1) := by decide +kernel
theorem dX12_isSwing_24 : decode cX12_isSwing 24 = .ok (.getfield 164, 3) := by decide +kernel
theorem dX12_isSwing_27 : decode cX12_isSwing 27 = .ok (.iload_n 1, 1) := by decide +kernel
theorem dX12_isSwing_28 : decode cX12_isSwing 28 = .ok (.iaload, 1) := by decide +kernel
theorem dX12_isSwing_29 : decode cX12_isSwing 29 = .ok (.imul, 1) := by decide +kernel
theorem dX12_isSwing_30 : decode cX12_isSwing 30 = .ok (.iload_n 3, 1) := by decide +kernel
theorem dX12_isSwing_31 : decode cX12_isSwing 31 = .ok (.if_icmp .gt 26, 3) := by decide +kernel
theorem dX12_isSwing_34 : decode cX12_isSwing 34 = .ok (.iconst 2, 1) := by decide +kernel
theorem dX12_isSwing_35 : decode cX12_isSwing 35 = .ok (.aload_n 0, 1) := by decide +kernel
theorem dX12_isSwing_36 : decode cX12_isSwing 36 = .ok (.getfield 164, 3) := by decide +kernel
theorem dX12_isSwing_39 : decode cX12_isSwing 39 = .ok (.iload_n 1, 1) := by decide +kernel
theorem dX12_isSwing_40 : decode cX12_isSwing 40 = .ok (.iaload, 1) := by decide +kernel
theorem dX12_isSwing_41 : decode cX12_isSwing 41 = .ok (.aload_n 0, 1) := by decide +kernel
theorem dX12_isSwing_42 : decode cX12_isSwing 42 = .ok (.getfield 46, 3) := by decide +kernel
theorem dX12_isSwing_45 : decode cX12_isSwing 45 = .ok (.iload_n 2, 1) := by decide +kernel
theorem dX12_isSwing_46 : decode cX12_isSwing 46 = .ok (.iaload, 1) := by decide +kernel
theorem dX12_isSwing_47 : decode cX12_isSwing 47 = .ok (.iadd, 1) := by decide +kernel
theorem dX12_isSwing_48 : decode cX12_isSwing 48 = .ok (.imul, 1) := by decide +kernel
theorem dX12_isSwing_49 : decode cX12_isSwing 49 = .ok (.iload_n 3, 1) := by decide +kernel
theorem dX12_isSwing_50 : decode cX12_isSwing 50 = .ok (.if_icmp .le 7, 3) := by decide +kernel
theorem dX12_isSwing_53 : decode cX12_isSwing 53 = .ok (.iconst 1, 1) := by decide +kernel
theorem dX12_isSwing_54 : decode cX12_isSwing 54 = .ok (.goto 4, 3) := by decide +kernel
theorem dX12_isSwing_57 : decode cX12_isSwing 57 = .ok (.iconst 0, 1) := by decide +kernel
theorem dX12_isSwing_58 : decode cX12_isSwing 58 = .ok (.ireturn, 1) := by decide +kernel
theorem dX12_power_0 : decode cX12_power 0 = .ok (.aload_n 0, 1) := by decide +kernel
theorem dX12_power_1 : decode cX12_power 1 = .ok (.iload_n 1, 1) := by decide +kernel
theorem dX12_power_2 : decode cX12_power 2 = .ok (.invokevirtual 217, 3) := by decide +kernel
theorem dX12_power_5 : decode cX12_power 5 = .ok (.ifCond .ne 5, 3) := by decide +kernel
theorem dX12_power_8 : decode cX12_power 8 = .ok (.iconst (-1), 1) := by decide +kernel
theorem dX12_power_9 : decode cX12_power 9 = .ok (.ireturn, 1) := by decide +kernel
theorem dX12_power_10 : decode cX12_power 10 = .ok (.aload_n 0, 1) := by decide +kernel
theorem dX12_power_11 : decode cX12_power 11 = .ok (.invokevirtual 445, 3) := by decide +kernel
theorem dX12_power_14 : decode cX12_power 14 = .ok (.iconst 0, 1) := by decide +kernel
theorem dX12_power_15 : decode cX12_power 15 = .ok (.istore_n 2, 1) := by decide +kernel
theorem dX12_power_16 : decode cX12_power 16 = .ok (.iconst 0, 1) := by decide +kernel
theorem dX12_power_17 : decode cX12_power 17 = .ok (.istore_n 3, 1) := by decide +kernel
theorem dX12_power_18 : decode cX12_power 18 = .ok (.iload_n 3, 1) := by decide +kernel
theorem dX12_power_19 : decode cX12_power 19 = .ok (.iconst 1, 1) := by decide +kernel
theorem dX12_power_20 : decode cX12_power 20 = .ok (.aload_n 0, 1) := by decide +kernel
theorem dX12_power_21 : decode cX12_power 21 = .ok (.getfield 199, 3) := by decide +kernel
theorem dX12_power_24 : decode cX12_power 24 = .ok (.ishl, 1) := by decide +kernel
theorem dX12_power_25 : decode cX12_power 25 = .ok (.if_icmp .ge 26, 3) := by decide +kernel
theorem dX12_power_28 : decode cX12_power 28 = .ok (.iload_n 2, 1) := by decide +kernel
theorem dX12_power_29 : decode cX12_power 29 = .ok (.aload_n 0, 1) := by decide +kernel
theorem dX12_power_30 : decode cX12_power 30 = .ok (.iload_n 3, 1) := by decide +kernel
theorem dX12_power_31 : decode cX12_power 31 = .ok (.iload_n 1, 1) := by decide +kernel
theorem dX12_power_32 : decode cX12_power 32 = .ok (.invokevirtual 448, 3) := by decide +kernel
theorem dX12_power_35 : decode cX12_power 35 = .ok (.ifCond .eq 7, 3) := by decide +kernel
theorem dX12_power_38 : decode cX12_power 38 = .ok (.iconst 1, 1) := by decide +kernel
theorem dX12_power_39 : decode cX12_power 39 = .ok (.goto 4, 3) := by decide +kernel
theorem dX12_power_42 : decode cX12_power 42 = .ok (.iconst 0, 1) := by decide +kernel
theorem dX12_power_43 : decode cX12_power 43 = .ok (.iadd, 1) := by decide +kernel
theorem dX12_power_44 : decode cX12_power 44 = .ok (.istore_n 2, 1) := by decide +kernel
theorem dX12_power_45 : decode cX12_power 45 = .ok (.iinc 3 1, 3) := by decide +kernel
theorem dX12_power_48 : decode cX12_power 48 = .ok (.goto (-30), 3) := by decide +kernel
theorem dX12_power_51 : decode cX12_power 51 = .ok (.iload_n 2, 1) := by decide +kernel
theorem dX12_power_52 : decode cX12_power 52 = .ok (.ireturn, 1) := by decide +kernel
theorem dX12_ordersOf_0 : decode cX12_ordersOf 0 = .ok (.lconst 1, 1) := by decide +kernel
theorem dX12_ordersOf_1 : decode cX12_ordersOf 1 = .ok (.lstore_n 1, 1) := by decide +kernel
theorem dX12_ordersOf_2 : decode cX12_ordersOf 2 = .ok (.iconst 2, 1) := by decide +kernel
theorem dX12_ordersOf_3 : decode cX12_ordersOf 3 = .ok (.istore_n 3, 1) := by decide +kernel
theorem dX12_ordersOf_4 : decode cX12_ordersOf 4 = .ok (.iload_n 3, 1) := by decide +kernel
theorem dX12_ordersOf_5 : decode cX12_ordersOf 5 = .ok (.iload_n 0, 1) := by decide +kernel
theorem dX12_ordersOf_6 : decode cX12_ordersOf 6 = .ok (.if_icmp .gt 14, 3) := by decide +kernel
theorem dX12_ordersOf_9 : decode cX12_ordersOf 9 = .ok (.lload_n 1, 1) := by decide +kernel
theorem dX12_ordersOf_10 : decode cX12_ordersOf 10 = .ok (.iload_n 3, 1) := by decide +kernel
theorem dX12_ordersOf_11 : decode cX12_ordersOf 11 = .ok (.i2l, 1) := by decide +kernel
theorem dX12_ordersOf_12 : decode cX12_ordersOf 12 = .ok (.lmul, 1) := by decide +kernel
theorem dX12_ordersOf_13 : decode cX12_ordersOf 13 = .ok (.lstore_n 1, 1) := by decide +kernel
theorem dX12_ordersOf_14 : decode cX12_ordersOf 14 = .ok (.iinc 3 1, 3) := by decide +kernel
theorem dX12_ordersOf_17 : decode cX12_ordersOf 17 = .ok (.goto (-13), 3) := by decide +kernel
theorem dX12_ordersOf_20 : decode cX12_ordersOf 20 = .ok (.lload_n 1, 1) := by decide +kernel
theorem dX12_ordersOf_21 : decode cX12_ordersOf 21 = .ok (.lreturn, 1) := by decide +kernel
theorem dX12_divisor_0 : decode cX12_divisor 0 = .ok (.lload_n 0, 1) := by decide +kernel
theorem dX12_divisor_1 : decode cX12_divisor 1 = .ok (.lstore 4, 2) := by decide +kernel
theorem dX12_divisor_3 : decode cX12_divisor 3 = .ok (.lload_n 2, 1) := by decide +kernel
theorem dX12_divisor_4 : decode cX12_divisor 4 = .ok (.lstore 6, 2) := by decide +kernel
theorem dX12_divisor_6 : decode cX12_divisor 6 = .ok (.lload 6, 2) := by decide +kernel
theorem dX12_divisor_8 : decode cX12_divisor 8 = .ok (.lconst 0, 1) := by decide +kernel
theorem dX12_divisor_9 : decode cX12_divisor 9 = .ok (.lcmp, 1) := by decide +kernel
theorem dX12_divisor_10 : decode cX12_divisor 10 = .ok (.ifCond .eq 21, 3) := by decide +kernel
theorem dX12_divisor_13 : decode cX12_divisor 13 = .ok (.lload 4, 2) := by decide +kernel
theorem dX12_divisor_15 : decode cX12_divisor 15 = .ok (.lload 6, 2) := by decide +kernel
theorem dX12_divisor_17 : decode cX12_divisor 17 = .ok (.lrem, 1) := by decide +kernel
theorem dX12_divisor_18 : decode cX12_divisor 18 = .ok (.lstore 8, 2) := by decide +kernel
theorem dX12_divisor_20 : decode cX12_divisor 20 = .ok (.lload 6, 2) := by decide +kernel
theorem dX12_divisor_22 : decode cX12_divisor 22 = .ok (.lstore 4, 2) := by decide +kernel
theorem dX12_divisor_24 : decode cX12_divisor 24 = .ok (.lload 8, 2) := by decide +kernel
theorem dX12_divisor_26 : decode cX12_divisor 26 = .ok (.lstore 6, 2) := by decide +kernel
theorem dX12_divisor_28 : decode cX12_divisor 28 = .ok (.goto (-22), 3) := by decide +kernel
theorem dX12_divisor_31 : decode cX12_divisor 31 = .ok (.lload 4, 2) := by decide +kernel
theorem dX12_divisor_33 : decode cX12_divisor 33 = .ok (.lreturn, 1) := by decide +kernel
theorem dX12_share_0 : decode cX12_share 0 = .ok (.aload_n 0, 1) := by decide +kernel
theorem dX12_share_1 : decode cX12_share 1 = .ok (.iload_n 1, 1) := by decide +kernel
theorem dX12_share_2 : decode cX12_share 2 = .ok (.invokevirtual 217, 3) := by decide +kernel
theorem dX12_share_5 : decode cX12_share 5 = .ok (.ifCond .eq 13, 3) := by decide +kernel
theorem dX12_share_8 : decode cX12_share 8 = .ok (.iload_n 2, 1) := by decide +kernel
theorem dX12_share_9 : decode cX12_share 9 = .ok (.i2l, 1) := by decide +kernel
theorem dX12_share_10 : decode cX12_share 10 = .ok (.lconst 0, 1) := by decide +kernel
theorem dX12_share_11 : decode cX12_share 11 = .ok (.lconst 1, 1) := by decide +kernel
theorem dX12_share_12 : decode cX12_share 12 = .ok (.invokestatic 188, 3) := by decide +kernel
theorem dX12_share_15 : decode cX12_share 15 = .ok (.ifCond .ne 7, 3) := by decide +kernel
theorem dX12_share_18 : decode cX12_share 18 = .ok (.ldc2_w 431, 3) := by decide +kernel
theorem dX12_share_21 : decode cX12_share 21 = .ok (.lreturn, 1) := by decide +kernel
theorem dX12_share_22 : decode cX12_share 22 = .ok (.aload_n 0, 1) := by decide +kernel
theorem dX12_share_23 : decode cX12_share 23 = .ok (.invokevirtual 445, 3) := by decide +kernel
theorem dX12_share_26 : decode cX12_share 26 = .ok (.lconst 0, 1) := by decide +kernel
theorem dX12_share_27 : decode cX12_share 27 = .ok (.lstore_n 3, 1) := by decide +kernel
theorem dX12_share_28 : decode cX12_share 28 = .ok (.iconst 0, 1) := by decide +kernel
theorem dX12_share_29 : decode cX12_share 29 = .ok (.istore 5, 2) := by decide +kernel
theorem dX12_share_31 : decode cX12_share 31 = .ok (.iload 5, 2) := by decide +kernel
theorem dX12_share_33 : decode cX12_share 33 = .ok (.iconst 1, 1) := by decide +kernel
theorem dX12_share_34 : decode cX12_share 34 = .ok (.aload_n 0, 1) := by decide +kernel
theorem dX12_share_35 : decode cX12_share 35 = .ok (.getfield 199, 3) := by decide +kernel
theorem dX12_share_38 : decode cX12_share 38 = .ok (.ishl, 1) := by decide +kernel
theorem dX12_share_39 : decode cX12_share 39 = .ok (.if_icmp .ge 46, 3) := by decide +kernel
theorem dX12_share_42 : decode cX12_share 42 = .ok (.aload_n 0, 1) := by decide +kernel
theorem dX12_share_43 : decode cX12_share 43 = .ok (.iload 5, 2) := by decide +kernel
theorem dX12_share_45 : decode cX12_share 45 = .ok (.iload_n 1, 1) := by decide +kernel
theorem dX12_share_46 : decode cX12_share 46 = .ok (.invokevirtual 448, 3) := by decide +kernel
theorem dX12_share_49 : decode cX12_share 49 = .ok (.ifCond .eq 30, 3) := by decide +kernel
theorem dX12_share_52 : decode cX12_share 52 = .ok (.lload_n 3, 1) := by decide +kernel
theorem dX12_share_53 : decode cX12_share 53 = .ok (.iload 5, 2) := by decide +kernel
theorem dX12_share_55 : decode cX12_share 55 = .ok (.invokestatic 451, 3) := by decide +kernel
theorem dX12_share_58 : decode cX12_share 58 = .ok (.invokestatic 454, 3) := by decide +kernel
theorem dX12_share_61 : decode cX12_share 61 = .ok (.aload_n 0, 1) := by decide +kernel
theorem dX12_share_62 : decode cX12_share 62 = .ok (.getfield 199, 3) := by decide +kernel
theorem dX12_share_65 : decode cX12_share 65 = .ok (.iconst 1, 1) := by decide +kernel
theorem dX12_share_66 : decode cX12_share 66 = .ok (.isub, 1) := by decide +kernel
theorem dX12_share_67 : decode cX12_share 67 = .ok (.iload 5, 2) := by decide +kernel
theorem dX12_share_69 : decode cX12_share 69 = .ok (.invokestatic 451, 3) := by decide +kernel
theorem dX12_share_72 : decode cX12_share 72 = .ok (.isub, 1) := by decide +kernel
theorem dX12_share_73 : decode cX12_share 73 = .ok (.invokestatic 454, 3) := by decide +kernel
theorem dX12_share_76 : decode cX12_share 76 = .ok (.lmul, 1) := by decide +kernel
theorem dX12_share_77 : decode cX12_share 77 = .ok (.ladd, 1) := by decide +kernel
theorem dX12_share_78 : decode cX12_share 78 = .ok (.lstore_n 3, 1) := by decide +kernel
theorem dX12_share_79 : decode cX12_share 79 = .ok (.iinc 5 1, 3) := by decide +kernel
theorem dX12_share_82 : decode cX12_share 82 = .ok (.goto (-51), 3) := by decide +kernel
theorem dX12_share_85 : decode cX12_share 85 = .ok (.aload_n 0, 1) := by decide +kernel
theorem dX12_share_86 : decode cX12_share 86 = .ok (.getfield 199, 3) := by decide +kernel
theorem dX12_share_89 : decode cX12_share 89 = .ok (.invokestatic 454, 3) := by decide +kernel
theorem dX12_share_92 : decode cX12_share 92 = .ok (.lstore 5, 2) := by decide +kernel
theorem dX12_share_94 : decode cX12_share 94 = .ok (.lload_n 3, 1) := by decide +kernel
theorem dX12_share_95 : decode cX12_share 95 = .ok (.lload 5, 2) := by decide +kernel
theorem dX12_share_97 : decode cX12_share 97 = .ok (.invokestatic 458, 3) := by decide +kernel
theorem dX12_share_100 : decode cX12_share 100 = .ok (.lstore 7, 2) := by decide +kernel
theorem dX12_share_102 : decode cX12_share 102 = .ok (.iload_n 2, 1) := by decide +kernel
theorem dX12_share_103 : decode cX12_share 103 = .ok (.ifCond .ne 10, 3) := by decide +kernel
theorem dX12_share_106 : decode cX12_share 106 = .ok (.lload_n 3, 1) := by decide +kernel
theorem dX12_share_107 : decode cX12_share 107 = .ok (.lload 7, 2) := by decide +kernel
theorem dX12_share_109 : decode cX12_share 109 = .ok (.ldiv, 1) := by decide +kernel
theorem dX12_share_110 : decode cX12_share 110 = .ok (.goto 8, 3) := by decide +kernel
theorem dX12_share_113 : decode cX12_share 113 = .ok (.lload 5, 2) := by decide +kernel
theorem dX12_share_115 : decode cX12_share 115 = .ok (.lload 7, 2) := by decide +kernel
theorem dX12_share_117 : decode cX12_share 117 = .ok (.ldiv, 1) := by decide +kernel
theorem dX12_share_118 : decode cX12_share 118 = .ok (.lreturn, 1) := by decide +kernel
theorem dX12_seatOf_0 : decode cX12_seatOf 0 = .ok (.iconst 0, 1) := by decide +kernel
theorem dX12_seatOf_1 : decode cX12_seatOf 1 = .ok (.istore 4, 2) := by decide +kernel
theorem dX12_seatOf_3 : decode cX12_seatOf 3 = .ok (.iload 4, 2) := by decide +kernel
theorem dX12_seatOf_5 : decode cX12_seatOf 5 = .ok (.iconst 5, 1) := by decide +kernel
theorem dX12_seatOf_6 : decode cX12_seatOf 6 = .ok (.if_icmp .ge 17, 3) := by decide +kernel
theorem dX12_seatOf_9 : decode cX12_seatOf 9 = .ok (.aload_n 0, 1) := by decide +kernel
theorem dX12_seatOf_10 : decode cX12_seatOf 10 = .ok (.getfield 167, 3) := by decide +kernel
theorem dX12_seatOf_13 : decode cX12_seatOf 13 = .ok (.iload 4, 2) := by decide +kernel
theorem dX12_seatOf_15 : decode cX12_seatOf 15 = .ok (.iconst 0, 1) := by decide +kernel
theorem dX12_seatOf_16 : decode cX12_seatOf 16 = .ok (.iastore, 1) := by decide +kernel
theorem dX12_seatOf_17 : decode cX12_seatOf 17 = .ok (.iinc 4 1, 3) := by decide +kernel
theorem dX12_seatOf_20 : decode cX12_seatOf 20 = .ok (.goto (-17), 3) := by decide +kernel
theorem dX12_seatOf_23 : decode cX12_seatOf 23 = .ok (.iconst 0, 1) := by decide +kernel
theorem dX12_seatOf_24 : decode cX12_seatOf 24 = .ok (.istore 4, 2) := by decide +kernel
theorem dX12_seatOf_26 : decode cX12_seatOf 26 = .ok (.iload 4, 2) := by decide +kernel
theorem dX12_seatOf_28 : decode cX12_seatOf 28 = .ok (.aload_n 0, 1) := by decide +kernel
theorem dX12_seatOf_29 : decode cX12_seatOf 29 = .ok (.getfield 199, 3) := by decide +kernel
theorem dX12_seatOf_32 : decode cX12_seatOf 32 = .ok (.if_icmp .ge 88, 3) := by decide +kernel
theorem dX12_seatOf_35 : decode cX12_seatOf 35 = .ok (.aload_n 0, 1) := by decide +kernel
theorem dX12_seatOf_36 : decode cX12_seatOf 36 = .ok (.getfield 43, 3) := by decide +kernel
theorem dX12_seatOf_39 : decode cX12_seatOf 39 = .ok (.iload 4, 2) := by decide +kernel
theorem dX12_seatOf_41 : decode cX12_seatOf 41 = .ok (.iaload, 1) := by decide +kernel
theorem dX12_seatOf_42 : decode cX12_seatOf 42 = .ok (.bipush 10, 2) := by decide +kernel
theorem dX12_seatOf_44 : decode cX12_seatOf 44 = .ok (.idiv, 1) := by decide +kernel
theorem dX12_seatOf_45 : decode cX12_seatOf 45 = .ok (.iload_n 3, 1) := by decide +kernel
theorem dX12_seatOf_46 : decode cX12_seatOf 46 = .ok (.if_icmp .ge 7, 3) := by decide +kernel
theorem dX12_seatOf_49 : decode cX12_seatOf 49 = .ok (.iconst 0, 1) := by decide +kernel
theorem dX12_seatOf_50 : decode cX12_seatOf 50 = .ok (.goto 4, 3) := by decide +kernel
theorem dX12_seatOf_53 : decode cX12_seatOf 53 = .ok (.iconst 2, 1) := by decide +kernel
theorem dX12_seatOf_54 : decode cX12_seatOf 54 = .ok (.aload_n 0, 1) := by decide +kernel
theorem dX12_seatOf_55 : decode cX12_seatOf 55 = .ok (.getfield 43, 3) := by decide +kernel
theorem dX12_seatOf_58 : decode cX12_seatOf 58 = .ok (.iload 4, 2) := by decide +kernel
theorem dX12_seatOf_60 : decode cX12_seatOf 60 = .ok (.iaload, 1) := by decide +kernel
theorem dX12_seatOf_61 : decode cX12_seatOf 61 = .ok (.bipush 10, 2) := by decide +kernel
theorem dX12_seatOf_63 : decode cX12_seatOf 63 = .ok (.irem, 1) := by decide +kernel
theorem dX12_seatOf_64 : decode cX12_seatOf 64 = .ok (.iload_n 2, 1) := by decide +kernel
theorem dX12_seatOf_65 : decode cX12_seatOf 65 = .ok (.if_icmp .ge 7, 3) := by decide +kernel
theorem dX12_seatOf_68 : decode cX12_seatOf 68 = .ok (.iconst 0, 1) := by decide +kernel
theorem dX12_seatOf_69 : decode cX12_seatOf 69 = .ok (.goto 4, 3) := by decide +kernel
theorem dX12_seatOf_72 : decode cX12_seatOf 72 = .ok (.iconst 1, 1) := by decide +kernel
theorem dX12_seatOf_73 : decode cX12_seatOf 73 = .ok (.iadd, 1) := by decide +kernel
theorem dX12_seatOf_74 : decode cX12_seatOf 74 = .ok (.istore 5, 2) := by decide +kernel
theorem dX12_seatOf_76 : decode cX12_seatOf 76 = .ok (.iload 5, 2) := by decide +kernel
theorem dX12_seatOf_78 : decode cX12_seatOf 78 = .ok (.iload_n 1, 1) := by decide +kernel
theorem dX12_seatOf_79 : decode cX12_seatOf 79 = .ok (.if_icmp .ne 35, 3) := by decide +kernel
theorem dX12_seatOf_82 : decode cX12_seatOf 82 = .ok (.aload_n 0, 1) := by decide +kernel
theorem dX12_seatOf_83 : decode cX12_seatOf 83 = .ok (.getfield 52, 3) := by decide +kernel
theorem dX12_seatOf_86 : decode cX12_seatOf 86 = .ok (.iload 4, 2) := by decide +kernel
theorem dX12_seatOf_88 : decode cX12_seatOf 88 = .ok (.iaload, 1) := by decide +kernel
theorem dX12_seatOf_89 : decode cX12_seatOf 89 = .ok (.ifCond .lt 25, 3) := by decide +kernel
theorem dX12_seatOf_92 : decode cX12_seatOf 92 = .ok (.aload_n 0, 1) := by decide +kernel
theorem dX12_seatOf_93 : decode cX12_seatOf 93 = .ok (.getfield 167, 3) := by decide +kernel
theorem dX12_seatOf_96 : decode cX12_seatOf 96 = .ok (.aload_n 0, 1) := by decide +kernel
theorem dX12_seatOf_97 : decode cX12_seatOf 97 = .ok (.getfield 52, 3) := by decide +kernel
theorem dX12_seatOf_100 : decode cX12_seatOf 100 = .ok (.iload 4, 2) := by decide +kernel
theorem dX12_seatOf_102 : decode cX12_seatOf 102 = .ok (.iaload, 1) := by decide +kernel
theorem dX12_seatOf_103 : decode cX12_seatOf 103 = .ok (.dup2, 1) := by decide +kernel
theorem dX12_seatOf_104 : decode cX12_seatOf 104 = .ok (.iaload, 1) := by decide +kernel
theorem dX12_seatOf_105 : decode cX12_seatOf 105 = .ok (.aload_n 0, 1) := by decide +kernel
theorem dX12_seatOf_106 : decode cX12_seatOf 106 = .ok (.getfield 46, 3) := by decide +kernel
theorem dX12_seatOf_109 : decode cX12_seatOf 109 = .ok (.iload 4, 2) := by decide +kernel
theorem dX12_seatOf_111 : decode cX12_seatOf 111 = .ok (.iaload, 1) := by decide +kernel
theorem dX12_seatOf_112 : decode cX12_seatOf 112 = .ok (.iadd, 1) := by decide +kernel
theorem dX12_seatOf_113 : decode cX12_seatOf 113 = .ok (.iastore, 1) := by decide +kernel
theorem dX12_seatOf_114 : decode cX12_seatOf 114 = .ok (.iinc 4 1, 3) := by decide +kernel
theorem dX12_seatOf_117 : decode cX12_seatOf 117 = .ok (.goto (-91), 3) := by decide +kernel
theorem dX12_seatOf_120 : decode cX12_seatOf 120 = .ok (.bipush (-2), 2) := by decide +kernel
theorem dX12_seatOf_122 : decode cX12_seatOf 122 = .ok (.istore 4, 2) := by decide +kernel
theorem dX12_seatOf_124 : decode cX12_seatOf 124 = .ok (.iconst 0, 1) := by decide +kernel
theorem dX12_seatOf_125 : decode cX12_seatOf 125 = .ok (.istore 5, 2) := by decide +kernel
theorem dX12_seatOf_127 : decode cX12_seatOf 127 = .ok (.iconst 0, 1) := by decide +kernel
theorem dX12_seatOf_128 : decode cX12_seatOf 128 = .ok (.istore 6, 2) := by decide +kernel
theorem dX12_seatOf_130 : decode cX12_seatOf 130 = .ok (.iload 6, 2) := by decide +kernel
theorem dX12_seatOf_132 : decode cX12_seatOf 132 = .ok (.iconst 5, 1) := by decide +kernel
theorem dX12_seatOf_133 : decode cX12_seatOf 133 = .ok (.if_icmp .ge 37, 3) := by decide +kernel
theorem dX12_seatOf_136 : decode cX12_seatOf 136 = .ok (.aload_n 0, 1) := by decide +kernel
theorem dX12_seatOf_137 : decode cX12_seatOf 137 = .ok (.getfield 167, 3) := by decide +kernel
theorem dX12_seatOf_140 : decode cX12_seatOf 140 = .ok (.iload 6, 2) := by decide +kernel
theorem dX12_seatOf_142 : decode cX12_seatOf 142 = .ok (.iaload, 1) := by decide +kernel
theorem dX12_seatOf_143 : decode cX12_seatOf 143 = .ok (.iload 5, 2) := by decide +kernel
theorem dX12_seatOf_145 : decode cX12_seatOf 145 = .ok (.if_icmp .gt 6, 3) := by decide +kernel
theorem dX12_seatOf_148 : decode cX12_seatOf 148 = .ok (.goto 16, 3) := by decide +kernel
theorem dX12_seatOf_151 : decode cX12_seatOf 151 = .ok (.iload 6, 2) := by decide +kernel
theorem dX12_seatOf_153 : decode cX12_seatOf 153 = .ok (.istore 4, 2) := by decide +kernel
theorem dX12_seatOf_155 : decode cX12_seatOf 155 = .ok (.aload_n 0, 1) := by decide +kernel
theorem dX12_seatOf_156 : decode cX12_seatOf 156 = .ok (.getfield 167, 3) := by decide +kernel
theorem dX12_seatOf_159 : decode cX12_seatOf 159 = .ok (.iload 6, 2) := by decide +kernel
theorem dX12_seatOf_161 : decode cX12_seatOf 161 = .ok (.iaload, 1) := by decide +kernel
theorem dX12_seatOf_162 : decode cX12_seatOf 162 = .ok (.istore 5, 2) := by decide +kernel
theorem dX12_seatOf_164 : decode cX12_seatOf 164 = .ok (.iinc 6 1, 3) := by decide +kernel
theorem dX12_seatOf_167 : decode cX12_seatOf 167 = .ok (.goto (-37), 3) := by decide +kernel
theorem dX12_seatOf_170 : decode cX12_seatOf 170 = .ok (.iload 4, 2) := by decide +kernel
theorem dX12_seatOf_172 : decode cX12_seatOf 172 = .ok (.ireturn, 1) := by decide +kernel
theorem dX12_seat_0 : decode cX12_seat 0 = .ok (.iload_n 1, 1) := by decide +kernel
theorem dX12_seat_1 : decode cX12_seat 1 = .ok (.i2l, 1) := by decide +kernel
theorem dX12_seat_2 : decode cX12_seat 2 = .ok (.lconst 0, 1) := by decide +kernel
theorem dX12_seat_3 : decode cX12_seat 3 = .ok (.ldc2_w 433, 3) := by decide +kernel
theorem dX12_seat_6 : decode cX12_seat 6 = .ok (.invokestatic 188, 3) := by decide +kernel
theorem dX12_seat_9 : decode cX12_seat 9 = .ok (.ifCond .eq 13, 3) := by decide +kernel
theorem dX12_seat_12 : decode cX12_seat 12 = .ok (.aload_n 0, 1) := by decide +kernel
theorem dX12_seat_13 : decode cX12_seat 13 = .ok (.iload_n 1, 1) := by decide +kernel
theorem dX12_seat_14 : decode cX12_seat 14 = .ok (.iconst 5, 1) := by decide +kernel
theorem dX12_seat_15 : decode cX12_seat 15 = .ok (.iconst 5, 1) := by decide +kernel
theorem dX12_seat_16 : decode cX12_seat 16 = .ok (.invokevirtual 462, 3) := by decide +kernel
theorem dX12_seat_19 : decode cX12_seat 19 = .ok (.goto 4, 3) := by decide +kernel
theorem dX12_seat_22 : decode cX12_seat 22 = .ok (.iconst (-1), 1) := by decide +kernel
theorem dX12_seat_23 : decode cX12_seat 23 = .ok (.ireturn, 1) := by decide +kernel
theorem dX12_cut_0 : decode cX12_cut 0 = .ok (.iload_n 1, 1) := by decide +kernel
theorem dX12_cut_1 : decode cX12_cut 1 = .ok (.invokestatic 209, 3) := by decide +kernel
theorem dX12_cut_4 : decode cX12_cut 4 = .ok (.ifCond .eq 15, 3) := by decide +kernel
theorem dX12_cut_7 : decode cX12_cut 7 = .ok (.iload_n 2, 1) := by decide +kernel
theorem dX12_cut_8 : decode cX12_cut 8 = .ok (.i2l, 1) := by decide +kernel
theorem dX12_cut_9 : decode cX12_cut 9 = .ok (.lconst 0, 1) := by decide +kernel
theorem dX12_cut_10 : decode cX12_cut 10 = .ok (.ldc2_w 465, 3) := by decide +kernel
theorem dX12_cut_13 : decode cX12_cut 13 = .ok (.invokestatic 188, 3) := by decide +kernel
theorem dX12_cut_16 : decode cX12_cut 16 = .ok (.ifCond .ne 5, 3) := by decide +kernel
theorem dX12_cut_19 : decode cX12_cut 19 = .ok (.iconst (-1), 1) := by decide +kernel
theorem dX12_cut_20 : decode cX12_cut 20 = .ok (.ireturn, 1) := by decide +kernel
theorem dX12_cut_21 : decode cX12_cut 21 = .ok (.iconst (-1), 1) := by decide +kernel
theorem dX12_cut_22 : decode cX12_cut 22 = .ok (.istore_n 3, 1) := by decide +kernel
theorem dX12_cut_23 : decode cX12_cut 23 = .ok (.iconst 0, 1) := by decide +kernel
theorem dX12_cut_24 : decode cX12_cut 24 = .ok (.istore 4, 2) := by decide +kernel
theorem dX12_cut_26 : decode cX12_cut 26 = .ok (.iconst 0, 1) := by decide +kernel
theorem dX12_cut_27 : decode cX12_cut 27 = .ok (.istore 5, 2) := by decide +kernel
theorem dX12_cut_29 : decode cX12_cut 29 = .ok (.iconst 1, 1) := by decide +kernel
theorem dX12_cut_30 : decode cX12_cut 30 = .ok (.istore 6, 2) := by decide +kernel
theorem dX12_cut_32 : decode cX12_cut 32 = .ok (.iload 6, 2) := by decide +kernel
theorem dX12_cut_34 : decode cX12_cut 34 = .ok (.bipush 10, 2) := by decide +kernel
theorem dX12_cut_36 : decode cX12_cut 36 = .ok (.if_icmp .ge 87, 3) := by decide +kernel
theorem dX12_cut_39 : decode cX12_cut 39 = .ok (.iconst 1, 1) := by decide +kernel
theorem dX12_cut_40 : decode cX12_cut 40 = .ok (.istore 7, 2) := by decide +kernel
theorem dX12_cut_42 : decode cX12_cut 42 = .ok (.iload 7, 2) := by decide +kernel
theorem dX12_cut_44 : decode cX12_cut 44 = .ok (.bipush 10, 2) := by decide +kernel
theorem dX12_cut_46 : decode cX12_cut 46 = .ok (.if_icmp .ge 71, 3) := by decide +kernel
theorem dX12_cut_49 : decode cX12_cut 49 = .ok (.iconst 0, 1) := by decide +kernel
theorem dX12_cut_50 : decode cX12_cut 50 = .ok (.istore 8, 2) := by decide +kernel
theorem dX12_cut_52 : decode cX12_cut 52 = .ok (.iconst 0, 1) := by decide +kernel
theorem dX12_cut_53 : decode cX12_cut 53 = .ok (.istore 9, 2) := by decide +kernel
theorem dX12_cut_55 : decode cX12_cut 55 = .ok (.iload 9, 2) := by decide +kernel
theorem dX12_cut_57 : decode cX12_cut 57 = .ok (.iconst 4, 1) := by decide +kernel
theorem dX12_cut_58 : decode cX12_cut 58 = .ok (.if_icmp .ge 33, 3) := by decide +kernel
theorem dX12_cut_61 : decode cX12_cut 61 = .ok (.iload 8, 2) := by decide +kernel
theorem dX12_cut_63 : decode cX12_cut 63 = .ok (.aload_n 0, 1) := by decide +kernel
theorem dX12_cut_64 : decode cX12_cut 64 = .ok (.iload 9, 2) := by decide +kernel
theorem dX12_cut_66 : decode cX12_cut 66 = .ok (.iload 6, 2) := by decide +kernel
theorem dX12_cut_68 : decode cX12_cut 68 = .ok (.iload 7, 2) := by decide +kernel
theorem dX12_cut_70 : decode cX12_cut 70 = .ok (.invokevirtual 462, 3) := by decide +kernel
theorem dX12_cut_73 : decode cX12_cut 73 = .ok (.iload_n 1, 1) := by decide +kernel
theorem dX12_cut_74 : decode cX12_cut 74 = .ok (.if_icmp .ne 7, 3) := by decide +kernel
theorem dX12_cut_77 : decode cX12_cut 77 = .ok (.iconst 1, 1) := by decide +kernel
theorem dX12_cut_78 : decode cX12_cut 78 = .ok (.goto 4, 3) := by decide +kernel
theorem dX12_cut_81 : decode cX12_cut 81 = .ok (.iconst 0, 1) := by decide +kernel
theorem dX12_cut_82 : decode cX12_cut 82 = .ok (.iadd, 1) := by decide +kernel
theorem dX12_cut_83 : decode cX12_cut 83 = .ok (.istore 8, 2) := by decide +kernel
theorem dX12_cut_85 : decode cX12_cut 85 = .ok (.iinc 9 1, 3) := by decide +kernel
theorem dX12_cut_88 : decode cX12_cut 88 = .ok (.goto (-33), 3) := by decide +kernel
theorem dX12_cut_91 : decode cX12_cut 91 = .ok (.iload 8, 2) := by decide +kernel
theorem dX12_cut_93 : decode cX12_cut 93 = .ok (.iload_n 3, 1) := by decide +kernel
theorem dX12_cut_94 : decode cX12_cut 94 = .ok (.if_icmp .gt 6, 3) := by decide +kernel
theorem dX12_cut_97 : decode cX12_cut 97 = .ok (.goto 14, 3) := by decide +kernel
theorem dX12_cut_100 : decode cX12_cut 100 = .ok (.iload 8, 2) := by decide +kernel
theorem dX12_cut_102 : decode cX12_cut 102 = .ok (.istore_n 3, 1) := by decide +kernel
theorem dX12_cut_103 : decode cX12_cut 103 = .ok (.iload 6, 2) := by decide +kernel
theorem dX12_cut_105 : decode cX12_cut 105 = .ok (.istore 4, 2) := by decide +kernel
theorem dX12_cut_107 : decode cX12_cut 107 = .ok (.iload 7, 2) := by decide +kernel
theorem dX12_cut_109 : decode cX12_cut 109 = .ok (.istore 5, 2) := by decide +kernel
theorem dX12_cut_111 : decode cX12_cut 111 = .ok (.iinc 7 1, 3) := by decide +kernel
theorem dX12_cut_114 : decode cX12_cut 114 = .ok (.goto (-72), 3) := by decide +kernel
theorem dX12_cut_117 : decode cX12_cut 117 = .ok (.iinc 6 1, 3) := by decide +kernel
theorem dX12_cut_120 : decode cX12_cut 120 = .ok (.goto (-88), 3) := by decide +kernel
theorem dX12_cut_123 : decode cX12_cut 123 = .ok (.iload_n 2, 1) := by decide +kernel
theorem dX12_cut_124 : decode cX12_cut 124 = .ok (.ifCond .ne 7, 3) := by decide +kernel
theorem dX12_cut_127 : decode cX12_cut 127 = .ok (.iload_n 3, 1) := by decide +kernel
theorem dX12_cut_128 : decode cX12_cut 128 = .ok (.goto 15, 3) := by decide +kernel
theorem dX12_cut_131 : decode cX12_cut 131 = .ok (.iload_n 2, 1) := by decide +kernel
theorem dX12_cut_132 : decode cX12_cut 132 = .ok (.iconst 1, 1) := by decide +kernel
theorem dX12_cut_133 : decode cX12_cut 133 = .ok (.if_icmp .ne 8, 3) := by decide +kernel
theorem dX12_cut_136 : decode cX12_cut 136 = .ok (.iload 4, 2) := by decide +kernel
theorem dX12_cut_138 : decode cX12_cut 138 = .ok (.goto 5, 3) := by decide +kernel
theorem dX12_cut_141 : decode cX12_cut 141 = .ok (.iload 5, 2) := by decide +kernel
theorem dX12_cut_143 : decode cX12_cut 143 = .ok (.ireturn, 1) := by decide +kernel
theorem dX12_foreseen_0 : decode cX12_foreseen 0 = .ok (.aload_n 0, 1) := by decide +kernel
theorem dX12_foreseen_1 : decode cX12_foreseen 1 = .ok (.iload_n 1, 1) := by decide +kernel
theorem dX12_foreseen_2 : decode cX12_foreseen 2 = .ok (.invokevirtual 217, 3) := by decide +kernel
theorem dX12_foreseen_5 : decode cX12_foreseen 5 = .ok (.ifCond .ne 5, 3) := by decide +kernel
theorem dX12_foreseen_8 : decode cX12_foreseen 8 = .ok (.iconst (-1), 1) := by decide +kernel
theorem dX12_foreseen_9 : decode cX12_foreseen 9 = .ok (.ireturn, 1) := by decide +kernel
theorem dX12_foreseen_10 : decode cX12_foreseen 10 = .ok (.bipush (-2), 2) := by decide +kernel
theorem dX12_foreseen_12 : decode cX12_foreseen 12 = .ok (.istore_n 2, 1) := by decide +kernel
theorem dX12_foreseen_13 : decode cX12_foreseen 13 = .ok (.ldc_w 467, 3) := by decide +kernel
theorem dX12_foreseen_16 : decode cX12_foreseen 16 = .ok (.istore_n 3, 1) := by decide +kernel
theorem dX12_foreseen_17 : decode cX12_foreseen 17 = .ok (.iconst 0, 1) := by decide +kernel
theorem dX12_foreseen_18 : decode cX12_foreseen 18 = .ok (.istore 4, 2) := by decide +kernel
theorem dX12_foreseen_20 : decode cX12_foreseen 20 = .ok (.iload 4, 2) := by decide +kernel
theorem dX12_foreseen_22 : decode cX12_foreseen 22 = .ok (.aload_n 0, 1) := by decide +kernel
theorem dX12_foreseen_23 : decode cX12_foreseen 23 = .ok (.getfield 199, 3) := by decide +kernel
theorem dX12_foreseen_26 : decode cX12_foreseen 26 = .ok (.if_icmp .ge 98, 3) := by decide +kernel
theorem dX12_foreseen_29 : decode cX12_foreseen 29 = .ok (.iload 4, 2) := by decide +kernel
theorem dX12_foreseen_31 : decode cX12_foreseen 31 = .ok (.iload_n 1, 1) := by decide +kernel
theorem dX12_foreseen_32 : decode cX12_foreseen 32 = .ok (.if_icmp .eq 86, 3) := by decide +kernel
theorem dX12_foreseen_35 : decode cX12_foreseen 35 = .ok (.aload_n 0, 1) := by decide +kernel
theorem dX12_foreseen_36 : decode cX12_foreseen 36 = .ok (.getfield 52, 3) := by decide +kernel
theorem dX12_foreseen_39 : decode cX12_foreseen 39 = .ok (.iload 4, 2) := by decide +kernel
theorem dX12_foreseen_41 : decode cX12_foreseen 41 = .ok (.iaload, 1) := by decide +kernel
theorem dX12_foreseen_42 : decode cX12_foreseen 42 = .ok (.ifCond .ge 6, 3) := by decide +kernel
theorem dX12_foreseen_45 : decode cX12_foreseen 45 = .ok (.goto 73, 3) := by decide +kernel
theorem dX12_foreseen_48 : decode cX12_foreseen 48 = .ok (.iconst 0, 1) := by decide +kernel
theorem dX12_foreseen_49 : decode cX12_foreseen 49 = .ok (.istore 5, 2) := by decide +kernel
theorem dX12_foreseen_51 : decode cX12_foreseen 51 = .ok (.iconst 0, 1) := by decide +kernel
theorem dX12_foreseen_52 : decode cX12_foreseen 52 = .ok (.istore 6, 2) := by decide +kernel
theorem dX12_foreseen_54 : decode cX12_foreseen 54 = .ok (.iload 6, 2) := by decide +kernel
theorem dX12_foreseen_56 : decode cX12_foreseen 56 = .ok (.iconst 5, 1) := by decide +kernel
theorem dX12_foreseen_57 : decode cX12_foreseen 57 = .ok (.if_icmp .ge 41, 3) := by decide +kernel
theorem dX12_foreseen_60 : decode cX12_foreseen 60 = .ok (.iload 5, 2) := by decide +kernel
theorem dX12_foreseen_62 : decode cX12_foreseen 62 = .ok (.aload_n 0, 1) := by decide +kernel
theorem dX12_foreseen_63 : decode cX12_foreseen 63 = .ok (.getfield 55, 3) := by decide +kernel
theorem dX12_foreseen_66 : decode cX12_foreseen 66 = .ok (.iconst 5, 1) := by decide +kernel
theorem dX12_foreseen_67 : decode cX12_foreseen 67 = .ok (.iload_n 1, 1) := by decide +kernel
theorem dX12_foreseen_68 : decode cX12_foreseen 68 = .ok (.imul, 1) := by decide +kernel
theorem dX12_foreseen_69 : decode cX12_foreseen 69 = .ok (.iload 6, 2) := by decide +kernel
theorem dX12_foreseen_71 : decode cX12_foreseen 71 = .ok (.iadd, 1) := by decide +kernel
theorem dX12_foreseen_72 : decode cX12_foreseen 72 = .ok (.iaload, 1) := by decide +kernel
theorem dX12_foreseen_73 : decode cX12_foreseen 73 = .ok (.aload_n 0, 1) := by decide +kernel
theorem dX12_foreseen_74 : decode cX12_foreseen 74 = .ok (.getfield 55, 3) := by decide +kernel
theorem dX12_foreseen_77 : decode cX12_foreseen 77 = .ok (.iconst 5, 1) := by decide +kernel
theorem dX12_foreseen_78 : decode cX12_foreseen 78 = .ok (.iload 4, 2) := by decide +kernel
theorem dX12_foreseen_80 : decode cX12_foreseen 80 = .ok (.imul, 1) := by decide +kernel
theorem dX12_foreseen_81 : decode cX12_foreseen 81 = .ok (.iload 6, 2) := by decide +kernel
theorem dX12_foreseen_83 : decode cX12_foreseen 83 = .ok (.iadd, 1) := by decide +kernel
