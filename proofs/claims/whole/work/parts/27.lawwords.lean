theorem wd973 : Cond.codeWith yL_addPoint cL_addPoint 5 (some .int) [(0, 10, 13, 13), (0, 10, 17, 15)] ∈ gW := gW_in 973 (by decide +kernel) (by decide +kernel)
theorem wd77 : Cond.initialized RL ∈ gW := gW_in 77 (by decide +kernel) (by decide +kernel)
theorem mvwL_addPoint : MVW yL_addPoint cL_addPoint 5 (some .int) [(0, 10, 13, 13), (0, 10, 17, 15)] 4 := ⟨wd973, wd77, by decide +kernel, by decide +kernel, by decide +kernel, by decide⟩
theorem wd972 : Cond.static yL_addPoint ∈ gW := gW_in 972 (by decide +kernel) (by decide +kernel)
theorem wd971 : Cond.methodLink RL 169 yL_addPoint ∈ gW := gW_in 971 (by decide +kernel) (by decide +kernel)
theorem wd1771 : Cond.code yX10_addPoint cX10_addPoint 3 (some .int) ∈ gW := gW_in 1771 (by decide +kernel) (by decide +kernel)
theorem mvX10_addPoint : MV yX10_addPoint cX10_addPoint 3 (some .int) 2 := ⟨wd1771, wd92, by decide +kernel, by decide +kernel, by decide +kernel, by decide⟩
theorem wd1769 : Cond.instanceMethod yX10_addPoint ∈ gW := gW_in 1769 (by decide +kernel) (by decide +kernel)
theorem wd1770 : Cond.selects yX10_addPoint.cls yX10_addPoint yX10_addPoint ∈ gW := gW_in 1770 (by decide +kernel) (by decide +kernel)
theorem wd1768 : Cond.methodLink RL 174 yX10_addPoint ∈ gW := gW_in 1768 (by decide +kernel) (by decide +kernel)
theorem wd1767 : Cond.code yX10_thrown cX10_thrown 1 (some .int) ∈ gW := gW_in 1767 (by decide +kernel) (by decide +kernel)
theorem mvX10_thrown : MV yX10_thrown cX10_thrown 1 (some .int) 0 := ⟨wd1767, wd92, by decide +kernel, by decide +kernel, by decide +kernel, by decide⟩
theorem wd1765 : Cond.instanceMethod yX10_thrown ∈ gW := gW_in 1765 (by decide +kernel) (by decide +kernel)
theorem wd1766 : Cond.selects yX10_thrown.cls yX10_thrown yX10_thrown ∈ gW := gW_in 1766 (by decide +kernel) (by decide +kernel)
theorem wd1764 : Cond.methodLink RL 175 yX10_thrown ∈ gW := gW_in 1764 (by decide +kernel) (by decide +kernel)
theorem dL_law_276 : decode cL_law 276 = .ok (.aload_n 1, 1) := by decide +kernel
theorem dL_law_277 : decode cL_law 277 = .ok (.aload_n 0, 1) := by decide +kernel
theorem dL_law_278 : decode cL_law 278 = .ok (.iload 5, 2) := by decide +kernel
theorem dL_law_280 : decode cL_law 280 = .ok (.iconst 1, 1) := by decide +kernel
theorem dL_law_281 : decode cL_law 281 = .ok (.iadd, 1) := by decide +kernel
theorem dL_law_282 : decode cL_law 282 = .ok (.iaload, 1) := by decide +kernel
theorem dL_law_283 : decode cL_law 283 = .ok (.aload_n 0, 1) := by decide +kernel
theorem dL_law_284 : decode cL_law 284 = .ok (.iload 5, 2) := by decide +kernel
theorem dL_law_286 : decode cL_law 286 = .ok (.iconst 2, 1) := by decide +kernel
theorem dL_law_287 : decode cL_law 287 = .ok (.iadd, 1) := by decide +kernel
theorem dL_law_288 : decode cL_law 288 = .ok (.iaload, 1) := by decide +kernel
theorem dL_law_289 : decode cL_law 289 = .ok (.aload_n 3, 1) := by decide +kernel
theorem dL_law_290 : decode cL_law 290 = .ok (.invokestatic 169, 3) := by decide +kernel
theorem dL_law_293 : decode cL_law 293 = .ok (.istore 6, 2) := by decide +kernel
theorem dL_law_295 : decode cL_law 295 = .ok (.aload_n 2, 1) := by decide +kernel
theorem dL_law_296 : decode cL_law 296 = .ok (.aload_n 0, 1) := by decide +kernel
theorem dL_law_297 : decode cL_law 297 = .ok (.iload 5, 2) := by decide +kernel
theorem dL_law_299 : decode cL_law 299 = .ok (.iconst 1, 1) := by decide +kernel
theorem dL_law_300 : decode cL_law 300 = .ok (.iadd, 1) := by decide +kernel
theorem dL_law_301 : decode cL_law 301 = .ok (.iaload, 1) := by decide +kernel
theorem dL_law_302 : decode cL_law 302 = .ok (.aload_n 0, 1) := by decide +kernel
theorem dL_law_303 : decode cL_law 303 = .ok (.iload 5, 2) := by decide +kernel
theorem dL_law_305 : decode cL_law 305 = .ok (.iconst 2, 1) := by decide +kernel
theorem dL_law_306 : decode cL_law 306 = .ok (.iadd, 1) := by decide +kernel
theorem dL_law_307 : decode cL_law 307 = .ok (.iaload, 1) := by decide +kernel
theorem dL_law_308 : decode cL_law 308 = .ok (.invokevirtual 174, 3) := by decide +kernel
theorem dL_law_311 : decode cL_law 311 = .ok (.istore 7, 2) := by decide +kernel
theorem dL_law_313 : decode cL_law 313 = .ok (.aload_n 2, 1) := by decide +kernel
theorem dL_law_314 : decode cL_law 314 = .ok (.invokevirtual 175, 3) := by decide +kernel
theorem dL_law_317 : decode cL_law 317 = .ok (.iload 6, 2) := by decide +kernel
theorem dL_law_319 : decode cL_law 319 = .ok (.if_icmp .eq 5, 3) := by decide +kernel
theorem dL_law_324 : decode cL_law 324 = .ok (.iload 6, 2) := by decide +kernel
theorem dL_law_326 : decode cL_law 326 = .ok (.ifCond .ne 15, 3) := by decide +kernel
theorem dL_law_329 : decode cL_law 329 = .ok (.aload_n 3, 1) := by decide +kernel
theorem dL_law_330 : decode cL_law 330 = .ok (.iconst 0, 1) := by decide +kernel
theorem dL_law_331 : decode cL_law 331 = .ok (.laload, 1) := by decide +kernel
theorem dL_law_332 : decode cL_law 332 = .ok (.iload 7, 2) := by decide +kernel
theorem dL_law_334 : decode cL_law 334 = .ok (.i2l, 1) := by decide +kernel
theorem dL_law_335 : decode cL_law 335 = .ok (.lcmp, 1) := by decide +kernel
theorem dL_law_336 : decode cL_law 336 = .ok (.ifCond .eq 5, 3) := by decide +kernel
theorem dL_law_341 : decode cL_law 341 = .ok (.goto 2641, 3) := by decide +kernel
theorem dL_law_2982 : decode cL_law 2982 = .ok (.iinc 5 5, 3) := by decide +kernel
theorem dL_law_2985 : decode cL_law 2985 = .ok (.goto (-2957), 3) := by decide +kernel
theorem wd1065 : Cond.codeWith yL_addTaskPoint cL_addTaskPoint 4 (some .int) [(0, 9, 12, 21), (0, 9, 15, 15), (0, 9, 18, 23)] ∈ gW := gW_in 1065 (by decide +kernel) (by decide +kernel)
theorem mvwL_addTaskPoint : MVW yL_addTaskPoint cL_addTaskPoint 4 (some .int) [(0, 9, 12, 21), (0, 9, 15, 15), (0, 9, 18, 23)] 3 := ⟨wd1065, wd77, by decide +kernel, by decide +kernel, by decide +kernel, by decide⟩
theorem wd1064 : Cond.static yL_addTaskPoint ∈ gW := gW_in 1064 (by decide +kernel) (by decide +kernel)
theorem wd1063 : Cond.methodLink RL 178 yL_addTaskPoint ∈ gW := gW_in 1063 (by decide +kernel) (by decide +kernel)
theorem wd1800 : Cond.code yX10_addTaskPoint cX10_addTaskPoint 2 (some .int) ∈ gW := gW_in 1800 (by decide +kernel) (by decide +kernel)
theorem mvX10_addTaskPoint : MV yX10_addTaskPoint cX10_addTaskPoint 2 (some .int) 1 := ⟨wd1800, wd92, by decide +kernel, by decide +kernel, by decide +kernel, by decide⟩
theorem wd1798 : Cond.instanceMethod yX10_addTaskPoint ∈ gW := gW_in 1798 (by decide +kernel) (by decide +kernel)
theorem wd1799 : Cond.selects yX10_addTaskPoint.cls yX10_addTaskPoint yX10_addTaskPoint ∈ gW := gW_in 1799 (by decide +kernel) (by decide +kernel)
theorem wd1797 : Cond.methodLink RL 181 yX10_addTaskPoint ∈ gW := gW_in 1797 (by decide +kernel) (by decide +kernel)
theorem dL_law_344 : decode cL_law 344 = .ok (.aload_n 1, 1) := by decide +kernel
theorem dL_law_345 : decode cL_law 345 = .ok (.aload_n 0, 1) := by decide +kernel
theorem dL_law_346 : decode cL_law 346 = .ok (.iload 5, 2) := by decide +kernel
theorem dL_law_348 : decode cL_law 348 = .ok (.iconst 1, 1) := by decide +kernel
theorem dL_law_349 : decode cL_law 349 = .ok (.iadd, 1) := by decide +kernel
theorem dL_law_350 : decode cL_law 350 = .ok (.iaload, 1) := by decide +kernel
theorem dL_law_351 : decode cL_law 351 = .ok (.aload_n 3, 1) := by decide +kernel
theorem dL_law_352 : decode cL_law 352 = .ok (.invokestatic 178, 3) := by decide +kernel
theorem dL_law_355 : decode cL_law 355 = .ok (.istore 6, 2) := by decide +kernel
theorem dL_law_357 : decode cL_law 357 = .ok (.aload_n 2, 1) := by decide +kernel
theorem dL_law_358 : decode cL_law 358 = .ok (.aload_n 0, 1) := by decide +kernel
theorem dL_law_359 : decode cL_law 359 = .ok (.iload 5, 2) := by decide +kernel
theorem dL_law_361 : decode cL_law 361 = .ok (.iconst 1, 1) := by decide +kernel
theorem dL_law_362 : decode cL_law 362 = .ok (.iadd, 1) := by decide +kernel
theorem dL_law_363 : decode cL_law 363 = .ok (.iaload, 1) := by decide +kernel
theorem dL_law_364 : decode cL_law 364 = .ok (.invokevirtual 181, 3) := by decide +kernel
theorem dL_law_367 : decode cL_law 367 = .ok (.istore 7, 2) := by decide +kernel
theorem dL_law_369 : decode cL_law 369 = .ok (.aload_n 2, 1) := by decide +kernel
theorem dL_law_370 : decode cL_law 370 = .ok (.invokevirtual 175, 3) := by decide +kernel
theorem dL_law_373 : decode cL_law 373 = .ok (.iload 6, 2) := by decide +kernel
theorem dL_law_375 : decode cL_law 375 = .ok (.if_icmp .eq 5, 3) := by decide +kernel
theorem dL_law_380 : decode cL_law 380 = .ok (.iload 6, 2) := by decide +kernel
theorem dL_law_382 : decode cL_law 382 = .ok (.ifCond .ne 15, 3) := by decide +kernel
theorem dL_law_385 : decode cL_law 385 = .ok (.aload_n 3, 1) := by decide +kernel
theorem dL_law_386 : decode cL_law 386 = .ok (.iconst 0, 1) := by decide +kernel
theorem dL_law_387 : decode cL_law 387 = .ok (.laload, 1) := by decide +kernel
theorem dL_law_388 : decode cL_law 388 = .ok (.iload 7, 2) := by decide +kernel
theorem dL_law_390 : decode cL_law 390 = .ok (.i2l, 1) := by decide +kernel
theorem dL_law_391 : decode cL_law 391 = .ok (.lcmp, 1) := by decide +kernel
theorem dL_law_392 : decode cL_law 392 = .ok (.ifCond .eq 5, 3) := by decide +kernel
theorem dL_law_397 : decode cL_law 397 = .ok (.goto 2585, 3) := by decide +kernel
theorem wd1096 : Cond.codeWith yL_clearTask cL_clearTask 3 (some .int) [(0, 8, 11, 15)] ∈ gW := gW_in 1096 (by decide +kernel) (by decide +kernel)
theorem mvwL_clearTask : MVW yL_clearTask cL_clearTask 3 (some .int) [(0, 8, 11, 15)] 2 := ⟨wd1096, wd77, by decide +kernel, by decide +kernel, by decide +kernel, by decide⟩
theorem wd1095 : Cond.static yL_clearTask ∈ gW := gW_in 1095 (by decide +kernel) (by decide +kernel)
theorem wd1094 : Cond.methodLink RL 182 yL_clearTask ∈ gW := gW_in 1094 (by decide +kernel) (by decide +kernel)
theorem wd1839 : Cond.code yX10_clearTask cX10_clearTask 1 (some .int) ∈ gW := gW_in 1839 (by decide +kernel) (by decide +kernel)
theorem mvX10_clearTask : MV yX10_clearTask cX10_clearTask 1 (some .int) 0 := ⟨wd1839, wd92, by decide +kernel, by decide +kernel, by decide +kernel, by decide⟩
theorem wd1837 : Cond.instanceMethod yX10_clearTask ∈ gW := gW_in 1837 (by decide +kernel) (by decide +kernel)
theorem wd1838 : Cond.selects yX10_clearTask.cls yX10_clearTask yX10_clearTask ∈ gW := gW_in 1838 (by decide +kernel) (by decide +kernel)
theorem wd1836 : Cond.methodLink RL 185 yX10_clearTask ∈ gW := gW_in 1836 (by decide +kernel) (by decide +kernel)
theorem dL_law_400 : decode cL_law 400 = .ok (.aload_n 1, 1) := by decide +kernel
theorem dL_law_401 : decode cL_law 401 = .ok (.aload_n 3, 1) := by decide +kernel
theorem dL_law_402 : decode cL_law 402 = .ok (.invokestatic 182, 3) := by decide +kernel
theorem dL_law_405 : decode cL_law 405 = .ok (.istore 6, 2) := by decide +kernel
theorem dL_law_407 : decode cL_law 407 = .ok (.aload_n 2, 1) := by decide +kernel
theorem dL_law_408 : decode cL_law 408 = .ok (.invokevirtual 185, 3) := by decide +kernel
theorem dL_law_411 : decode cL_law 411 = .ok (.istore 7, 2) := by decide +kernel
theorem dL_law_413 : decode cL_law 413 = .ok (.aload_n 2, 1) := by decide +kernel
theorem dL_law_414 : decode cL_law 414 = .ok (.invokevirtual 175, 3) := by decide +kernel
theorem dL_law_417 : decode cL_law 417 = .ok (.iload 6, 2) := by decide +kernel
theorem dL_law_419 : decode cL_law 419 = .ok (.if_icmp .eq 5, 3) := by decide +kernel
theorem dL_law_424 : decode cL_law 424 = .ok (.iload 6, 2) := by decide +kernel
theorem dL_law_426 : decode cL_law 426 = .ok (.ifCond .ne 15, 3) := by decide +kernel
theorem dL_law_429 : decode cL_law 429 = .ok (.aload_n 3, 1) := by decide +kernel
theorem dL_law_430 : decode cL_law 430 = .ok (.iconst 0, 1) := by decide +kernel
theorem dL_law_431 : decode cL_law 431 = .ok (.laload, 1) := by decide +kernel
theorem dL_law_432 : decode cL_law 432 = .ok (.iload 7, 2) := by decide +kernel
theorem dL_law_434 : decode cL_law 434 = .ok (.i2l, 1) := by decide +kernel
theorem dL_law_435 : decode cL_law 435 = .ok (.lcmp, 1) := by decide +kernel
theorem dL_law_436 : decode cL_law 436 = .ok (.ifCond .eq 5, 3) := by decide +kernel
theorem dL_law_441 : decode cL_law 441 = .ok (.goto 2541, 3) := by decide +kernel
theorem wd1108 : Cond.codeWith yL_addThermal cL_addThermal 6 (some .int) [(0, 12, 15, 13), (0, 12, 19, 15)] ∈ gW := gW_in 1108 (by decide +kernel) (by decide +kernel)
theorem mvwL_addThermal : MVW yL_addThermal cL_addThermal 6 (some .int) [(0, 12, 15, 13), (0, 12, 19, 15)] 5 := ⟨wd1108, wd77, by decide +kernel, by decide +kernel, by decide +kernel, by decide⟩
theorem wd1107 : Cond.static yL_addThermal ∈ gW := gW_in 1107 (by decide +kernel) (by decide +kernel)
theorem wd1106 : Cond.methodLink RL 186 yL_addThermal ∈ gW := gW_in 1106 (by decide +kernel) (by decide +kernel)
theorem wd1847 : Cond.code yX10_addThermal cX10_addThermal 4 (some .int) ∈ gW := gW_in 1847 (by decide +kernel) (by decide +kernel)
theorem mvX10_addThermal : MV yX10_addThermal cX10_addThermal 4 (some .int) 3 := ⟨wd1847, wd92, by decide +kernel, by decide +kernel, by decide +kernel, by decide⟩
theorem wd1845 : Cond.instanceMethod yX10_addThermal ∈ gW := gW_in 1845 (by decide +kernel) (by decide +kernel)
theorem wd1846 : Cond.selects yX10_addThermal.cls yX10_addThermal yX10_addThermal ∈ gW := gW_in 1846 (by decide +kernel) (by decide +kernel)
theorem wd1844 : Cond.methodLink RL 189 yX10_addThermal ∈ gW := gW_in 1844 (by decide +kernel) (by decide +kernel)
theorem dL_law_444 : decode cL_law 444 = .ok (.aload_n 1, 1) := by decide +kernel
theorem dL_law_445 : decode cL_law 445 = .ok (.aload_n 0, 1) := by decide +kernel
theorem dL_law_446 : decode cL_law 446 = .ok (.iload 5, 2) := by decide +kernel
theorem dL_law_448 : decode cL_law 448 = .ok (.iconst 1, 1) := by decide +kernel
theorem dL_law_449 : decode cL_law 449 = .ok (.iadd, 1) := by decide +kernel
theorem dL_law_450 : decode cL_law 450 = .ok (.iaload, 1) := by decide +kernel
theorem dL_law_451 : decode cL_law 451 = .ok (.aload_n 0, 1) := by decide +kernel
theorem dL_law_452 : decode cL_law 452 = .ok (.iload 5, 2) := by decide +kernel
theorem dL_law_454 : decode cL_law 454 = .ok (.iconst 2, 1) := by decide +kernel
theorem dL_law_455 : decode cL_law 455 = .ok (.iadd, 1) := by decide +kernel
theorem dL_law_456 : decode cL_law 456 = .ok (.iaload, 1) := by decide +kernel
theorem dL_law_457 : decode cL_law 457 = .ok (.aload_n 0, 1) := by decide +kernel
theorem dL_law_458 : decode cL_law 458 = .ok (.iload 5, 2) := by decide +kernel
theorem dL_law_460 : decode cL_law 460 = .ok (.iconst 3, 1) := by decide +kernel
theorem dL_law_461 : decode cL_law 461 = .ok (.iadd, 1) := by decide +kernel
theorem dL_law_462 : decode cL_law 462 = .ok (.iaload, 1) := by decide +kernel
theorem dL_law_463 : decode cL_law 463 = .ok (.aload_n 3, 1) := by decide +kernel
theorem dL_law_464 : decode cL_law 464 = .ok (.invokestatic 186, 3) := by decide +kernel
theorem dL_law_467 : decode cL_law 467 = .ok (.istore 6, 2) := by decide +kernel
theorem dL_law_469 : decode cL_law 469 = .ok (.aload_n 2, 1) := by decide +kernel
theorem dL_law_470 : decode cL_law 470 = .ok (.aload_n 0, 1) := by decide +kernel
theorem dL_law_471 : decode cL_law 471 = .ok (.iload 5, 2) := by decide +kernel
theorem dL_law_473 : decode cL_law 473 = .ok (.iconst 1, 1) := by decide +kernel
theorem dL_law_474 : decode cL_law 474 = .ok (.iadd, 1) := by decide +kernel
theorem dL_law_475 : decode cL_law 475 = .ok (.iaload, 1) := by decide +kernel
theorem dL_law_476 : decode cL_law 476 = .ok (.aload_n 0, 1) := by decide +kernel
theorem dL_law_477 : decode cL_law 477 = .ok (.iload 5, 2) := by decide +kernel
theorem dL_law_479 : decode cL_law 479 = .ok (.iconst 2, 1) := by decide +kernel
theorem dL_law_480 : decode cL_law 480 = .ok (.iadd, 1) := by decide +kernel
theorem dL_law_481 : decode cL_law 481 = .ok (.iaload, 1) := by decide +kernel
theorem dL_law_482 : decode cL_law 482 = .ok (.aload_n 0, 1) := by decide +kernel
theorem dL_law_483 : decode cL_law 483 = .ok (.iload 5, 2) := by decide +kernel
theorem dL_law_485 : decode cL_law 485 = .ok (.iconst 3, 1) := by decide +kernel
theorem dL_law_486 : decode cL_law 486 = .ok (.iadd, 1) := by decide +kernel
theorem dL_law_487 : decode cL_law 487 = .ok (.iaload, 1) := by decide +kernel
theorem dL_law_488 : decode cL_law 488 = .ok (.invokevirtual 189, 3) := by decide +kernel
theorem dL_law_491 : decode cL_law 491 = .ok (.istore 7, 2) := by decide +kernel
theorem dL_law_493 : decode cL_law 493 = .ok (.aload_n 2, 1) := by decide +kernel
theorem dL_law_494 : decode cL_law 494 = .ok (.invokevirtual 175, 3) := by decide +kernel
theorem dL_law_497 : decode cL_law 497 = .ok (.iload 6, 2) := by decide +kernel
theorem dL_law_499 : decode cL_law 499 = .ok (.if_icmp .eq 5, 3) := by decide +kernel
theorem dL_law_504 : decode cL_law 504 = .ok (.iload 6, 2) := by decide +kernel
theorem dL_law_506 : decode cL_law 506 = .ok (.ifCond .ne 15, 3) := by decide +kernel
theorem dL_law_509 : decode cL_law 509 = .ok (.aload_n 3, 1) := by decide +kernel
theorem dL_law_510 : decode cL_law 510 = .ok (.iconst 0, 1) := by decide +kernel
theorem dL_law_511 : decode cL_law 511 = .ok (.laload, 1) := by decide +kernel
theorem dL_law_512 : decode cL_law 512 = .ok (.iload 7, 2) := by decide +kernel
theorem dL_law_514 : decode cL_law 514 = .ok (.i2l, 1) := by decide +kernel
theorem dL_law_515 : decode cL_law 515 = .ok (.lcmp, 1) := by decide +kernel
theorem dL_law_516 : decode cL_law 516 = .ok (.ifCond .eq 5, 3) := by decide +kernel
theorem dL_law_521 : decode cL_law 521 = .ok (.goto 2461, 3) := by decide +kernel
theorem wd1123 : Cond.codeWith yL_setCloudBase cL_setCloudBase 4 (some .int) [(0, 9, 12, 13)] ∈ gW := gW_in 1123 (by decide +kernel) (by decide +kernel)
theorem mvwL_setCloudBase : MVW yL_setCloudBase cL_setCloudBase 4 (some .int) [(0, 9, 12, 13)] 3 := ⟨wd1123, wd77, by decide +kernel, by decide +kernel, by decide +kernel, by decide⟩
theorem wd1122 : Cond.static yL_setCloudBase ∈ gW := gW_in 1122 (by decide +kernel) (by decide +kernel)
theorem wd1121 : Cond.methodLink RL 190 yL_setCloudBase ∈ gW := gW_in 1121 (by decide +kernel) (by decide +kernel)
theorem wd1855 : Cond.code yX10_setCloudBase cX10_setCloudBase 2 (some .int) ∈ gW := gW_in 1855 (by decide +kernel) (by decide +kernel)
theorem mvX10_setCloudBase : MV yX10_setCloudBase cX10_setCloudBase 2 (some .int) 1 := ⟨wd1855, wd92, by decide +kernel, by decide +kernel, by decide +kernel, by decide⟩
theorem wd1853 : Cond.instanceMethod yX10_setCloudBase ∈ gW := gW_in 1853 (by decide +kernel) (by decide +kernel)
theorem wd1854 : Cond.selects yX10_setCloudBase.cls yX10_setCloudBase yX10_setCloudBase ∈ gW := gW_in 1854 (by decide +kernel) (by decide +kernel)
theorem wd1852 : Cond.methodLink RL 192 yX10_setCloudBase ∈ gW := gW_in 1852 (by decide +kernel) (by decide +kernel)
theorem dL_law_524 : decode cL_law 524 = .ok (.aload_n 1, 1) := by decide +kernel
theorem dL_law_525 : decode cL_law 525 = .ok (.aload_n 0, 1) := by decide +kernel
theorem dL_law_526 : decode cL_law 526 = .ok (.iload 5, 2) := by decide +kernel
theorem dL_law_528 : decode cL_law 528 = .ok (.iconst 1, 1) := by decide +kernel
theorem dL_law_529 : decode cL_law 529 = .ok (.iadd, 1) := by decide +kernel
theorem dL_law_530 : decode cL_law 530 = .ok (.iaload, 1) := by decide +kernel
theorem dL_law_531 : decode cL_law 531 = .ok (.aload_n 3, 1) := by decide +kernel
theorem dL_law_532 : decode cL_law 532 = .ok (.invokestatic 190, 3) := by decide +kernel
theorem dL_law_535 : decode cL_law 535 = .ok (.istore 6, 2) := by decide +kernel
theorem dL_law_537 : decode cL_law 537 = .ok (.aload_n 2, 1) := by decide +kernel
theorem dL_law_538 : decode cL_law 538 = .ok (.aload_n 0, 1) := by decide +kernel
theorem dL_law_539 : decode cL_law 539 = .ok (.iload 5, 2) := by decide +kernel
theorem dL_law_541 : decode cL_law 541 = .ok (.iconst 1, 1) := by decide +kernel
theorem dL_law_542 : decode cL_law 542 = .ok (.iadd, 1) := by decide +kernel
theorem dL_law_543 : decode cL_law 543 = .ok (.iaload, 1) := by decide +kernel
theorem dL_law_544 : decode cL_law 544 = .ok (.invokevirtual 192, 3) := by decide +kernel
theorem dL_law_547 : decode cL_law 547 = .ok (.istore 7, 2) := by decide +kernel
theorem dL_law_549 : decode cL_law 549 = .ok (.aload_n 2, 1) := by decide +kernel
theorem dL_law_550 : decode cL_law 550 = .ok (.invokevirtual 175, 3) := by decide +kernel
theorem dL_law_553 : decode cL_law 553 = .ok (.iload 6, 2) := by decide +kernel
theorem dL_law_555 : decode cL_law 555 = .ok (.if_icmp .eq 5, 3) := by decide +kernel
theorem dL_law_560 : decode cL_law 560 = .ok (.iload 6, 2) := by decide +kernel
theorem dL_law_562 : decode cL_law 562 = .ok (.ifCond .ne 15, 3) := by decide +kernel
theorem dL_law_565 : decode cL_law 565 = .ok (.aload_n 3, 1) := by decide +kernel
theorem dL_law_566 : decode cL_law 566 = .ok (.iconst 0, 1) := by decide +kernel
theorem dL_law_567 : decode cL_law 567 = .ok (.laload, 1) := by decide +kernel
theorem dL_law_568 : decode cL_law 568 = .ok (.iload 7, 2) := by decide +kernel
theorem dL_law_570 : decode cL_law 570 = .ok (.i2l, 1) := by decide +kernel
theorem dL_law_571 : decode cL_law 571 = .ok (.lcmp, 1) := by decide +kernel
theorem dL_law_572 : decode cL_law 572 = .ok (.ifCond .eq 5, 3) := by decide +kernel
theorem dL_law_577 : decode cL_law 577 = .ok (.goto 2405, 3) := by decide +kernel
theorem wd1131 : Cond.codeWith yL_addArea cL_addArea 7 (some .int) [(0, 14, 17, 13), (0, 14, 21, 15)] ∈ gW := gW_in 1131 (by decide +kernel) (by decide +kernel)
theorem mvwL_addArea : MVW yL_addArea cL_addArea 7 (some .int) [(0, 14, 17, 13), (0, 14, 21, 15)] 6 := ⟨wd1131, wd77, by decide +kernel, by decide +kernel, by decide +kernel, by decide⟩
theorem wd1130 : Cond.static yL_addArea ∈ gW := gW_in 1130 (by decide +kernel) (by decide +kernel)
theorem wd1129 : Cond.methodLink RL 193 yL_addArea ∈ gW := gW_in 1129 (by decide +kernel) (by decide +kernel)
theorem wd1863 : Cond.code yX10_addArea cX10_addArea 5 (some .int) ∈ gW := gW_in 1863 (by decide +kernel) (by decide +kernel)
theorem mvX10_addArea : MV yX10_addArea cX10_addArea 5 (some .int) 4 := ⟨wd1863, wd92, by decide +kernel, by decide +kernel, by decide +kernel, by decide⟩
theorem wd1861 : Cond.instanceMethod yX10_addArea ∈ gW := gW_in 1861 (by decide +kernel) (by decide +kernel)
theorem wd1862 : Cond.selects yX10_addArea.cls yX10_addArea yX10_addArea ∈ gW := gW_in 1862 (by decide +kernel) (by decide +kernel)
theorem wd1860 : Cond.methodLink RL 196 yX10_addArea ∈ gW := gW_in 1860 (by decide +kernel) (by decide +kernel)
theorem dL_law_580 : decode cL_law 580 = .ok (.aload_n 1, 1) := by decide +kernel
theorem dL_law_581 : decode cL_law 581 = .ok (.aload_n 0, 1) := by decide +kernel
theorem dL_law_582 : decode cL_law 582 = .ok (.iload 5, 2) := by decide +kernel
theorem dL_law_584 : decode cL_law 584 = .ok (.iconst 1, 1) := by decide +kernel
theorem dL_law_585 : decode cL_law 585 = .ok (.iadd, 1) := by decide +kernel
theorem dL_law_586 : decode cL_law 586 = .ok (.iaload, 1) := by decide +kernel
theorem dL_law_587 : decode cL_law 587 = .ok (.aload_n 0, 1) := by decide +kernel
theorem dL_law_588 : decode cL_law 588 = .ok (.iload 5, 2) := by decide +kernel
theorem dL_law_590 : decode cL_law 590 = .ok (.iconst 2, 1) := by decide +kernel
theorem dL_law_591 : decode cL_law 591 = .ok (.iadd, 1) := by decide +kernel
theorem dL_law_592 : decode cL_law 592 = .ok (.iaload, 1) := by decide +kernel
theorem dL_law_593 : decode cL_law 593 = .ok (.aload_n 0, 1) := by decide +kernel
theorem dL_law_594 : decode cL_law 594 = .ok (.iload 5, 2) := by decide +kernel
theorem dL_law_596 : decode cL_law 596 = .ok (.iconst 3, 1) := by decide +kernel
theorem dL_law_597 : decode cL_law 597 = .ok (.iadd, 1) := by decide +kernel
theorem dL_law_598 : decode cL_law 598 = .ok (.iaload, 1) := by decide +kernel
theorem dL_law_599 : decode cL_law 599 = .ok (.aload_n 0, 1) := by decide +kernel
theorem dL_law_600 : decode cL_law 600 = .ok (.iload 5, 2) := by decide +kernel
theorem dL_law_602 : decode cL_law 602 = .ok (.iconst 4, 1) := by decide +kernel
theorem dL_law_603 : decode cL_law 603 = .ok (.iadd, 1) := by decide +kernel
theorem dL_law_604 : decode cL_law 604 = .ok (.iaload, 1) := by decide +kernel
theorem dL_law_605 : decode cL_law 605 = .ok (.aload_n 3, 1) := by decide +kernel
theorem dL_law_606 : decode cL_law 606 = .ok (.invokestatic 193, 3) := by decide +kernel
theorem dL_law_609 : decode cL_law 609 = .ok (.istore 6, 2) := by decide +kernel
theorem dL_law_611 : decode cL_law 611 = .ok (.aload_n 2, 1) := by decide +kernel
theorem dL_law_612 : decode cL_law 612 = .ok (.aload_n 0, 1) := by decide +kernel
theorem dL_law_613 : decode cL_law 613 = .ok (.iload 5, 2) := by decide +kernel
theorem dL_law_615 : decode cL_law 615 = .ok (.iconst 1, 1) := by decide +kernel
theorem dL_law_616 : decode cL_law 616 = .ok (.iadd, 1) := by decide +kernel
theorem dL_law_617 : decode cL_law 617 = .ok (.iaload, 1) := by decide +kernel
theorem dL_law_618 : decode cL_law 618 = .ok (.aload_n 0, 1) := by decide +kernel
theorem dL_law_619 : decode cL_law 619 = .ok (.iload 5, 2) := by decide +kernel
theorem dL_law_621 : decode cL_law 621 = .ok (.iconst 2, 1) := by decide +kernel
theorem dL_law_622 : decode cL_law 622 = .ok (.iadd, 1) := by decide +kernel
theorem dL_law_623 : decode cL_law 623 = .ok (.iaload, 1) := by decide +kernel
theorem dL_law_624 : decode cL_law 624 = .ok (.aload_n 0, 1) := by decide +kernel
theorem dL_law_625 : decode cL_law 625 = .ok (.iload 5, 2) := by decide +kernel
theorem dL_law_627 : decode cL_law 627 = .ok (.iconst 3, 1) := by decide +kernel
theorem dL_law_628 : decode cL_law 628 = .ok (.iadd, 1) := by decide +kernel
theorem dL_law_629 : decode cL_law 629 = .ok (.iaload, 1) := by decide +kernel
theorem dL_law_630 : decode cL_law 630 = .ok (.aload_n 0, 1) := by decide +kernel
theorem dL_law_631 : decode cL_law 631 = .ok (.iload 5, 2) := by decide +kernel
theorem dL_law_633 : decode cL_law 633 = .ok (.iconst 4, 1) := by decide +kernel
theorem dL_law_634 : decode cL_law 634 = .ok (.iadd, 1) := by decide +kernel
theorem dL_law_635 : decode cL_law 635 = .ok (.iaload, 1) := by decide +kernel
theorem dL_law_636 : decode cL_law 636 = .ok (.invokevirtual 196, 3) := by decide +kernel
theorem dL_law_639 : decode cL_law 639 = .ok (.istore 7, 2) := by decide +kernel
theorem dL_law_641 : decode cL_law 641 = .ok (.aload_n 2, 1) := by decide +kernel
theorem dL_law_642 : decode cL_law 642 = .ok (.invokevirtual 175, 3) := by decide +kernel
theorem dL_law_645 : decode cL_law 645 = .ok (.iload 6, 2) := by decide +kernel
theorem dL_law_647 : decode cL_law 647 = .ok (.if_icmp .eq 5, 3) := by decide +kernel
theorem dL_law_652 : decode cL_law 652 = .ok (.iload 6, 2) := by decide +kernel
theorem dL_law_654 : decode cL_law 654 = .ok (.ifCond .ne 15, 3) := by decide +kernel
theorem dL_law_657 : decode cL_law 657 = .ok (.aload_n 3, 1) := by decide +kernel
theorem dL_law_658 : decode cL_law 658 = .ok (.iconst 0, 1) := by decide +kernel
theorem dL_law_659 : decode cL_law 659 = .ok (.laload, 1) := by decide +kernel
theorem dL_law_660 : decode cL_law 660 = .ok (.iload 7, 2) := by decide +kernel
theorem dL_law_662 : decode cL_law 662 = .ok (.i2l, 1) := by decide +kernel
theorem dL_law_663 : decode cL_law 663 = .ok (.lcmp, 1) := by decide +kernel
theorem dL_law_664 : decode cL_law 664 = .ok (.ifCond .eq 5, 3) := by decide +kernel
theorem dL_law_669 : decode cL_law 669 = .ok (.goto 2313, 3) := by decide +kernel
theorem wd1146 : Cond.codeWith yL_addPilot cL_addPilot 4 (some .int) [(0, 9, 12, 13), (0, 9, 15, 15)] ∈ gW := gW_in 1146 (by decide +kernel) (by decide +kernel)
theorem mvwL_addPilot : MVW yL_addPilot cL_addPilot 4 (some .int) [(0, 9, 12, 13), (0, 9, 15, 15)] 3 := ⟨wd1146, wd77, by decide +kernel, by decide +kernel, by decide +kernel, by decide⟩
theorem wd1145 : Cond.static yL_addPilot ∈ gW := gW_in 1145 (by decide +kernel) (by decide +kernel)
theorem wd1144 : Cond.methodLink RL 197 yL_addPilot ∈ gW := gW_in 1144 (by decide +kernel) (by decide +kernel)
theorem wd1871 : Cond.code yX10_addPilot cX10_addPilot 2 (some .int) ∈ gW := gW_in 1871 (by decide +kernel) (by decide +kernel)
theorem mvX10_addPilot : MV yX10_addPilot cX10_addPilot 2 (some .int) 1 := ⟨wd1871, wd92, by decide +kernel, by decide +kernel, by decide +kernel, by decide⟩
theorem wd1869 : Cond.instanceMethod yX10_addPilot ∈ gW := gW_in 1869 (by decide +kernel) (by decide +kernel)
theorem wd1870 : Cond.selects yX10_addPilot.cls yX10_addPilot yX10_addPilot ∈ gW := gW_in 1870 (by decide +kernel) (by decide +kernel)
theorem wd1868 : Cond.methodLink RL 199 yX10_addPilot ∈ gW := gW_in 1868 (by decide +kernel) (by decide +kernel)
theorem dL_law_672 : decode cL_law 672 = .ok (.aload_n 1, 1) := by decide +kernel
theorem dL_law_673 : decode cL_law 673 = .ok (.aload_n 0, 1) := by decide +kernel
theorem dL_law_674 : decode cL_law 674 = .ok (.iload 5, 2) := by decide +kernel
theorem dL_law_676 : decode cL_law 676 = .ok (.iconst 1, 1) := by decide +kernel
theorem dL_law_677 : decode cL_law 677 = .ok (.iadd, 1) := by decide +kernel
theorem dL_law_678 : decode cL_law 678 = .ok (.iaload, 1) := by decide +kernel
theorem dL_law_679 : decode cL_law 679 = .ok (.aload_n 3, 1) := by decide +kernel
theorem dL_law_680 : decode cL_law 680 = .ok (.invokestatic 197, 3) := by decide +kernel
theorem dL_law_683 : decode cL_law 683 = .ok (.istore 6, 2) := by decide +kernel
theorem dL_law_685 : decode cL_law 685 = .ok (.aload_n 2, 1) := by decide +kernel
theorem dL_law_686 : decode cL_law 686 = .ok (.aload_n 0, 1) := by decide +kernel
theorem dL_law_687 : decode cL_law 687 = .ok (.iload 5, 2) := by decide +kernel
theorem dL_law_689 : decode cL_law 689 = .ok (.iconst 1, 1) := by decide +kernel
theorem dL_law_690 : decode cL_law 690 = .ok (.iadd, 1) := by decide +kernel
theorem dL_law_691 : decode cL_law 691 = .ok (.iaload, 1) := by decide +kernel
theorem dL_law_692 : decode cL_law 692 = .ok (.invokevirtual 199, 3) := by decide +kernel
theorem dL_law_695 : decode cL_law 695 = .ok (.istore 7, 2) := by decide +kernel
theorem dL_law_697 : decode cL_law 697 = .ok (.aload_n 2, 1) := by decide +kernel
theorem dL_law_698 : decode cL_law 698 = .ok (.invokevirtual 175, 3) := by decide +kernel
theorem dL_law_701 : decode cL_law 701 = .ok (.iload 6, 2) := by decide +kernel
theorem dL_law_703 : decode cL_law 703 = .ok (.if_icmp .eq 5, 3) := by decide +kernel
theorem dL_law_708 : decode cL_law 708 = .ok (.iload 6, 2) := by decide +kernel
theorem dL_law_710 : decode cL_law 710 = .ok (.ifCond .ne 15, 3) := by decide +kernel
theorem dL_law_713 : decode cL_law 713 = .ok (.aload_n 3, 1) := by decide +kernel
theorem dL_law_714 : decode cL_law 714 = .ok (.iconst 0, 1) := by decide +kernel
theorem dL_law_715 : decode cL_law 715 = .ok (.laload, 1) := by decide +kernel
theorem dL_law_716 : decode cL_law 716 = .ok (.iload 7, 2) := by decide +kernel
theorem dL_law_718 : decode cL_law 718 = .ok (.i2l, 1) := by decide +kernel
theorem dL_law_719 : decode cL_law 719 = .ok (.lcmp, 1) := by decide +kernel
theorem dL_law_720 : decode cL_law 720 = .ok (.ifCond .eq 5, 3) := by decide +kernel
theorem dL_law_725 : decode cL_law 725 = .ok (.goto 2257, 3) := by decide +kernel
theorem wd1169 : Cond.codeWith yL_launch cL_launch 4 (some .int) [(0, 9, 12, 21), (0, 9, 15, 15), (0, 9, 18, 23)] ∈ gW := gW_in 1169 (by decide +kernel) (by decide +kernel)
theorem mvwL_launch : MVW yL_launch cL_launch 4 (some .int) [(0, 9, 12, 21), (0, 9, 15, 15), (0, 9, 18, 23)] 3 := ⟨wd1169, wd77, by decide +kernel, by decide +kernel, by decide +kernel, by decide⟩
theorem wd1168 : Cond.static yL_launch ∈ gW := gW_in 1168 (by decide +kernel) (by decide +kernel)
theorem wd1167 : Cond.methodLink RL 200 yL_launch ∈ gW := gW_in 1167 (by decide +kernel) (by decide +kernel)
theorem wd1883 : Cond.code yX10_launch cX10_launch 2 (some .int) ∈ gW := gW_in 1883 (by decide +kernel) (by decide +kernel)
theorem mvX10_launch : MV yX10_launch cX10_launch 2 (some .int) 1 := ⟨wd1883, wd92, by decide +kernel, by decide +kernel, by decide +kernel, by decide⟩
theorem wd1881 : Cond.instanceMethod yX10_launch ∈ gW := gW_in 1881 (by decide +kernel) (by decide +kernel)
theorem wd1882 : Cond.selects yX10_launch.cls yX10_launch yX10_launch ∈ gW := gW_in 1882 (by decide +kernel) (by decide +kernel)
theorem wd1880 : Cond.methodLink RL 202 yX10_launch ∈ gW := gW_in 1880 (by decide +kernel) (by decide +kernel)
theorem dL_law_728 : decode cL_law 728 = .ok (.aload_n 1, 1) := by decide +kernel
theorem dL_law_729 : decode cL_law 729 = .ok (.aload_n 0, 1) := by decide +kernel
theorem dL_law_730 : decode cL_law 730 = .ok (.iload 5, 2) := by decide +kernel
theorem dL_law_732 : decode cL_law 732 = .ok (.iconst 1, 1) := by decide +kernel
theorem dL_law_733 : decode cL_law 733 = .ok (.iadd, 1) := by decide +kernel
theorem dL_law_734 : decode cL_law 734 = .ok (.iaload, 1) := by decide +kernel
theorem dL_law_735 : decode cL_law 735 = .ok (.aload_n 3, 1) := by decide +kernel
theorem dL_law_736 : decode cL_law 736 = .ok (.invokestatic 200, 3) := by decide +kernel
theorem dL_law_739 : decode cL_law 739 = .ok (.istore 6, 2) := by decide +kernel
theorem dL_law_741 : decode cL_law 741 = .ok (.aload_n 2, 1) := by decide +kernel
theorem dL_law_742 : decode cL_law 742 = .ok (.aload_n 0, 1) := by decide +kernel
theorem dL_law_743 : decode cL_law 743 = .ok (.iload 5, 2) := by decide +kernel
theorem dL_law_745 : decode cL_law 745 = .ok (.iconst 1, 1) := by decide +kernel
theorem dL_law_746 : decode cL_law 746 = .ok (.iadd, 1) := by decide +kernel
theorem dL_law_747 : decode cL_law 747 = .ok (.iaload, 1) := by decide +kernel
theorem dL_law_748 : decode cL_law 748 = .ok (.invokevirtual 202, 3) := by decide +kernel
theorem dL_law_751 : decode cL_law 751 = .ok (.istore 7, 2) := by decide +kernel
theorem dL_law_753 : decode cL_law 753 = .ok (.aload_n 2, 1) := by decide +kernel
theorem dL_law_754 : decode cL_law 754 = .ok (.invokevirtual 175, 3) := by decide +kernel
theorem dL_law_757 : decode cL_law 757 = .ok (.iload 6, 2) := by decide +kernel
theorem dL_law_759 : decode cL_law 759 = .ok (.if_icmp .eq 5, 3) := by decide +kernel
theorem dL_law_764 : decode cL_law 764 = .ok (.iload 6, 2) := by decide +kernel
theorem dL_law_766 : decode cL_law 766 = .ok (.ifCond .ne 15, 3) := by decide +kernel
theorem dL_law_769 : decode cL_law 769 = .ok (.aload_n 3, 1) := by decide +kernel
theorem dL_law_770 : decode cL_law 770 = .ok (.iconst 0, 1) := by decide +kernel
theorem dL_law_771 : decode cL_law 771 = .ok (.laload, 1) := by decide +kernel
theorem dL_law_772 : decode cL_law 772 = .ok (.iload 7, 2) := by decide +kernel
theorem dL_law_774 : decode cL_law 774 = .ok (.i2l, 1) := by decide +kernel
theorem dL_law_775 : decode cL_law 775 = .ok (.lcmp, 1) := by decide +kernel
theorem dL_law_776 : decode cL_law 776 = .ok (.ifCond .eq 5, 3) := by decide +kernel
theorem dL_law_781 : decode cL_law 781 = .ok (.goto 2201, 3) := by decide +kernel
theorem wd1194 : Cond.codeWith yL_fly cL_fly 6 (some .int) [(0, 12, 15, 21), (0, 12, 19, 13), (0, 12, 23, 15), (0, 12, 27, 23)] ∈ gW := gW_in 1194 (by decide +kernel) (by decide +kernel)
theorem mvwL_fly : MVW yL_fly cL_fly 6 (some .int) [(0, 12, 15, 21), (0, 12, 19, 13), (0, 12, 23, 15), (0, 12, 27, 23)] 5 := ⟨wd1194, wd77, by decide +kernel, by decide +kernel, by decide +kernel, by decide⟩
theorem wd1193 : Cond.static yL_fly ∈ gW := gW_in 1193 (by decide +kernel) (by decide +kernel)
theorem wd1192 : Cond.methodLink RL 203 yL_fly ∈ gW := gW_in 1192 (by decide +kernel) (by decide +kernel)
theorem wd1899 : Cond.code yX10_fly cX10_fly 4 (some .int) ∈ gW := gW_in 1899 (by decide +kernel) (by decide +kernel)
theorem mvX10_fly : MV yX10_fly cX10_fly 4 (some .int) 3 := ⟨wd1899, wd92, by decide +kernel, by decide +kernel, by decide +kernel, by decide⟩
theorem wd1897 : Cond.instanceMethod yX10_fly ∈ gW := gW_in 1897 (by decide +kernel) (by decide +kernel)
theorem wd1898 : Cond.selects yX10_fly.cls yX10_fly yX10_fly ∈ gW := gW_in 1898 (by decide +kernel) (by decide +kernel)
theorem wd1896 : Cond.methodLink RL 205 yX10_fly ∈ gW := gW_in 1896 (by decide +kernel) (by decide +kernel)
theorem dL_law_784 : decode cL_law 784 = .ok (.aload_n 1, 1) := by decide +kernel
theorem dL_law_785 : decode cL_law 785 = .ok (.aload_n 0, 1) := by decide +kernel
theorem dL_law_786 : decode cL_law 786 = .ok (.iload 5, 2) := by decide +kernel
theorem dL_law_788 : decode cL_law 788 = .ok (.iconst 1, 1) := by decide +kernel
theorem dL_law_789 : decode cL_law 789 = .ok (.iadd, 1) := by decide +kernel
theorem dL_law_790 : decode cL_law 790 = .ok (.iaload, 1) := by decide +kernel
theorem dL_law_791 : decode cL_law 791 = .ok (.aload_n 0, 1) := by decide +kernel
theorem dL_law_792 : decode cL_law 792 = .ok (.iload 5, 2) := by decide +kernel
theorem dL_law_794 : decode cL_law 794 = .ok (.iconst 2, 1) := by decide +kernel
theorem dL_law_795 : decode cL_law 795 = .ok (.iadd, 1) := by decide +kernel
theorem dL_law_796 : decode cL_law 796 = .ok (.iaload, 1) := by decide +kernel
theorem dL_law_797 : decode cL_law 797 = .ok (.aload_n 0, 1) := by decide +kernel
theorem dL_law_798 : decode cL_law 798 = .ok (.iload 5, 2) := by decide +kernel
theorem dL_law_800 : decode cL_law 800 = .ok (.iconst 3, 1) := by decide +kernel
theorem dL_law_801 : decode cL_law 801 = .ok (.iadd, 1) := by decide +kernel
theorem dL_law_802 : decode cL_law 802 = .ok (.iaload, 1) := by decide +kernel
theorem dL_law_803 : decode cL_law 803 = .ok (.aload_n 3, 1) := by decide +kernel
theorem dL_law_804 : decode cL_law 804 = .ok (.invokestatic 203, 3) := by decide +kernel
theorem dL_law_807 : decode cL_law 807 = .ok (.istore 6, 2) := by decide +kernel
theorem dL_law_809 : decode cL_law 809 = .ok (.aload_n 2, 1) := by decide +kernel
theorem dL_law_810 : decode cL_law 810 = .ok (.aload_n 0, 1) := by decide +kernel
theorem dL_law_811 : decode cL_law 811 = .ok (.iload 5, 2) := by decide +kernel
theorem dL_law_813 : decode cL_law 813 = .ok (.iconst 1, 1) := by decide +kernel
theorem dL_law_814 : decode cL_law 814 = .ok (.iadd, 1) := by decide +kernel
theorem dL_law_815 : decode cL_law 815 = .ok (.iaload, 1) := by decide +kernel
theorem dL_law_816 : decode cL_law 816 = .ok (.aload_n 0, 1) := by decide +kernel
theorem dL_law_817 : decode cL_law 817 = .ok (.iload 5, 2) := by decide +kernel
theorem dL_law_819 : decode cL_law 819 = .ok (.iconst 2, 1) := by decide +kernel
theorem dL_law_820 : decode cL_law 820 = .ok (.iadd, 1) := by decide +kernel
theorem dL_law_821 : decode cL_law 821 = .ok (.iaload, 1) := by decide +kernel
theorem dL_law_822 : decode cL_law 822 = .ok (.aload_n 0, 1) := by decide +kernel
theorem dL_law_823 : decode cL_law 823 = .ok (.iload 5, 2) := by decide +kernel
theorem dL_law_825 : decode cL_law 825 = .ok (.iconst 3, 1) := by decide +kernel
theorem dL_law_826 : decode cL_law 826 = .ok (.iadd, 1) := by decide +kernel
theorem dL_law_827 : decode cL_law 827 = .ok (.iaload, 1) := by decide +kernel
theorem dL_law_828 : decode cL_law 828 = .ok (.invokevirtual 205, 3) := by decide +kernel
theorem dL_law_831 : decode cL_law 831 = .ok (.istore 7, 2) := by decide +kernel
theorem dL_law_833 : decode cL_law 833 = .ok (.aload_n 2, 1) := by decide +kernel
theorem dL_law_834 : decode cL_law 834 = .ok (.invokevirtual 175, 3) := by decide +kernel
theorem dL_law_837 : decode cL_law 837 = .ok (.iload 6, 2) := by decide +kernel
theorem dL_law_839 : decode cL_law 839 = .ok (.if_icmp .eq 5, 3) := by decide +kernel
theorem dL_law_844 : decode cL_law 844 = .ok (.iload 6, 2) := by decide +kernel
theorem dL_law_846 : decode cL_law 846 = .ok (.ifCond .ne 15, 3) := by decide +kernel
theorem dL_law_849 : decode cL_law 849 = .ok (.aload_n 3, 1) := by decide +kernel
theorem dL_law_850 : decode cL_law 850 = .ok (.iconst 0, 1) := by decide +kernel
theorem dL_law_851 : decode cL_law 851 = .ok (.laload, 1) := by decide +kernel
theorem dL_law_852 : decode cL_law 852 = .ok (.iload 7, 2) := by decide +kernel
theorem dL_law_854 : decode cL_law 854 = .ok (.i2l, 1) := by decide +kernel
theorem dL_law_855 : decode cL_law 855 = .ok (.lcmp, 1) := by decide +kernel
theorem dL_law_856 : decode cL_law 856 = .ok (.ifCond .eq 5, 3) := by decide +kernel
theorem dL_law_861 : decode cL_law 861 = .ok (.goto 2121, 3) := by decide +kernel
theorem wd1211 : Cond.codeWith yL_climb cL_climb 5 (some .int) [(0, 10, 13, 21), (0, 10, 17, 13), (0, 10, 21, 15), (0, 10, 25, 23)] ∈ gW := gW_in 1211 (by decide +kernel) (by decide +kernel)
theorem mvwL_climb : MVW yL_climb cL_climb 5 (some .int) [(0, 10, 13, 21), (0, 10, 17, 13), (0, 10, 21, 15), (0, 10, 25, 23)] 4 := ⟨wd1211, wd77, by decide +kernel, by decide +kernel, by decide +kernel, by decide⟩
theorem wd1210 : Cond.static yL_climb ∈ gW := gW_in 1210 (by decide +kernel) (by decide +kernel)
theorem wd1209 : Cond.methodLink RL 206 yL_climb ∈ gW := gW_in 1209 (by decide +kernel) (by decide +kernel)
theorem wd1929 : Cond.code yX10_climb cX10_climb 3 (some .int) ∈ gW := gW_in 1929 (by decide +kernel) (by decide +kernel)
theorem mvX10_climb : MV yX10_climb cX10_climb 3 (some .int) 2 := ⟨wd1929, wd92, by decide +kernel, by decide +kernel, by decide +kernel, by decide⟩
theorem wd1927 : Cond.instanceMethod yX10_climb ∈ gW := gW_in 1927 (by decide +kernel) (by decide +kernel)
theorem wd1928 : Cond.selects yX10_climb.cls yX10_climb yX10_climb ∈ gW := gW_in 1928 (by decide +kernel) (by decide +kernel)
theorem wd1926 : Cond.methodLink RL 208 yX10_climb ∈ gW := gW_in 1926 (by decide +kernel) (by decide +kernel)
theorem dL_law_864 : decode cL_law 864 = .ok (.aload_n 1, 1) := by decide +kernel
theorem dL_law_865 : decode cL_law 865 = .ok (.aload_n 0, 1) := by decide +kernel
theorem dL_law_866 : decode cL_law 866 = .ok (.iload 5, 2) := by decide +kernel
theorem dL_law_868 : decode cL_law 868 = .ok (.iconst 1, 1) := by decide +kernel
theorem dL_law_869 : decode cL_law 869 = .ok (.iadd, 1) := by decide +kernel
theorem dL_law_870 : decode cL_law 870 = .ok (.iaload, 1) := by decide +kernel
theorem dL_law_871 : decode cL_law 871 = .ok (.aload_n 0, 1) := by decide +kernel
theorem dL_law_872 : decode cL_law 872 = .ok (.iload 5, 2) := by decide +kernel
theorem dL_law_874 : decode cL_law 874 = .ok (.iconst 2, 1) := by decide +kernel
theorem dL_law_875 : decode cL_law 875 = .ok (.iadd, 1) := by decide +kernel
theorem dL_law_876 : decode cL_law 876 = .ok (.iaload, 1) := by decide +kernel
theorem dL_law_877 : decode cL_law 877 = .ok (.aload_n 3, 1) := by decide +kernel
theorem dL_law_878 : decode cL_law 878 = .ok (.invokestatic 206, 3) := by decide +kernel
theorem dL_law_881 : decode cL_law 881 = .ok (.istore 6, 2) := by decide +kernel
theorem dL_law_883 : decode cL_law 883 = .ok (.aload_n 2, 1) := by decide +kernel
theorem dL_law_884 : decode cL_law 884 = .ok (.aload_n 0, 1) := by decide +kernel
theorem dL_law_885 : decode cL_law 885 = .ok (.iload 5, 2) := by decide +kernel
theorem dL_law_887 : decode cL_law 887 = .ok (.iconst 1, 1) := by decide +kernel
theorem dL_law_888 : decode cL_law 888 = .ok (.iadd, 1) := by decide +kernel
theorem dL_law_889 : decode cL_law 889 = .ok (.iaload, 1) := by decide +kernel
theorem dL_law_890 : decode cL_law 890 = .ok (.aload_n 0, 1) := by decide +kernel
theorem dL_law_891 : decode cL_law 891 = .ok (.iload 5, 2) := by decide +kernel
theorem dL_law_893 : decode cL_law 893 = .ok (.iconst 2, 1) := by decide +kernel
theorem dL_law_894 : decode cL_law 894 = .ok (.iadd, 1) := by decide +kernel
theorem dL_law_895 : decode cL_law 895 = .ok (.iaload, 1) := by decide +kernel
theorem dL_law_896 : decode cL_law 896 = .ok (.invokevirtual 208, 3) := by decide +kernel
theorem dL_law_899 : decode cL_law 899 = .ok (.istore 7, 2) := by decide +kernel
theorem dL_law_901 : decode cL_law 901 = .ok (.aload_n 2, 1) := by decide +kernel
theorem dL_law_902 : decode cL_law 902 = .ok (.invokevirtual 175, 3) := by decide +kernel
theorem dL_law_905 : decode cL_law 905 = .ok (.iload 6, 2) := by decide +kernel
theorem dL_law_907 : decode cL_law 907 = .ok (.if_icmp .eq 5, 3) := by decide +kernel
theorem dL_law_912 : decode cL_law 912 = .ok (.iload 6, 2) := by decide +kernel
theorem dL_law_914 : decode cL_law 914 = .ok (.ifCond .ne 15, 3) := by decide +kernel
theorem dL_law_917 : decode cL_law 917 = .ok (.aload_n 3, 1) := by decide +kernel
theorem dL_law_918 : decode cL_law 918 = .ok (.iconst 0, 1) := by decide +kernel
theorem dL_law_919 : decode cL_law 919 = .ok (.laload, 1) := by decide +kernel
theorem dL_law_920 : decode cL_law 920 = .ok (.iload 7, 2) := by decide +kernel
theorem dL_law_922 : decode cL_law 922 = .ok (.i2l, 1) := by decide +kernel
theorem dL_law_923 : decode cL_law 923 = .ok (.lcmp, 1) := by decide +kernel
theorem dL_law_924 : decode cL_law 924 = .ok (.ifCond .eq 5, 3) := by decide +kernel
theorem dL_law_929 : decode cL_law 929 = .ok (.goto 2053, 3) := by decide +kernel
theorem wd1236 : Cond.codeWith yL_endDay cL_endDay 3 (some .int) [(0, 8, 11, 15)] ∈ gW := gW_in 1236 (by decide +kernel) (by decide +kernel)
theorem mvwL_endDay : MVW yL_endDay cL_endDay 3 (some .int) [(0, 8, 11, 15)] 2 := ⟨wd1236, wd77, by decide +kernel, by decide +kernel, by decide +kernel, by decide⟩
theorem wd1235 : Cond.static yL_endDay ∈ gW := gW_in 1235 (by decide +kernel) (by decide +kernel)
theorem wd1234 : Cond.methodLink RL 209 yL_endDay ∈ gW := gW_in 1234 (by decide +kernel) (by decide +kernel)
theorem wd1941 : Cond.code yX10_endDay cX10_endDay 1 (some .int) ∈ gW := gW_in 1941 (by decide +kernel) (by decide +kernel)
theorem mvX10_endDay : MV yX10_endDay cX10_endDay 1 (some .int) 0 := ⟨wd1941, wd92, by decide +kernel, by decide +kernel, by decide +kernel, by decide⟩
theorem wd1939 : Cond.instanceMethod yX10_endDay ∈ gW := gW_in 1939 (by decide +kernel) (by decide +kernel)
theorem wd1940 : Cond.selects yX10_endDay.cls yX10_endDay yX10_endDay ∈ gW := gW_in 1940 (by decide +kernel) (by decide +kernel)
theorem wd1938 : Cond.methodLink RL 211 yX10_endDay ∈ gW := gW_in 1938 (by decide +kernel) (by decide +kernel)
theorem dL_law_932 : decode cL_law 932 = .ok (.aload_n 1, 1) := by decide +kernel
theorem dL_law_933 : decode cL_law 933 = .ok (.aload_n 3, 1) := by decide +kernel
theorem dL_law_934 : decode cL_law 934 = .ok (.invokestatic 209, 3) := by decide +kernel
theorem dL_law_937 : decode cL_law 937 = .ok (.istore 6, 2) := by decide +kernel
theorem dL_law_939 : decode cL_law 939 = .ok (.aload_n 2, 1) := by decide +kernel
theorem dL_law_940 : decode cL_law 940 = .ok (.invokevirtual 211, 3) := by decide +kernel
theorem dL_law_943 : decode cL_law 943 = .ok (.istore 7, 2) := by decide +kernel
theorem dL_law_945 : decode cL_law 945 = .ok (.aload_n 2, 1) := by decide +kernel
theorem dL_law_946 : decode cL_law 946 = .ok (.invokevirtual 175, 3) := by decide +kernel
theorem dL_law_949 : decode cL_law 949 = .ok (.iload 6, 2) := by decide +kernel
theorem dL_law_951 : decode cL_law 951 = .ok (.if_icmp .eq 5, 3) := by decide +kernel
theorem dL_law_956 : decode cL_law 956 = .ok (.iload 6, 2) := by decide +kernel
theorem dL_law_958 : decode cL_law 958 = .ok (.ifCond .ne 15, 3) := by decide +kernel
theorem dL_law_961 : decode cL_law 961 = .ok (.aload_n 3, 1) := by decide +kernel
theorem dL_law_962 : decode cL_law 962 = .ok (.iconst 0, 1) := by decide +kernel
theorem dL_law_963 : decode cL_law 963 = .ok (.laload, 1) := by decide +kernel
theorem dL_law_964 : decode cL_law 964 = .ok (.iload 7, 2) := by decide +kernel
theorem dL_law_966 : decode cL_law 966 = .ok (.i2l, 1) := by decide +kernel
theorem dL_law_967 : decode cL_law 967 = .ok (.lcmp, 1) := by decide +kernel
theorem dL_law_968 : decode cL_law 968 = .ok (.ifCond .eq 5, 3) := by decide +kernel
theorem dL_law_973 : decode cL_law 973 = .ok (.goto 2009, 3) := by decide +kernel
theorem wd414 : Cond.code yX9_pointCount cX9_pointCount 1 (some .int) ∈ gW := gW_in 414 (by decide +kernel) (by decide +kernel)
theorem mvX9_pointCount : MV yX9_pointCount cX9_pointCount 1 (some .int) 0 := ⟨wd414, wd78, by decide +kernel, by decide +kernel, by decide +kernel, by decide⟩
theorem wd412 : Cond.instanceMethod yX9_pointCount ∈ gW := gW_in 412 (by decide +kernel) (by decide +kernel)
theorem wd413 : Cond.selects yX9_pointCount.cls yX9_pointCount yX9_pointCount ∈ gW := gW_in 413 (by decide +kernel) (by decide +kernel)
theorem wd411 : Cond.methodLink RL 212 yX9_pointCount ∈ gW := gW_in 411 (by decide +kernel) (by decide +kernel)
theorem wd1977 : Cond.code yX10_pointCount cX10_pointCount 1 (some .int) ∈ gW := gW_in 1977 (by decide +kernel) (by decide +kernel)
theorem mvX10_pointCount : MV yX10_pointCount cX10_pointCount 1 (some .int) 0 := ⟨wd1977, wd92, by decide +kernel, by decide +kernel, by decide +kernel, by decide⟩
theorem wd1975 : Cond.instanceMethod yX10_pointCount ∈ gW := gW_in 1975 (by decide +kernel) (by decide +kernel)
theorem wd1976 : Cond.selects yX10_pointCount.cls yX10_pointCount yX10_pointCount ∈ gW := gW_in 1976 (by decide +kernel) (by decide +kernel)
theorem wd1974 : Cond.methodLink RL 215 yX10_pointCount ∈ gW := gW_in 1974 (by decide +kernel) (by decide +kernel)
theorem dL_law_976 : decode cL_law 976 = .ok (.aload_n 1, 1) := by decide +kernel
theorem dL_law_977 : decode cL_law 977 = .ok (.invokevirtual 212, 3) := by decide +kernel
theorem dL_law_980 : decode cL_law 980 = .ok (.aload_n 2, 1) := by decide +kernel
theorem dL_law_981 : decode cL_law 981 = .ok (.invokevirtual 215, 3) := by decide +kernel
theorem dL_law_984 : decode cL_law 984 = .ok (.if_icmp .eq 1998, 3) := by decide +kernel
theorem wd1262 : Cond.codeWith yL_distance cL_distance 5 (some .int) [(0, 10, 13, 21)] ∈ gW := gW_in 1262 (by decide +kernel) (by decide +kernel)
theorem mvwL_distance : MVW yL_distance cL_distance 5 (some .int) [(0, 10, 13, 21)] 4 := ⟨wd1262, wd77, by decide +kernel, by decide +kernel, by decide +kernel, by decide⟩
theorem wd1261 : Cond.static yL_distance ∈ gW := gW_in 1261 (by decide +kernel) (by decide +kernel)
theorem wd1260 : Cond.methodLink RL 216 yL_distance ∈ gW := gW_in 1260 (by decide +kernel) (by decide +kernel)
theorem wd1981 : Cond.code yX10_distance cX10_distance 3 (some .int) ∈ gW := gW_in 1981 (by decide +kernel) (by decide +kernel)
theorem mvX10_distance : MV yX10_distance cX10_distance 3 (some .int) 2 := ⟨wd1981, wd92, by decide +kernel, by decide +kernel, by decide +kernel, by decide⟩
theorem wd1979 : Cond.instanceMethod yX10_distance ∈ gW := gW_in 1979 (by decide +kernel) (by decide +kernel)
theorem wd1980 : Cond.selects yX10_distance.cls yX10_distance yX10_distance ∈ gW := gW_in 1980 (by decide +kernel) (by decide +kernel)
theorem wd1978 : Cond.methodLink RL 218 yX10_distance ∈ gW := gW_in 1978 (by decide +kernel) (by decide +kernel)
theorem dL_law_989 : decode cL_law 989 = .ok (.aload_n 1, 1) := by decide +kernel
theorem dL_law_990 : decode cL_law 990 = .ok (.aload_n 0, 1) := by decide +kernel
theorem dL_law_991 : decode cL_law 991 = .ok (.iload 5, 2) := by decide +kernel
theorem dL_law_993 : decode cL_law 993 = .ok (.iconst 1, 1) := by decide +kernel
theorem dL_law_994 : decode cL_law 994 = .ok (.iadd, 1) := by decide +kernel
theorem dL_law_995 : decode cL_law 995 = .ok (.iaload, 1) := by decide +kernel
theorem dL_law_996 : decode cL_law 996 = .ok (.aload_n 0, 1) := by decide +kernel
theorem dL_law_997 : decode cL_law 997 = .ok (.iload 5, 2) := by decide +kernel
theorem dL_law_999 : decode cL_law 999 = .ok (.iconst 2, 1) := by decide +kernel
theorem dL_law_1000 : decode cL_law 1000 = .ok (.iadd, 1) := by decide +kernel
theorem dL_law_1001 : decode cL_law 1001 = .ok (.iaload, 1) := by decide +kernel
theorem dL_law_1002 : decode cL_law 1002 = .ok (.aload_n 3, 1) := by decide +kernel
theorem dL_law_1003 : decode cL_law 1003 = .ok (.invokestatic 216, 3) := by decide +kernel
theorem dL_law_1006 : decode cL_law 1006 = .ok (.istore 6, 2) := by decide +kernel
theorem dL_law_1008 : decode cL_law 1008 = .ok (.aload_n 2, 1) := by decide +kernel
theorem dL_law_1009 : decode cL_law 1009 = .ok (.aload_n 0, 1) := by decide +kernel
theorem dL_law_1010 : decode cL_law 1010 = .ok (.iload 5, 2) := by decide +kernel
theorem dL_law_1012 : decode cL_law 1012 = .ok (.iconst 1, 1) := by decide +kernel
theorem dL_law_1013 : decode cL_law 1013 = .ok (.iadd, 1) := by decide +kernel
theorem dL_law_1014 : decode cL_law 1014 = .ok (.iaload, 1) := by decide +kernel
theorem dL_law_1015 : decode cL_law 1015 = .ok (.aload_n 0, 1) := by decide +kernel
theorem dL_law_1016 : decode cL_law 1016 = .ok (.iload 5, 2) := by decide +kernel
theorem dL_law_1018 : decode cL_law 1018 = .ok (.iconst 2, 1) := by decide +kernel
theorem dL_law_1019 : decode cL_law 1019 = .ok (.iadd, 1) := by decide +kernel
theorem dL_law_1020 : decode cL_law 1020 = .ok (.iaload, 1) := by decide +kernel
theorem dL_law_1021 : decode cL_law 1021 = .ok (.invokevirtual 218, 3) := by decide +kernel
theorem dL_law_1024 : decode cL_law 1024 = .ok (.istore 7, 2) := by decide +kernel
theorem dL_law_1026 : decode cL_law 1026 = .ok (.aload_n 2, 1) := by decide +kernel
theorem dL_law_1027 : decode cL_law 1027 = .ok (.invokevirtual 175, 3) := by decide +kernel
theorem dL_law_1030 : decode cL_law 1030 = .ok (.iload 6, 2) := by decide +kernel
theorem dL_law_1032 : decode cL_law 1032 = .ok (.if_icmp .eq 5, 3) := by decide +kernel
theorem dL_law_1037 : decode cL_law 1037 = .ok (.iload 6, 2) := by decide +kernel
theorem dL_law_1039 : decode cL_law 1039 = .ok (.ifCond .ne 15, 3) := by decide +kernel
theorem dL_law_1042 : decode cL_law 1042 = .ok (.aload_n 3, 1) := by decide +kernel
theorem dL_law_1043 : decode cL_law 1043 = .ok (.iconst 0, 1) := by decide +kernel
theorem dL_law_1044 : decode cL_law 1044 = .ok (.laload, 1) := by decide +kernel
theorem dL_law_1045 : decode cL_law 1045 = .ok (.iload 7, 2) := by decide +kernel
theorem dL_law_1047 : decode cL_law 1047 = .ok (.i2l, 1) := by decide +kernel
theorem dL_law_1048 : decode cL_law 1048 = .ok (.lcmp, 1) := by decide +kernel
theorem dL_law_1049 : decode cL_law 1049 = .ok (.ifCond .eq 5, 3) := by decide +kernel
theorem dL_law_1054 : decode cL_law 1054 = .ok (.goto 1928, 3) := by decide +kernel
theorem wd418 : Cond.code yX9_taskLength cX9_taskLength 1 (some .int) ∈ gW := gW_in 418 (by decide +kernel) (by decide +kernel)
theorem mvX9_taskLength : MV yX9_taskLength cX9_taskLength 1 (some .int) 0 := ⟨wd418, wd78, by decide +kernel, by decide +kernel, by decide +kernel, by decide⟩
theorem wd416 : Cond.instanceMethod yX9_taskLength ∈ gW := gW_in 416 (by decide +kernel) (by decide +kernel)
theorem wd417 : Cond.selects yX9_taskLength.cls yX9_taskLength yX9_taskLength ∈ gW := gW_in 417 (by decide +kernel) (by decide +kernel)
theorem wd415 : Cond.methodLink RL 219 yX9_taskLength ∈ gW := gW_in 415 (by decide +kernel) (by decide +kernel)
theorem wd1985 : Cond.code yX10_taskLength cX10_taskLength 1 (some .int) ∈ gW := gW_in 1985 (by decide +kernel) (by decide +kernel)
theorem mvX10_taskLength : MV yX10_taskLength cX10_taskLength 1 (some .int) 0 := ⟨wd1985, wd92, by decide +kernel, by decide +kernel, by decide +kernel, by decide⟩
theorem wd1983 : Cond.instanceMethod yX10_taskLength ∈ gW := gW_in 1983 (by decide +kernel) (by decide +kernel)
theorem wd1984 : Cond.selects yX10_taskLength.cls yX10_taskLength yX10_taskLength ∈ gW := gW_in 1984 (by decide +kernel) (by decide +kernel)
theorem wd1982 : Cond.methodLink RL 222 yX10_taskLength ∈ gW := gW_in 1982 (by decide +kernel) (by decide +kernel)
theorem dL_law_1057 : decode cL_law 1057 = .ok (.aload_n 1, 1) := by decide +kernel
theorem dL_law_1058 : decode cL_law 1058 = .ok (.invokevirtual 219, 3) := by decide +kernel
theorem dL_law_1061 : decode cL_law 1061 = .ok (.aload_n 2, 1) := by decide +kernel
theorem dL_law_1062 : decode cL_law 1062 = .ok (.invokevirtual 222, 3) := by decide +kernel
theorem dL_law_1065 : decode cL_law 1065 = .ok (.if_icmp .eq 1917, 3) := by decide +kernel
theorem wd1272 : Cond.codeWith yL_taskPoint cL_taskPoint 4 (some .int) [(0, 9, 12, 61)] ∈ gW := gW_in 1272 (by decide +kernel) (by decide +kernel)
theorem mvwL_taskPoint : MVW yL_taskPoint cL_taskPoint 4 (some .int) [(0, 9, 12, 61)] 3 := ⟨wd1272, wd77, by decide +kernel, by decide +kernel, by decide +kernel, by decide⟩
theorem wd1271 : Cond.static yL_taskPoint ∈ gW := gW_in 1271 (by decide +kernel) (by decide +kernel)
theorem wd1270 : Cond.methodLink RL 223 yL_taskPoint ∈ gW := gW_in 1270 (by decide +kernel) (by decide +kernel)
theorem wd1989 : Cond.code yX10_taskPoint cX10_taskPoint 2 (some .int) ∈ gW := gW_in 1989 (by decide +kernel) (by decide +kernel)
theorem mvX10_taskPoint : MV yX10_taskPoint cX10_taskPoint 2 (some .int) 1 := ⟨wd1989, wd92, by decide +kernel, by decide +kernel, by decide +kernel, by decide⟩
theorem wd1987 : Cond.instanceMethod yX10_taskPoint ∈ gW := gW_in 1987 (by decide +kernel) (by decide +kernel)
theorem wd1988 : Cond.selects yX10_taskPoint.cls yX10_taskPoint yX10_taskPoint ∈ gW := gW_in 1988 (by decide +kernel) (by decide +kernel)
theorem wd1986 : Cond.methodLink RL 225 yX10_taskPoint ∈ gW := gW_in 1986 (by decide +kernel) (by decide +kernel)
theorem dL_law_1070 : decode cL_law 1070 = .ok (.aload_n 1, 1) := by decide +kernel
theorem dL_law_1071 : decode cL_law 1071 = .ok (.aload_n 0, 1) := by decide +kernel
theorem dL_law_1072 : decode cL_law 1072 = .ok (.iload 5, 2) := by decide +kernel
theorem dL_law_1074 : decode cL_law 1074 = .ok (.iconst 1, 1) := by decide +kernel
theorem dL_law_1075 : decode cL_law 1075 = .ok (.iadd, 1) := by decide +kernel
theorem dL_law_1076 : decode cL_law 1076 = .ok (.iaload, 1) := by decide +kernel
theorem dL_law_1077 : decode cL_law 1077 = .ok (.aload_n 3, 1) := by decide +kernel
theorem dL_law_1078 : decode cL_law 1078 = .ok (.invokestatic 223, 3) := by decide +kernel
theorem dL_law_1081 : decode cL_law 1081 = .ok (.istore 6, 2) := by decide +kernel
theorem dL_law_1083 : decode cL_law 1083 = .ok (.aload_n 2, 1) := by decide +kernel
theorem dL_law_1084 : decode cL_law 1084 = .ok (.aload_n 0, 1) := by decide +kernel
theorem dL_law_1085 : decode cL_law 1085 = .ok (.iload 5, 2) := by decide +kernel
theorem dL_law_1087 : decode cL_law 1087 = .ok (.iconst 1, 1) := by decide +kernel
theorem dL_law_1088 : decode cL_law 1088 = .ok (.iadd, 1) := by decide +kernel
theorem dL_law_1089 : decode cL_law 1089 = .ok (.iaload, 1) := by decide +kernel
theorem dL_law_1090 : decode cL_law 1090 = .ok (.invokevirtual 225, 3) := by decide +kernel
theorem dL_law_1093 : decode cL_law 1093 = .ok (.istore 7, 2) := by decide +kernel
theorem dL_law_1095 : decode cL_law 1095 = .ok (.aload_n 2, 1) := by decide +kernel
theorem dL_law_1096 : decode cL_law 1096 = .ok (.invokevirtual 175, 3) := by decide +kernel
theorem dL_law_1099 : decode cL_law 1099 = .ok (.iload 6, 2) := by decide +kernel
theorem dL_law_1101 : decode cL_law 1101 = .ok (.if_icmp .eq 5, 3) := by decide +kernel
theorem dL_law_1106 : decode cL_law 1106 = .ok (.iload 6, 2) := by decide +kernel
theorem dL_law_1108 : decode cL_law 1108 = .ok (.ifCond .ne 15, 3) := by decide +kernel
theorem dL_law_1111 : decode cL_law 1111 = .ok (.aload_n 3, 1) := by decide +kernel
theorem dL_law_1112 : decode cL_law 1112 = .ok (.iconst 0, 1) := by decide +kernel
theorem dL_law_1113 : decode cL_law 1113 = .ok (.laload, 1) := by decide +kernel
theorem dL_law_1114 : decode cL_law 1114 = .ok (.iload 7, 2) := by decide +kernel
theorem dL_law_1116 : decode cL_law 1116 = .ok (.i2l, 1) := by decide +kernel
theorem dL_law_1117 : decode cL_law 1117 = .ok (.lcmp, 1) := by decide +kernel
theorem dL_law_1118 : decode cL_law 1118 = .ok (.ifCond .eq 5, 3) := by decide +kernel
theorem dL_law_1123 : decode cL_law 1123 = .ok (.goto 1859, 3) := by decide +kernel
theorem wd422 : Cond.code yX9_taskDistance cX9_taskDistance 1 (some .int) ∈ gW := gW_in 422 (by decide +kernel) (by decide +kernel)
theorem mvX9_taskDistance : MV yX9_taskDistance cX9_taskDistance 1 (some .int) 0 := ⟨wd422, wd78, by decide +kernel, by decide +kernel, by decide +kernel, by decide⟩
theorem wd420 : Cond.instanceMethod yX9_taskDistance ∈ gW := gW_in 420 (by decide +kernel) (by decide +kernel)
theorem wd421 : Cond.selects yX9_taskDistance.cls yX9_taskDistance yX9_taskDistance ∈ gW := gW_in 421 (by decide +kernel) (by decide +kernel)
theorem wd419 : Cond.methodLink RL 226 yX9_taskDistance ∈ gW := gW_in 419 (by decide +kernel) (by decide +kernel)
theorem wd1993 : Cond.code yX10_taskDistance cX10_taskDistance 1 (some .int) ∈ gW := gW_in 1993 (by decide +kernel) (by decide +kernel)
theorem mvX10_taskDistance : MV yX10_taskDistance cX10_taskDistance 1 (some .int) 0 := ⟨wd1993, wd92, by decide +kernel, by decide +kernel, by decide +kernel, by decide⟩
theorem wd1991 : Cond.instanceMethod yX10_taskDistance ∈ gW := gW_in 1991 (by decide +kernel) (by decide +kernel)
theorem wd1992 : Cond.selects yX10_taskDistance.cls yX10_taskDistance yX10_taskDistance ∈ gW := gW_in 1992 (by decide +kernel) (by decide +kernel)
theorem wd1990 : Cond.methodLink RL 229 yX10_taskDistance ∈ gW := gW_in 1990 (by decide +kernel) (by decide +kernel)
theorem dL_law_1126 : decode cL_law 1126 = .ok (.aload_n 1, 1) := by decide +kernel
theorem dL_law_1127 : decode cL_law 1127 = .ok (.invokevirtual 226, 3) := by decide +kernel
theorem dL_law_1130 : decode cL_law 1130 = .ok (.aload_n 2, 1) := by decide +kernel
theorem dL_law_1131 : decode cL_law 1131 = .ok (.invokevirtual 229, 3) := by decide +kernel
theorem dL_law_1134 : decode cL_law 1134 = .ok (.if_icmp .eq 1848, 3) := by decide +kernel
theorem wd1297 : Cond.codeWith yL_strongestThermal cL_strongestThermal 5 (some .int) [(0, 10, 13, 13), (0, 10, 17, 61)] ∈ gW := gW_in 1297 (by decide +kernel) (by decide +kernel)
theorem mvwL_strongestThermal : MVW yL_strongestThermal cL_strongestThermal 5 (some .int) [(0, 10, 13, 13), (0, 10, 17, 61)] 4 := ⟨wd1297, wd77, by decide +kernel, by decide +kernel, by decide +kernel, by decide⟩
theorem wd1296 : Cond.static yL_strongestThermal ∈ gW := gW_in 1296 (by decide +kernel) (by decide +kernel)
theorem wd1295 : Cond.methodLink RL 230 yL_strongestThermal ∈ gW := gW_in 1295 (by decide +kernel) (by decide +kernel)
theorem wd1997 : Cond.code yX10_strongestThermal cX10_strongestThermal 4 (some .int) ∈ gW := gW_in 1997 (by decide +kernel) (by decide +kernel)
theorem mvX10_strongestThermal : MV yX10_strongestThermal cX10_strongestThermal 4 (some .int) 2 := ⟨wd1997, wd92, by decide +kernel, by decide +kernel, by decide +kernel, by decide⟩
theorem wd1995 : Cond.instanceMethod yX10_strongestThermal ∈ gW := gW_in 1995 (by decide +kernel) (by decide +kernel)
theorem wd1996 : Cond.selects yX10_strongestThermal.cls yX10_strongestThermal yX10_strongestThermal ∈ gW := gW_in 1996 (by decide +kernel) (by decide +kernel)
theorem wd1994 : Cond.methodLink RL 232 yX10_strongestThermal ∈ gW := gW_in 1994 (by decide +kernel) (by decide +kernel)
theorem dL_law_1139 : decode cL_law 1139 = .ok (.aload_n 1, 1) := by decide +kernel
theorem dL_law_1140 : decode cL_law 1140 = .ok (.aload_n 0, 1) := by decide +kernel
theorem dL_law_1141 : decode cL_law 1141 = .ok (.iload 5, 2) := by decide +kernel
theorem dL_law_1143 : decode cL_law 1143 = .ok (.iconst 1, 1) := by decide +kernel
theorem dL_law_1144 : decode cL_law 1144 = .ok (.iadd, 1) := by decide +kernel
theorem dL_law_1145 : decode cL_law 1145 = .ok (.iaload, 1) := by decide +kernel
theorem dL_law_1146 : decode cL_law 1146 = .ok (.aload_n 0, 1) := by decide +kernel
theorem dL_law_1147 : decode cL_law 1147 = .ok (.iload 5, 2) := by decide +kernel
theorem dL_law_1149 : decode cL_law 1149 = .ok (.iconst 2, 1) := by decide +kernel
theorem dL_law_1150 : decode cL_law 1150 = .ok (.iadd, 1) := by decide +kernel
theorem dL_law_1151 : decode cL_law 1151 = .ok (.iaload, 1) := by decide +kernel
theorem dL_law_1152 : decode cL_law 1152 = .ok (.aload_n 3, 1) := by decide +kernel
theorem dL_law_1153 : decode cL_law 1153 = .ok (.invokestatic 230, 3) := by decide +kernel
theorem dL_law_1156 : decode cL_law 1156 = .ok (.istore 6, 2) := by decide +kernel
theorem dL_law_1158 : decode cL_law 1158 = .ok (.aload_n 2, 1) := by decide +kernel
theorem dL_law_1159 : decode cL_law 1159 = .ok (.aload_n 0, 1) := by decide +kernel
theorem dL_law_1160 : decode cL_law 1160 = .ok (.iload 5, 2) := by decide +kernel
theorem dL_law_1162 : decode cL_law 1162 = .ok (.iconst 1, 1) := by decide +kernel
theorem dL_law_1163 : decode cL_law 1163 = .ok (.iadd, 1) := by decide +kernel
theorem dL_law_1164 : decode cL_law 1164 = .ok (.iaload, 1) := by decide +kernel
theorem dL_law_1165 : decode cL_law 1165 = .ok (.aload_n 0, 1) := by decide +kernel
theorem dL_law_1166 : decode cL_law 1166 = .ok (.iload 5, 2) := by decide +kernel
theorem dL_law_1168 : decode cL_law 1168 = .ok (.iconst 2, 1) := by decide +kernel
theorem dL_law_1169 : decode cL_law 1169 = .ok (.iadd, 1) := by decide +kernel
theorem dL_law_1170 : decode cL_law 1170 = .ok (.iaload, 1) := by decide +kernel
theorem dL_law_1171 : decode cL_law 1171 = .ok (.invokevirtual 232, 3) := by decide +kernel
theorem dL_law_1174 : decode cL_law 1174 = .ok (.istore 7, 2) := by decide +kernel
theorem dL_law_1176 : decode cL_law 1176 = .ok (.aload_n 2, 1) := by decide +kernel
theorem dL_law_1177 : decode cL_law 1177 = .ok (.invokevirtual 175, 3) := by decide +kernel
theorem dL_law_1180 : decode cL_law 1180 = .ok (.iload 6, 2) := by decide +kernel
theorem dL_law_1182 : decode cL_law 1182 = .ok (.if_icmp .eq 5, 3) := by decide +kernel
theorem dL_law_1187 : decode cL_law 1187 = .ok (.iload 6, 2) := by decide +kernel
theorem dL_law_1189 : decode cL_law 1189 = .ok (.ifCond .ne 15, 3) := by decide +kernel
theorem dL_law_1192 : decode cL_law 1192 = .ok (.aload_n 3, 1) := by decide +kernel
theorem dL_law_1193 : decode cL_law 1193 = .ok (.iconst 0, 1) := by decide +kernel
theorem dL_law_1194 : decode cL_law 1194 = .ok (.laload, 1) := by decide +kernel
theorem dL_law_1195 : decode cL_law 1195 = .ok (.iload 7, 2) := by decide +kernel
theorem dL_law_1197 : decode cL_law 1197 = .ok (.i2l, 1) := by decide +kernel
theorem dL_law_1198 : decode cL_law 1198 = .ok (.lcmp, 1) := by decide +kernel
theorem dL_law_1199 : decode cL_law 1199 = .ok (.ifCond .eq 5, 3) := by decide +kernel
theorem dL_law_1204 : decode cL_law 1204 = .ok (.goto 1778, 3) := by decide +kernel
theorem wd434 : Cond.code yX9_cloudBase cX9_cloudBase 1 (some .int) ∈ gW := gW_in 434 (by decide +kernel) (by decide +kernel)
theorem mvX9_cloudBase : MV yX9_cloudBase cX9_cloudBase 1 (some .int) 0 := ⟨wd434, wd78, by decide +kernel, by decide +kernel, by decide +kernel, by decide⟩
theorem wd432 : Cond.instanceMethod yX9_cloudBase ∈ gW := gW_in 432 (by decide +kernel) (by decide +kernel)
theorem wd433 : Cond.selects yX9_cloudBase.cls yX9_cloudBase yX9_cloudBase ∈ gW := gW_in 433 (by decide +kernel) (by decide +kernel)
theorem wd431 : Cond.methodLink RL 233 yX9_cloudBase ∈ gW := gW_in 431 (by decide +kernel) (by decide +kernel)
theorem wd2001 : Cond.code yX10_cloudBase cX10_cloudBase 1 (some .int) ∈ gW := gW_in 2001 (by decide +kernel) (by decide +kernel)
theorem mvX10_cloudBase : MV yX10_cloudBase cX10_cloudBase 1 (some .int) 0 := ⟨wd2001, wd92, by decide +kernel, by decide +kernel, by decide +kernel, by decide⟩
theorem wd1999 : Cond.instanceMethod yX10_cloudBase ∈ gW := gW_in 1999 (by decide +kernel) (by decide +kernel)
theorem wd2000 : Cond.selects yX10_cloudBase.cls yX10_cloudBase yX10_cloudBase ∈ gW := gW_in 2000 (by decide +kernel) (by decide +kernel)
theorem wd1998 : Cond.methodLink RL 236 yX10_cloudBase ∈ gW := gW_in 1998 (by decide +kernel) (by decide +kernel)
theorem dL_law_1207 : decode cL_law 1207 = .ok (.aload_n 1, 1) := by decide +kernel
theorem dL_law_1208 : decode cL_law 1208 = .ok (.invokevirtual 233, 3) := by decide +kernel
theorem dL_law_1211 : decode cL_law 1211 = .ok (.aload_n 2, 1) := by decide +kernel
theorem dL_law_1212 : decode cL_law 1212 = .ok (.invokevirtual 236, 3) := by decide +kernel
theorem dL_law_1215 : decode cL_law 1215 = .ok (.if_icmp .eq 1767, 3) := by decide +kernel
theorem wd1311 : Cond.codeWith yL_isRestricted cL_isRestricted 5 (some .int) [(0, 17, 20, 13)] ∈ gW := gW_in 1311 (by decide +kernel) (by decide +kernel)
theorem mvwL_isRestricted : MVW yL_isRestricted cL_isRestricted 5 (some .int) [(0, 17, 20, 13)] 4 := ⟨wd1311, wd77, by decide +kernel, by decide +kernel, by decide +kernel, by decide⟩
theorem wd1310 : Cond.static yL_isRestricted ∈ gW := gW_in 1310 (by decide +kernel) (by decide +kernel)
theorem wd1309 : Cond.methodLink RL 237 yL_isRestricted ∈ gW := gW_in 1309 (by decide +kernel) (by decide +kernel)
theorem wd2005 : Cond.code yX10_isRestricted cX10_isRestricted 3 (some .boolean) ∈ gW := gW_in 2005 (by decide +kernel) (by decide +kernel)
theorem mvX10_isRestricted : MV yX10_isRestricted cX10_isRestricted 3 (some .boolean) 2 := ⟨wd2005, wd92, by decide +kernel, by decide +kernel, by decide +kernel, by decide⟩
theorem wd2003 : Cond.instanceMethod yX10_isRestricted ∈ gW := gW_in 2003 (by decide +kernel) (by decide +kernel)
theorem wd2004 : Cond.selects yX10_isRestricted.cls yX10_isRestricted yX10_isRestricted ∈ gW := gW_in 2004 (by decide +kernel) (by decide +kernel)
theorem wd2002 : Cond.methodLink RL 239 yX10_isRestricted ∈ gW := gW_in 2002 (by decide +kernel) (by decide +kernel)
theorem dL_law_1220 : decode cL_law 1220 = .ok (.aload_n 1, 1) := by decide +kernel
theorem dL_law_1221 : decode cL_law 1221 = .ok (.aload_n 0, 1) := by decide +kernel
theorem dL_law_1222 : decode cL_law 1222 = .ok (.iload 5, 2) := by decide +kernel
theorem dL_law_1224 : decode cL_law 1224 = .ok (.iconst 1, 1) := by decide +kernel
theorem dL_law_1225 : decode cL_law 1225 = .ok (.iadd, 1) := by decide +kernel
theorem dL_law_1226 : decode cL_law 1226 = .ok (.iaload, 1) := by decide +kernel
theorem dL_law_1227 : decode cL_law 1227 = .ok (.aload_n 0, 1) := by decide +kernel
theorem dL_law_1228 : decode cL_law 1228 = .ok (.iload 5, 2) := by decide +kernel
theorem dL_law_1230 : decode cL_law 1230 = .ok (.iconst 2, 1) := by decide +kernel
theorem dL_law_1231 : decode cL_law 1231 = .ok (.iadd, 1) := by decide +kernel
theorem dL_law_1232 : decode cL_law 1232 = .ok (.iaload, 1) := by decide +kernel
theorem dL_law_1233 : decode cL_law 1233 = .ok (.aload_n 3, 1) := by decide +kernel
theorem dL_law_1234 : decode cL_law 1234 = .ok (.invokestatic 237, 3) := by decide +kernel
theorem dL_law_1237 : decode cL_law 1237 = .ok (.istore 6, 2) := by decide +kernel
theorem dL_law_1239 : decode cL_law 1239 = .ok (.aload_n 2, 1) := by decide +kernel
theorem dL_law_1240 : decode cL_law 1240 = .ok (.aload_n 0, 1) := by decide +kernel
theorem dL_law_1241 : decode cL_law 1241 = .ok (.iload 5, 2) := by decide +kernel
theorem dL_law_1243 : decode cL_law 1243 = .ok (.iconst 1, 1) := by decide +kernel
theorem dL_law_1244 : decode cL_law 1244 = .ok (.iadd, 1) := by decide +kernel
theorem dL_law_1245 : decode cL_law 1245 = .ok (.iaload, 1) := by decide +kernel
theorem dL_law_1246 : decode cL_law 1246 = .ok (.aload_n 0, 1) := by decide +kernel
theorem dL_law_1247 : decode cL_law 1247 = .ok (.iload 5, 2) := by decide +kernel
theorem dL_law_1249 : decode cL_law 1249 = .ok (.iconst 2, 1) := by decide +kernel
theorem dL_law_1250 : decode cL_law 1250 = .ok (.iadd, 1) := by decide +kernel
theorem dL_law_1251 : decode cL_law 1251 = .ok (.iaload, 1) := by decide +kernel
theorem dL_law_1252 : decode cL_law 1252 = .ok (.invokevirtual 239, 3) := by decide +kernel
theorem dL_law_1255 : decode cL_law 1255 = .ok (.istore 7, 2) := by decide +kernel
theorem dL_law_1257 : decode cL_law 1257 = .ok (.aload_n 2, 1) := by decide +kernel
theorem dL_law_1258 : decode cL_law 1258 = .ok (.invokevirtual 175, 3) := by decide +kernel
theorem dL_law_1261 : decode cL_law 1261 = .ok (.iload 6, 2) := by decide +kernel
theorem dL_law_1263 : decode cL_law 1263 = .ok (.if_icmp .eq 5, 3) := by decide +kernel
theorem dL_law_1268 : decode cL_law 1268 = .ok (.iload 6, 2) := by decide +kernel
theorem dL_law_1270 : decode cL_law 1270 = .ok (.ifCond .ne 22, 3) := by decide +kernel
theorem dL_law_1273 : decode cL_law 1273 = .ok (.aload_n 3, 1) := by decide +kernel
theorem dL_law_1274 : decode cL_law 1274 = .ok (.iconst 0, 1) := by decide +kernel
theorem dL_law_1275 : decode cL_law 1275 = .ok (.laload, 1) := by decide +kernel
theorem dL_law_1276 : decode cL_law 1276 = .ok (.iload 7, 2) := by decide +kernel
theorem dL_law_1278 : decode cL_law 1278 = .ok (.ifCond .eq 7, 3) := by decide +kernel
theorem dL_law_1281 : decode cL_law 1281 = .ok (.lconst 1, 1) := by decide +kernel
theorem dL_law_1282 : decode cL_law 1282 = .ok (.goto 4, 3) := by decide +kernel
theorem dL_law_1285 : decode cL_law 1285 = .ok (.lconst 0, 1) := by decide +kernel
theorem dL_law_1286 : decode cL_law 1286 = .ok (.lcmp, 1) := by decide +kernel
theorem dL_law_1287 : decode cL_law 1287 = .ok (.ifCond .eq 5, 3) := by decide +kernel
theorem dL_law_1292 : decode cL_law 1292 = .ok (.goto 1690, 3) := by decide +kernel
theorem wd1319 : Cond.codeWith yL_restrictedInRow cL_restrictedInRow 4 (some .int) [(0, 9, 12, 13)] ∈ gW := gW_in 1319 (by decide +kernel) (by decide +kernel)
theorem mvwL_restrictedInRow : MVW yL_restrictedInRow cL_restrictedInRow 4 (some .int) [(0, 9, 12, 13)] 3 := ⟨wd1319, wd77, by decide +kernel, by decide +kernel, by decide +kernel, by decide⟩
theorem wd1318 : Cond.static yL_restrictedInRow ∈ gW := gW_in 1318 (by decide +kernel) (by decide +kernel)
theorem wd1317 : Cond.methodLink RL 240 yL_restrictedInRow ∈ gW := gW_in 1317 (by decide +kernel) (by decide +kernel)
theorem wd2006 : Cond.methodLink RL 242 yX10_restrictedInRow ∈ gW := gW_in 2006 (by decide +kernel) (by decide +kernel)
theorem dL_law_1295 : decode cL_law 1295 = .ok (.aload_n 1, 1) := by decide +kernel
theorem dL_law_1296 : decode cL_law 1296 = .ok (.aload_n 0, 1) := by decide +kernel
theorem dL_law_1297 : decode cL_law 1297 = .ok (.iload 5, 2) := by decide +kernel
theorem dL_law_1299 : decode cL_law 1299 = .ok (.iconst 1, 1) := by decide +kernel
theorem dL_law_1300 : decode cL_law 1300 = .ok (.iadd, 1) := by decide +kernel
theorem dL_law_1301 : decode cL_law 1301 = .ok (.iaload, 1) := by decide +kernel
theorem dL_law_1302 : decode cL_law 1302 = .ok (.aload_n 3, 1) := by decide +kernel
theorem dL_law_1303 : decode cL_law 1303 = .ok (.invokestatic 240, 3) := by decide +kernel
theorem dL_law_1306 : decode cL_law 1306 = .ok (.istore 6, 2) := by decide +kernel
theorem dL_law_1308 : decode cL_law 1308 = .ok (.aload_n 2, 1) := by decide +kernel
theorem dL_law_1309 : decode cL_law 1309 = .ok (.aload_n 0, 1) := by decide +kernel
theorem dL_law_1310 : decode cL_law 1310 = .ok (.iload 5, 2) := by decide +kernel
theorem dL_law_1312 : decode cL_law 1312 = .ok (.iconst 1, 1) := by decide +kernel
theorem dL_law_1313 : decode cL_law 1313 = .ok (.iadd, 1) := by decide +kernel
theorem dL_law_1314 : decode cL_law 1314 = .ok (.iaload, 1) := by decide +kernel
theorem dL_law_1315 : decode cL_law 1315 = .ok (.invokevirtual 242, 3) := by decide +kernel
theorem dL_law_1318 : decode cL_law 1318 = .ok (.istore 7, 2) := by decide +kernel
theorem dL_law_1320 : decode cL_law 1320 = .ok (.aload_n 2, 1) := by decide +kernel
theorem dL_law_1321 : decode cL_law 1321 = .ok (.invokevirtual 175, 3) := by decide +kernel
theorem dL_law_1324 : decode cL_law 1324 = .ok (.iload 6, 2) := by decide +kernel
theorem dL_law_1326 : decode cL_law 1326 = .ok (.if_icmp .eq 5, 3) := by decide +kernel
theorem dL_law_1331 : decode cL_law 1331 = .ok (.iload 6, 2) := by decide +kernel
theorem dL_law_1333 : decode cL_law 1333 = .ok (.ifCond .ne 15, 3) := by decide +kernel
theorem dL_law_1336 : decode cL_law 1336 = .ok (.aload_n 3, 1) := by decide +kernel
theorem dL_law_1337 : decode cL_law 1337 = .ok (.iconst 0, 1) := by decide +kernel
theorem dL_law_1338 : decode cL_law 1338 = .ok (.laload, 1) := by decide +kernel
theorem dL_law_1339 : decode cL_law 1339 = .ok (.iload 7, 2) := by decide +kernel
theorem dL_law_1341 : decode cL_law 1341 = .ok (.i2l, 1) := by decide +kernel
theorem dL_law_1342 : decode cL_law 1342 = .ok (.lcmp, 1) := by decide +kernel
theorem dL_law_1343 : decode cL_law 1343 = .ok (.ifCond .eq 5, 3) := by decide +kernel
theorem dL_law_1348 : decode cL_law 1348 = .ok (.goto 1634, 3) := by decide +kernel
theorem wd1327 : Cond.codeWith yL_restrictedInRowByRanges cL_restrictedInRowByRanges 4 (some .int) [(0, 9, 12, 13)] ∈ gW := gW_in 1327 (by decide +kernel) (by decide +kernel)
theorem mvwL_restrictedInRowByRanges : MVW yL_restrictedInRowByRanges cL_restrictedInRowByRanges 4 (some .int) [(0, 9, 12, 13)] 3 := ⟨wd1327, wd77, by decide +kernel, by decide +kernel, by decide +kernel, by decide⟩
theorem wd1326 : Cond.static yL_restrictedInRowByRanges ∈ gW := gW_in 1326 (by decide +kernel) (by decide +kernel)
theorem wd1325 : Cond.methodLink RL 243 yL_restrictedInRowByRanges ∈ gW := gW_in 1325 (by decide +kernel) (by decide +kernel)
theorem wd2013 : Cond.code yX10_restrictedInRowByRanges cX10_restrictedInRowByRanges 2 (some .int) ∈ gW := gW_in 2013 (by decide +kernel) (by decide +kernel)
theorem mvX10_restrictedInRowByRanges : MV yX10_restrictedInRowByRanges cX10_restrictedInRowByRanges 2 (some .int) 1 := ⟨wd2013, wd92, by decide +kernel, by decide +kernel, by decide +kernel, by decide⟩
theorem wd2011 : Cond.instanceMethod yX10_restrictedInRowByRanges ∈ gW := gW_in 2011 (by decide +kernel) (by decide +kernel)
theorem wd2012 : Cond.selects yX10_restrictedInRowByRanges.cls yX10_restrictedInRowByRanges yX10_restrictedInRowByRanges ∈ gW := gW_in 2012 (by decide +kernel) (by decide +kernel)
theorem wd2010 : Cond.methodLink RL 245 yX10_restrictedInRowByRanges ∈ gW := gW_in 2010 (by decide +kernel) (by decide +kernel)
theorem dL_law_1351 : decode cL_law 1351 = .ok (.aload_n 1, 1) := by decide +kernel
theorem dL_law_1352 : decode cL_law 1352 = .ok (.aload_n 0, 1) := by decide +kernel
theorem dL_law_1353 : decode cL_law 1353 = .ok (.iload 5, 2) := by decide +kernel
theorem dL_law_1355 : decode cL_law 1355 = .ok (.iconst 1, 1) := by decide +kernel
theorem dL_law_1356 : decode cL_law 1356 = .ok (.iadd, 1) := by decide +kernel
theorem dL_law_1357 : decode cL_law 1357 = .ok (.iaload, 1) := by decide +kernel
theorem dL_law_1358 : decode cL_law 1358 = .ok (.aload_n 3, 1) := by decide +kernel
theorem dL_law_1359 : decode cL_law 1359 = .ok (.invokestatic 243, 3) := by decide +kernel
theorem dL_law_1362 : decode cL_law 1362 = .ok (.istore 6, 2) := by decide +kernel
theorem dL_law_1364 : decode cL_law 1364 = .ok (.aload_n 2, 1) := by decide +kernel
theorem dL_law_1365 : decode cL_law 1365 = .ok (.aload_n 0, 1) := by decide +kernel
theorem dL_law_1366 : decode cL_law 1366 = .ok (.iload 5, 2) := by decide +kernel
theorem dL_law_1368 : decode cL_law 1368 = .ok (.iconst 1, 1) := by decide +kernel
theorem dL_law_1369 : decode cL_law 1369 = .ok (.iadd, 1) := by decide +kernel
theorem dL_law_1370 : decode cL_law 1370 = .ok (.iaload, 1) := by decide +kernel
theorem dL_law_1371 : decode cL_law 1371 = .ok (.invokevirtual 245, 3) := by decide +kernel
theorem dL_law_1374 : decode cL_law 1374 = .ok (.istore 7, 2) := by decide +kernel
theorem dL_law_1376 : decode cL_law 1376 = .ok (.aload_n 2, 1) := by decide +kernel
theorem dL_law_1377 : decode cL_law 1377 = .ok (.invokevirtual 175, 3) := by decide +kernel
theorem dL_law_1380 : decode cL_law 1380 = .ok (.iload 6, 2) := by decide +kernel
theorem dL_law_1382 : decode cL_law 1382 = .ok (.if_icmp .eq 5, 3) := by decide +kernel
theorem dL_law_1387 : decode cL_law 1387 = .ok (.iload 6, 2) := by decide +kernel
theorem dL_law_1389 : decode cL_law 1389 = .ok (.ifCond .ne 15, 3) := by decide +kernel
theorem dL_law_1392 : decode cL_law 1392 = .ok (.aload_n 3, 1) := by decide +kernel
theorem dL_law_1393 : decode cL_law 1393 = .ok (.iconst 0, 1) := by decide +kernel
theorem dL_law_1394 : decode cL_law 1394 = .ok (.laload, 1) := by decide +kernel
theorem dL_law_1395 : decode cL_law 1395 = .ok (.iload 7, 2) := by decide +kernel
theorem dL_law_1397 : decode cL_law 1397 = .ok (.i2l, 1) := by decide +kernel
theorem dL_law_1398 : decode cL_law 1398 = .ok (.lcmp, 1) := by decide +kernel
theorem dL_law_1399 : decode cL_law 1399 = .ok (.ifCond .eq 5, 3) := by decide +kernel
theorem dL_law_1404 : decode cL_law 1404 = .ok (.goto 1578, 3) := by decide +kernel
theorem wd438 : Cond.code yX9_pilotCount cX9_pilotCount 1 (some .int) ∈ gW := gW_in 438 (by decide +kernel) (by decide +kernel)
theorem mvX9_pilotCount : MV yX9_pilotCount cX9_pilotCount 1 (some .int) 0 := ⟨wd438, wd78, by decide +kernel, by decide +kernel, by decide +kernel, by decide⟩
theorem wd436 : Cond.instanceMethod yX9_pilotCount ∈ gW := gW_in 436 (by decide +kernel) (by decide +kernel)
theorem wd437 : Cond.selects yX9_pilotCount.cls yX9_pilotCount yX9_pilotCount ∈ gW := gW_in 437 (by decide +kernel) (by decide +kernel)
theorem wd435 : Cond.methodLink RL 246 yX9_pilotCount ∈ gW := gW_in 435 (by decide +kernel) (by decide +kernel)
theorem wd2018 : Cond.code yX10_pilotCount cX10_pilotCount 1 (some .int) ∈ gW := gW_in 2018 (by decide +kernel) (by decide +kernel)
theorem mvX10_pilotCount : MV yX10_pilotCount cX10_pilotCount 1 (some .int) 0 := ⟨wd2018, wd92, by decide +kernel, by decide +kernel, by decide +kernel, by decide⟩
theorem wd2016 : Cond.instanceMethod yX10_pilotCount ∈ gW := gW_in 2016 (by decide +kernel) (by decide +kernel)
theorem wd2017 : Cond.selects yX10_pilotCount.cls yX10_pilotCount yX10_pilotCount ∈ gW := gW_in 2017 (by decide +kernel) (by decide +kernel)
theorem wd2015 : Cond.methodLink RL 249 yX10_pilotCount ∈ gW := gW_in 2015 (by decide +kernel) (by decide +kernel)
theorem dL_law_1407 : decode cL_law 1407 = .ok (.aload_n 1, 1) := by decide +kernel
theorem dL_law_1408 : decode cL_law 1408 = .ok (.invokevirtual 246, 3) := by decide +kernel
theorem dL_law_1411 : decode cL_law 1411 = .ok (.aload_n 2, 1) := by decide +kernel
theorem dL_law_1412 : decode cL_law 1412 = .ok (.invokevirtual 249, 3) := by decide +kernel
theorem dL_law_1415 : decode cL_law 1415 = .ok (.if_icmp .eq 1567, 3) := by decide +kernel
theorem wd442 : Cond.code yX9_isPlanning cX9_isPlanning 1 (some .boolean) ∈ gW := gW_in 442 (by decide +kernel) (by decide +kernel)
theorem mvX9_isPlanning : MV yX9_isPlanning cX9_isPlanning 1 (some .boolean) 0 := ⟨wd442, wd78, by decide +kernel, by decide +kernel, by decide +kernel, by decide⟩
theorem wd440 : Cond.instanceMethod yX9_isPlanning ∈ gW := gW_in 440 (by decide +kernel) (by decide +kernel)
theorem wd441 : Cond.selects yX9_isPlanning.cls yX9_isPlanning yX9_isPlanning ∈ gW := gW_in 441 (by decide +kernel) (by decide +kernel)
theorem wd439 : Cond.methodLink RL 250 yX9_isPlanning ∈ gW := gW_in 439 (by decide +kernel) (by decide +kernel)
theorem wd2022 : Cond.code yX10_isPlanning cX10_isPlanning 1 (some .boolean) ∈ gW := gW_in 2022 (by decide +kernel) (by decide +kernel)
theorem mvX10_isPlanning : MV yX10_isPlanning cX10_isPlanning 1 (some .boolean) 0 := ⟨wd2022, wd92, by decide +kernel, by decide +kernel, by decide +kernel, by decide⟩
theorem wd2020 : Cond.instanceMethod yX10_isPlanning ∈ gW := gW_in 2020 (by decide +kernel) (by decide +kernel)
theorem wd2021 : Cond.selects yX10_isPlanning.cls yX10_isPlanning yX10_isPlanning ∈ gW := gW_in 2021 (by decide +kernel) (by decide +kernel)
theorem wd2019 : Cond.methodLink RL 254 yX10_isPlanning ∈ gW := gW_in 2019 (by decide +kernel) (by decide +kernel)
theorem dL_law_1420 : decode cL_law 1420 = .ok (.aload_n 1, 1) := by decide +kernel
theorem dL_law_1421 : decode cL_law 1421 = .ok (.invokevirtual 250, 3) := by decide +kernel
theorem dL_law_1424 : decode cL_law 1424 = .ok (.aload_n 2, 1) := by decide +kernel
theorem dL_law_1425 : decode cL_law 1425 = .ok (.invokevirtual 254, 3) := by decide +kernel
theorem dL_law_1428 : decode cL_law 1428 = .ok (.if_icmp .eq 1554, 3) := by decide +kernel
theorem wd1335 : Cond.codeWith yL_isFlying cL_isFlying 4 (some .int) [(0, 16, 19, 21)] ∈ gW := gW_in 1335 (by decide +kernel) (by decide +kernel)
theorem mvwL_isFlying : MVW yL_isFlying cL_isFlying 4 (some .int) [(0, 16, 19, 21)] 3 := ⟨wd1335, wd77, by decide +kernel, by decide +kernel, by decide +kernel, by decide⟩
theorem wd1334 : Cond.static yL_isFlying ∈ gW := gW_in 1334 (by decide +kernel) (by decide +kernel)
theorem wd1333 : Cond.methodLink RL 255 yL_isFlying ∈ gW := gW_in 1333 (by decide +kernel) (by decide +kernel)
theorem wd2026 : Cond.code yX10_isFlying cX10_isFlying 2 (some .boolean) ∈ gW := gW_in 2026 (by decide +kernel) (by decide +kernel)
theorem mvX10_isFlying : MV yX10_isFlying cX10_isFlying 2 (some .boolean) 1 := ⟨wd2026, wd92, by decide +kernel, by decide +kernel, by decide +kernel, by decide⟩
theorem wd2024 : Cond.instanceMethod yX10_isFlying ∈ gW := gW_in 2024 (by decide +kernel) (by decide +kernel)
theorem wd2025 : Cond.selects yX10_isFlying.cls yX10_isFlying yX10_isFlying ∈ gW := gW_in 2025 (by decide +kernel) (by decide +kernel)
theorem wd2023 : Cond.methodLink RL 257 yX10_isFlying ∈ gW := gW_in 2023 (by decide +kernel) (by decide +kernel)
theorem dL_law_1433 : decode cL_law 1433 = .ok (.aload_n 1, 1) := by decide +kernel
theorem dL_law_1434 : decode cL_law 1434 = .ok (.aload_n 0, 1) := by decide +kernel
theorem dL_law_1435 : decode cL_law 1435 = .ok (.iload 5, 2) := by decide +kernel
theorem dL_law_1437 : decode cL_law 1437 = .ok (.iconst 1, 1) := by decide +kernel
theorem dL_law_1438 : decode cL_law 1438 = .ok (.iadd, 1) := by decide +kernel
theorem dL_law_1439 : decode cL_law 1439 = .ok (.iaload, 1) := by decide +kernel
theorem dL_law_1440 : decode cL_law 1440 = .ok (.aload_n 3, 1) := by decide +kernel
theorem dL_law_1441 : decode cL_law 1441 = .ok (.invokestatic 255, 3) := by decide +kernel
theorem dL_law_1444 : decode cL_law 1444 = .ok (.istore 6, 2) := by decide +kernel
theorem dL_law_1446 : decode cL_law 1446 = .ok (.aload_n 2, 1) := by decide +kernel
theorem dL_law_1447 : decode cL_law 1447 = .ok (.aload_n 0, 1) := by decide +kernel
theorem dL_law_1448 : decode cL_law 1448 = .ok (.iload 5, 2) := by decide +kernel
theorem dL_law_1450 : decode cL_law 1450 = .ok (.iconst 1, 1) := by decide +kernel
theorem dL_law_1451 : decode cL_law 1451 = .ok (.iadd, 1) := by decide +kernel
theorem dL_law_1452 : decode cL_law 1452 = .ok (.iaload, 1) := by decide +kernel
theorem dL_law_1453 : decode cL_law 1453 = .ok (.invokevirtual 257, 3) := by decide +kernel
theorem dL_law_1456 : decode cL_law 1456 = .ok (.istore 7, 2) := by decide +kernel
theorem dL_law_1458 : decode cL_law 1458 = .ok (.aload_n 2, 1) := by decide +kernel
theorem dL_law_1459 : decode cL_law 1459 = .ok (.invokevirtual 175, 3) := by decide +kernel
theorem dL_law_1462 : decode cL_law 1462 = .ok (.iload 6, 2) := by decide +kernel
theorem dL_law_1464 : decode cL_law 1464 = .ok (.if_icmp .eq 5, 3) := by decide +kernel
theorem dL_law_1469 : decode cL_law 1469 = .ok (.iload 6, 2) := by decide +kernel
theorem dL_law_1471 : decode cL_law 1471 = .ok (.ifCond .ne 22, 3) := by decide +kernel
theorem dL_law_1474 : decode cL_law 1474 = .ok (.aload_n 3, 1) := by decide +kernel
theorem dL_law_1475 : decode cL_law 1475 = .ok (.iconst 0, 1) := by decide +kernel
theorem dL_law_1476 : decode cL_law 1476 = .ok (.laload, 1) := by decide +kernel
theorem dL_law_1477 : decode cL_law 1477 = .ok (.iload 7, 2) := by decide +kernel
theorem dL_law_1479 : decode cL_law 1479 = .ok (.ifCond .eq 7, 3) := by decide +kernel
theorem dL_law_1482 : decode cL_law 1482 = .ok (.lconst 1, 1) := by decide +kernel
theorem dL_law_1483 : decode cL_law 1483 = .ok (.goto 4, 3) := by decide +kernel
theorem dL_law_1486 : decode cL_law 1486 = .ok (.lconst 0, 1) := by decide +kernel
theorem dL_law_1487 : decode cL_law 1487 = .ok (.lcmp, 1) := by decide +kernel
theorem dL_law_1488 : decode cL_law 1488 = .ok (.ifCond .eq 5, 3) := by decide +kernel
theorem dL_law_1493 : decode cL_law 1493 = .ok (.goto 1489, 3) := by decide +kernel
theorem wd1349 : Cond.codeWith yL_isLanded cL_isLanded 4 (some .int) [(0, 16, 19, 21)] ∈ gW := gW_in 1349 (by decide +kernel) (by decide +kernel)
theorem mvwL_isLanded : MVW yL_isLanded cL_isLanded 4 (some .int) [(0, 16, 19, 21)] 3 := ⟨wd1349, wd77, by decide +kernel, by decide +kernel, by decide +kernel, by decide⟩
theorem wd1348 : Cond.static yL_isLanded ∈ gW := gW_in 1348 (by decide +kernel) (by decide +kernel)
theorem wd1347 : Cond.methodLink RL 258 yL_isLanded ∈ gW := gW_in 1347 (by decide +kernel) (by decide +kernel)
theorem wd2034 : Cond.code yX10_isLanded cX10_isLanded 2 (some .boolean) ∈ gW := gW_in 2034 (by decide +kernel) (by decide +kernel)
theorem mvX10_isLanded : MV yX10_isLanded cX10_isLanded 2 (some .boolean) 1 := ⟨wd2034, wd92, by decide +kernel, by decide +kernel, by decide +kernel, by decide⟩
theorem wd2032 : Cond.instanceMethod yX10_isLanded ∈ gW := gW_in 2032 (by decide +kernel) (by decide +kernel)
theorem wd2033 : Cond.selects yX10_isLanded.cls yX10_isLanded yX10_isLanded ∈ gW := gW_in 2033 (by decide +kernel) (by decide +kernel)
theorem wd2031 : Cond.methodLink RL 260 yX10_isLanded ∈ gW := gW_in 2031 (by decide +kernel) (by decide +kernel)
theorem dL_law_1496 : decode cL_law 1496 = .ok (.aload_n 1, 1) := by decide +kernel
theorem dL_law_1497 : decode cL_law 1497 = .ok (.aload_n 0, 1) := by decide +kernel
theorem dL_law_1498 : decode cL_law 1498 = .ok (.iload 5, 2) := by decide +kernel
theorem dL_law_1500 : decode cL_law 1500 = .ok (.iconst 1, 1) := by decide +kernel
theorem dL_law_1501 : decode cL_law 1501 = .ok (.iadd, 1) := by decide +kernel
theorem dL_law_1502 : decode cL_law 1502 = .ok (.iaload, 1) := by decide +kernel
theorem dL_law_1503 : decode cL_law 1503 = .ok (.aload_n 3, 1) := by decide +kernel
theorem dL_law_1504 : decode cL_law 1504 = .ok (.invokestatic 258, 3) := by decide +kernel
theorem dL_law_1507 : decode cL_law 1507 = .ok (.istore 6, 2) := by decide +kernel
theorem dL_law_1509 : decode cL_law 1509 = .ok (.aload_n 2, 1) := by decide +kernel
theorem dL_law_1510 : decode cL_law 1510 = .ok (.aload_n 0, 1) := by decide +kernel
theorem dL_law_1511 : decode cL_law 1511 = .ok (.iload 5, 2) := by decide +kernel
theorem dL_law_1513 : decode cL_law 1513 = .ok (.iconst 1, 1) := by decide +kernel
theorem dL_law_1514 : decode cL_law 1514 = .ok (.iadd, 1) := by decide +kernel
theorem dL_law_1515 : decode cL_law 1515 = .ok (.iaload, 1) := by decide +kernel
theorem dL_law_1516 : decode cL_law 1516 = .ok (.invokevirtual 260, 3) := by decide +kernel
theorem dL_law_1519 : decode cL_law 1519 = .ok (.istore 7, 2) := by decide +kernel
theorem dL_law_1521 : decode cL_law 1521 = .ok (.aload_n 2, 1) := by decide +kernel
theorem dL_law_1522 : decode cL_law 1522 = .ok (.invokevirtual 175, 3) := by decide +kernel
theorem dL_law_1525 : decode cL_law 1525 = .ok (.iload 6, 2) := by decide +kernel
theorem dL_law_1527 : decode cL_law 1527 = .ok (.if_icmp .eq 5, 3) := by decide +kernel
theorem dL_law_1532 : decode cL_law 1532 = .ok (.iload 6, 2) := by decide +kernel
theorem dL_law_1534 : decode cL_law 1534 = .ok (.ifCond .ne 22, 3) := by decide +kernel
theorem dL_law_1537 : decode cL_law 1537 = .ok (.aload_n 3, 1) := by decide +kernel
theorem dL_law_1538 : decode cL_law 1538 = .ok (.iconst 0, 1) := by decide +kernel
theorem dL_law_1539 : decode cL_law 1539 = .ok (.laload, 1) := by decide +kernel
theorem dL_law_1540 : decode cL_law 1540 = .ok (.iload 7, 2) := by decide +kernel
theorem dL_law_1542 : decode cL_law 1542 = .ok (.ifCond .eq 7, 3) := by decide +kernel
theorem dL_law_1545 : decode cL_law 1545 = .ok (.lconst 1, 1) := by decide +kernel
theorem dL_law_1546 : decode cL_law 1546 = .ok (.goto 4, 3) := by decide +kernel
theorem dL_law_1549 : decode cL_law 1549 = .ok (.lconst 0, 1) := by decide +kernel
theorem dL_law_1550 : decode cL_law 1550 = .ok (.lcmp, 1) := by decide +kernel
theorem dL_law_1551 : decode cL_law 1551 = .ok (.ifCond .eq 5, 3) := by decide +kernel
theorem dL_law_1556 : decode cL_law 1556 = .ok (.goto 1426, 3) := by decide +kernel
theorem wd1357 : Cond.codeWith yL_isFinished cL_isFinished 4 (some .int) [(0, 16, 19, 21)] ∈ gW := gW_in 1357 (by decide +kernel) (by decide +kernel)
theorem mvwL_isFinished : MVW yL_isFinished cL_isFinished 4 (some .int) [(0, 16, 19, 21)] 3 := ⟨wd1357, wd77, by decide +kernel, by decide +kernel, by decide +kernel, by decide⟩
theorem wd1356 : Cond.static yL_isFinished ∈ gW := gW_in 1356 (by decide +kernel) (by decide +kernel)
theorem wd1355 : Cond.methodLink RL 261 yL_isFinished ∈ gW := gW_in 1355 (by decide +kernel) (by decide +kernel)
theorem wd2038 : Cond.code yX10_isFinished cX10_isFinished 2 (some .boolean) ∈ gW := gW_in 2038 (by decide +kernel) (by decide +kernel)
theorem mvX10_isFinished : MV yX10_isFinished cX10_isFinished 2 (some .boolean) 1 := ⟨wd2038, wd92, by decide +kernel, by decide +kernel, by decide +kernel, by decide⟩
theorem wd2036 : Cond.instanceMethod yX10_isFinished ∈ gW := gW_in 2036 (by decide +kernel) (by decide +kernel)
theorem wd2037 : Cond.selects yX10_isFinished.cls yX10_isFinished yX10_isFinished ∈ gW := gW_in 2037 (by decide +kernel) (by decide +kernel)
theorem wd2035 : Cond.methodLink RL 263 yX10_isFinished ∈ gW := gW_in 2035 (by decide +kernel) (by decide +kernel)
theorem dL_law_1559 : decode cL_law 1559 = .ok (.aload_n 1, 1) := by decide +kernel
theorem dL_law_1560 : decode cL_law 1560 = .ok (.aload_n 0, 1) := by decide +kernel
theorem dL_law_1561 : decode cL_law 1561 = .ok (.iload 5, 2) := by decide +kernel
theorem dL_law_1563 : decode cL_law 1563 = .ok (.iconst 1, 1) := by decide +kernel
theorem dL_law_1564 : decode cL_law 1564 = .ok (.iadd, 1) := by decide +kernel
theorem dL_law_1565 : decode cL_law 1565 = .ok (.iaload, 1) := by decide +kernel
theorem dL_law_1566 : decode cL_law 1566 = .ok (.aload_n 3, 1) := by decide +kernel
theorem dL_law_1567 : decode cL_law 1567 = .ok (.invokestatic 261, 3) := by decide +kernel
theorem dL_law_1570 : decode cL_law 1570 = .ok (.istore 6, 2) := by decide +kernel
theorem dL_law_1572 : decode cL_law 1572 = .ok (.aload_n 2, 1) := by decide +kernel
theorem dL_law_1573 : decode cL_law 1573 = .ok (.aload_n 0, 1) := by decide +kernel
theorem dL_law_1574 : decode cL_law 1574 = .ok (.iload 5, 2) := by decide +kernel
theorem dL_law_1576 : decode cL_law 1576 = .ok (.iconst 1, 1) := by decide +kernel
theorem dL_law_1577 : decode cL_law 1577 = .ok (.iadd, 1) := by decide +kernel
theorem dL_law_1578 : decode cL_law 1578 = .ok (.iaload, 1) := by decide +kernel
theorem dL_law_1579 : decode cL_law 1579 = .ok (.invokevirtual 263, 3) := by decide +kernel
theorem dL_law_1582 : decode cL_law 1582 = .ok (.istore 7, 2) := by decide +kernel
theorem dL_law_1584 : decode cL_law 1584 = .ok (.aload_n 2, 1) := by decide +kernel
theorem dL_law_1585 : decode cL_law 1585 = .ok (.invokevirtual 175, 3) := by decide +kernel
theorem dL_law_1588 : decode cL_law 1588 = .ok (.iload 6, 2) := by decide +kernel
theorem dL_law_1590 : decode cL_law 1590 = .ok (.if_icmp .eq 5, 3) := by decide +kernel
theorem dL_law_1595 : decode cL_law 1595 = .ok (.iload 6, 2) := by decide +kernel
theorem dL_law_1597 : decode cL_law 1597 = .ok (.ifCond .ne 22, 3) := by decide +kernel
theorem dL_law_1600 : decode cL_law 1600 = .ok (.aload_n 3, 1) := by decide +kernel
theorem dL_law_1601 : decode cL_law 1601 = .ok (.iconst 0, 1) := by decide +kernel
theorem dL_law_1602 : decode cL_law 1602 = .ok (.laload, 1) := by decide +kernel
theorem dL_law_1603 : decode cL_law 1603 = .ok (.iload 7, 2) := by decide +kernel
theorem dL_law_1605 : decode cL_law 1605 = .ok (.ifCond .eq 7, 3) := by decide +kernel
theorem dL_law_1608 : decode cL_law 1608 = .ok (.lconst 1, 1) := by decide +kernel
theorem dL_law_1609 : decode cL_law 1609 = .ok (.goto 4, 3) := by decide +kernel
theorem dL_law_1612 : decode cL_law 1612 = .ok (.lconst 0, 1) := by decide +kernel
theorem dL_law_1613 : decode cL_law 1613 = .ok (.lcmp, 1) := by decide +kernel
theorem dL_law_1614 : decode cL_law 1614 = .ok (.ifCond .eq 5, 3) := by decide +kernel
theorem dL_law_1619 : decode cL_law 1619 = .ok (.goto 1363, 3) := by decide +kernel
theorem wd1365 : Cond.codeWith yL_sink cL_sink 4 (some .int) [(0, 9, 12, 21)] ∈ gW := gW_in 1365 (by decide +kernel) (by decide +kernel)
theorem mvwL_sink : MVW yL_sink cL_sink 4 (some .int) [(0, 9, 12, 21)] 3 := ⟨wd1365, wd77, by decide +kernel, by decide +kernel, by decide +kernel, by decide⟩
theorem wd1364 : Cond.static yL_sink ∈ gW := gW_in 1364 (by decide +kernel) (by decide +kernel)
theorem wd1363 : Cond.methodLink RL 264 yL_sink ∈ gW := gW_in 1363 (by decide +kernel) (by decide +kernel)
theorem wd2042 : Cond.code yX10_sink cX10_sink 2 (some .int) ∈ gW := gW_in 2042 (by decide +kernel) (by decide +kernel)
theorem mvX10_sink : MV yX10_sink cX10_sink 2 (some .int) 1 := ⟨wd2042, wd92, by decide +kernel, by decide +kernel, by decide +kernel, by decide⟩
theorem wd2040 : Cond.instanceMethod yX10_sink ∈ gW := gW_in 2040 (by decide +kernel) (by decide +kernel)
theorem wd2041 : Cond.selects yX10_sink.cls yX10_sink yX10_sink ∈ gW := gW_in 2041 (by decide +kernel) (by decide +kernel)
theorem wd2039 : Cond.methodLink RL 266 yX10_sink ∈ gW := gW_in 2039 (by decide +kernel) (by decide +kernel)
theorem dL_law_1622 : decode cL_law 1622 = .ok (.aload_n 1, 1) := by decide +kernel
theorem dL_law_1623 : decode cL_law 1623 = .ok (.aload_n 0, 1) := by decide +kernel
theorem dL_law_1624 : decode cL_law 1624 = .ok (.iload 5, 2) := by decide +kernel
theorem dL_law_1626 : decode cL_law 1626 = .ok (.iconst 1, 1) := by decide +kernel
theorem dL_law_1627 : decode cL_law 1627 = .ok (.iadd, 1) := by decide +kernel
theorem dL_law_1628 : decode cL_law 1628 = .ok (.iaload, 1) := by decide +kernel
theorem dL_law_1629 : decode cL_law 1629 = .ok (.aload_n 3, 1) := by decide +kernel
theorem dL_law_1630 : decode cL_law 1630 = .ok (.invokestatic 264, 3) := by decide +kernel
theorem dL_law_1633 : decode cL_law 1633 = .ok (.istore 6, 2) := by decide +kernel
theorem dL_law_1635 : decode cL_law 1635 = .ok (.aload_n 2, 1) := by decide +kernel
theorem dL_law_1636 : decode cL_law 1636 = .ok (.aload_n 0, 1) := by decide +kernel
theorem dL_law_1637 : decode cL_law 1637 = .ok (.iload 5, 2) := by decide +kernel
theorem dL_law_1639 : decode cL_law 1639 = .ok (.iconst 1, 1) := by decide +kernel
theorem dL_law_1640 : decode cL_law 1640 = .ok (.iadd, 1) := by decide +kernel
theorem dL_law_1641 : decode cL_law 1641 = .ok (.iaload, 1) := by decide +kernel
theorem dL_law_1642 : decode cL_law 1642 = .ok (.invokevirtual 266, 3) := by decide +kernel
theorem dL_law_1645 : decode cL_law 1645 = .ok (.istore 7, 2) := by decide +kernel
theorem dL_law_1647 : decode cL_law 1647 = .ok (.aload_n 2, 1) := by decide +kernel
theorem dL_law_1648 : decode cL_law 1648 = .ok (.invokevirtual 175, 3) := by decide +kernel
theorem dL_law_1651 : decode cL_law 1651 = .ok (.iload 6, 2) := by decide +kernel
theorem dL_law_1653 : decode cL_law 1653 = .ok (.if_icmp .eq 5, 3) := by decide +kernel
theorem dL_law_1658 : decode cL_law 1658 = .ok (.iload 6, 2) := by decide +kernel
theorem dL_law_1660 : decode cL_law 1660 = .ok (.ifCond .ne 15, 3) := by decide +kernel
theorem dL_law_1663 : decode cL_law 1663 = .ok (.aload_n 3, 1) := by decide +kernel
theorem dL_law_1664 : decode cL_law 1664 = .ok (.iconst 0, 1) := by decide +kernel
theorem dL_law_1665 : decode cL_law 1665 = .ok (.laload, 1) := by decide +kernel
theorem dL_law_1666 : decode cL_law 1666 = .ok (.iload 7, 2) := by decide +kernel
theorem dL_law_1668 : decode cL_law 1668 = .ok (.i2l, 1) := by decide +kernel
theorem dL_law_1669 : decode cL_law 1669 = .ok (.lcmp, 1) := by decide +kernel
theorem dL_law_1670 : decode cL_law 1670 = .ok (.ifCond .eq 5, 3) := by decide +kernel
theorem dL_law_1675 : decode cL_law 1675 = .ok (.goto 1307, 3) := by decide +kernel
theorem wd1373 : Cond.codeWith yL_x cL_x 4 (some .int) [(0, 9, 12, 21), (0, 9, 15, 15)] ∈ gW := gW_in 1373 (by decide +kernel) (by decide +kernel)
theorem mvwL_x : MVW yL_x cL_x 4 (some .int) [(0, 9, 12, 21), (0, 9, 15, 15)] 3 := ⟨wd1373, wd77, by decide +kernel, by decide +kernel, by decide +kernel, by decide⟩
theorem wd1372 : Cond.static yL_x ∈ gW := gW_in 1372 (by decide +kernel) (by decide +kernel)
theorem wd1371 : Cond.methodLink RL 267 yL_x ∈ gW := gW_in 1371 (by decide +kernel) (by decide +kernel)
theorem wd2046 : Cond.code yX10_x cX10_x 2 (some .int) ∈ gW := gW_in 2046 (by decide +kernel) (by decide +kernel)
theorem mvX10_x : MV yX10_x cX10_x 2 (some .int) 1 := ⟨wd2046, wd92, by decide +kernel, by decide +kernel, by decide +kernel, by decide⟩
theorem wd2044 : Cond.instanceMethod yX10_x ∈ gW := gW_in 2044 (by decide +kernel) (by decide +kernel)
theorem wd2045 : Cond.selects yX10_x.cls yX10_x yX10_x ∈ gW := gW_in 2045 (by decide +kernel) (by decide +kernel)
theorem wd2043 : Cond.methodLink RL 269 yX10_x ∈ gW := gW_in 2043 (by decide +kernel) (by decide +kernel)
theorem dL_law_1678 : decode cL_law 1678 = .ok (.aload_n 1, 1) := by decide +kernel
theorem dL_law_1679 : decode cL_law 1679 = .ok (.aload_n 0, 1) := by decide +kernel
theorem dL_law_1680 : decode cL_law 1680 = .ok (.iload 5, 2) := by decide +kernel
theorem dL_law_1682 : decode cL_law 1682 = .ok (.iconst 1, 1) := by decide +kernel
theorem dL_law_1683 : decode cL_law 1683 = .ok (.iadd, 1) := by decide +kernel
theorem dL_law_1684 : decode cL_law 1684 = .ok (.iaload, 1) := by decide +kernel
theorem dL_law_1685 : decode cL_law 1685 = .ok (.aload_n 3, 1) := by decide +kernel
theorem dL_law_1686 : decode cL_law 1686 = .ok (.invokestatic 267, 3) := by decide +kernel
theorem dL_law_1689 : decode cL_law 1689 = .ok (.istore 6, 2) := by decide +kernel
theorem dL_law_1691 : decode cL_law 1691 = .ok (.aload_n 2, 1) := by decide +kernel
theorem dL_law_1692 : decode cL_law 1692 = .ok (.aload_n 0, 1) := by decide +kernel
theorem dL_law_1693 : decode cL_law 1693 = .ok (.iload 5, 2) := by decide +kernel
theorem dL_law_1695 : decode cL_law 1695 = .ok (.iconst 1, 1) := by decide +kernel
theorem dL_law_1696 : decode cL_law 1696 = .ok (.iadd, 1) := by decide +kernel
theorem dL_law_1697 : decode cL_law 1697 = .ok (.iaload, 1) := by decide +kernel
theorem dL_law_1698 : decode cL_law 1698 = .ok (.invokevirtual 269, 3) := by decide +kernel
theorem dL_law_1701 : decode cL_law 1701 = .ok (.istore 7, 2) := by decide +kernel
theorem dL_law_1703 : decode cL_law 1703 = .ok (.aload_n 2, 1) := by decide +kernel
theorem dL_law_1704 : decode cL_law 1704 = .ok (.invokevirtual 175, 3) := by decide +kernel
theorem dL_law_1707 : decode cL_law 1707 = .ok (.iload 6, 2) := by decide +kernel
theorem dL_law_1709 : decode cL_law 1709 = .ok (.if_icmp .eq 5, 3) := by decide +kernel
theorem dL_law_1714 : decode cL_law 1714 = .ok (.iload 6, 2) := by decide +kernel
theorem dL_law_1716 : decode cL_law 1716 = .ok (.ifCond .ne 15, 3) := by decide +kernel
theorem dL_law_1719 : decode cL_law 1719 = .ok (.aload_n 3, 1) := by decide +kernel
theorem dL_law_1720 : decode cL_law 1720 = .ok (.iconst 0, 1) := by decide +kernel
theorem dL_law_1721 : decode cL_law 1721 = .ok (.laload, 1) := by decide +kernel
theorem dL_law_1722 : decode cL_law 1722 = .ok (.iload 7, 2) := by decide +kernel
theorem dL_law_1724 : decode cL_law 1724 = .ok (.i2l, 1) := by decide +kernel
theorem dL_law_1725 : decode cL_law 1725 = .ok (.lcmp, 1) := by decide +kernel
theorem dL_law_1726 : decode cL_law 1726 = .ok (.ifCond .eq 5, 3) := by decide +kernel
theorem dL_law_1731 : decode cL_law 1731 = .ok (.goto 1251, 3) := by decide +kernel
theorem wd1386 : Cond.codeWith yL_y cL_y 4 (some .int) [(0, 9, 12, 21), (0, 9, 15, 15)] ∈ gW := gW_in 1386 (by decide +kernel) (by decide +kernel)
theorem mvwL_y : MVW yL_y cL_y 4 (some .int) [(0, 9, 12, 21), (0, 9, 15, 15)] 3 := ⟨wd1386, wd77, by decide +kernel, by decide +kernel, by decide +kernel, by decide⟩
theorem wd1385 : Cond.static yL_y ∈ gW := gW_in 1385 (by decide +kernel) (by decide +kernel)
theorem wd1384 : Cond.methodLink RL 270 yL_y ∈ gW := gW_in 1384 (by decide +kernel) (by decide +kernel)
theorem wd2054 : Cond.code yX10_y cX10_y 2 (some .int) ∈ gW := gW_in 2054 (by decide +kernel) (by decide +kernel)
theorem mvX10_y : MV yX10_y cX10_y 2 (some .int) 1 := ⟨wd2054, wd92, by decide +kernel, by decide +kernel, by decide +kernel, by decide⟩
theorem wd2052 : Cond.instanceMethod yX10_y ∈ gW := gW_in 2052 (by decide +kernel) (by decide +kernel)
theorem wd2053 : Cond.selects yX10_y.cls yX10_y yX10_y ∈ gW := gW_in 2053 (by decide +kernel) (by decide +kernel)
theorem wd2051 : Cond.methodLink RL 272 yX10_y ∈ gW := gW_in 2051 (by decide +kernel) (by decide +kernel)
theorem dL_law_1734 : decode cL_law 1734 = .ok (.aload_n 1, 1) := by decide +kernel
theorem dL_law_1735 : decode cL_law 1735 = .ok (.aload_n 0, 1) := by decide +kernel
theorem dL_law_1736 : decode cL_law 1736 = .ok (.iload 5, 2) := by decide +kernel
theorem dL_law_1738 : decode cL_law 1738 = .ok (.iconst 1, 1) := by decide +kernel
theorem dL_law_1739 : decode cL_law 1739 = .ok (.iadd, 1) := by decide +kernel
theorem dL_law_1740 : decode cL_law 1740 = .ok (.iaload, 1) := by decide +kernel
theorem dL_law_1741 : decode cL_law 1741 = .ok (.aload_n 3, 1) := by decide +kernel
theorem dL_law_1742 : decode cL_law 1742 = .ok (.invokestatic 270, 3) := by decide +kernel
theorem dL_law_1745 : decode cL_law 1745 = .ok (.istore 6, 2) := by decide +kernel
theorem dL_law_1747 : decode cL_law 1747 = .ok (.aload_n 2, 1) := by decide +kernel
theorem dL_law_1748 : decode cL_law 1748 = .ok (.aload_n 0, 1) := by decide +kernel
theorem dL_law_1749 : decode cL_law 1749 = .ok (.iload 5, 2) := by decide +kernel
theorem dL_law_1751 : decode cL_law 1751 = .ok (.iconst 1, 1) := by decide +kernel
theorem dL_law_1752 : decode cL_law 1752 = .ok (.iadd, 1) := by decide +kernel
theorem dL_law_1753 : decode cL_law 1753 = .ok (.iaload, 1) := by decide +kernel
theorem dL_law_1754 : decode cL_law 1754 = .ok (.invokevirtual 272, 3) := by decide +kernel
theorem dL_law_1757 : decode cL_law 1757 = .ok (.istore 7, 2) := by decide +kernel
theorem dL_law_1759 : decode cL_law 1759 = .ok (.aload_n 2, 1) := by decide +kernel
theorem dL_law_1760 : decode cL_law 1760 = .ok (.invokevirtual 175, 3) := by decide +kernel
theorem dL_law_1763 : decode cL_law 1763 = .ok (.iload 6, 2) := by decide +kernel
theorem dL_law_1765 : decode cL_law 1765 = .ok (.if_icmp .eq 5, 3) := by decide +kernel
theorem dL_law_1770 : decode cL_law 1770 = .ok (.iload 6, 2) := by decide +kernel
theorem dL_law_1772 : decode cL_law 1772 = .ok (.ifCond .ne 15, 3) := by decide +kernel
theorem dL_law_1775 : decode cL_law 1775 = .ok (.aload_n 3, 1) := by decide +kernel
theorem dL_law_1776 : decode cL_law 1776 = .ok (.iconst 0, 1) := by decide +kernel
theorem dL_law_1777 : decode cL_law 1777 = .ok (.laload, 1) := by decide +kernel
theorem dL_law_1778 : decode cL_law 1778 = .ok (.iload 7, 2) := by decide +kernel
theorem dL_law_1780 : decode cL_law 1780 = .ok (.i2l, 1) := by decide +kernel
theorem dL_law_1781 : decode cL_law 1781 = .ok (.lcmp, 1) := by decide +kernel
theorem dL_law_1782 : decode cL_law 1782 = .ok (.ifCond .eq 5, 3) := by decide +kernel
theorem dL_law_1787 : decode cL_law 1787 = .ok (.goto 1195, 3) := by decide +kernel
theorem wd1393 : Cond.codeWith yL_height cL_height 4 (some .int) [(0, 9, 12, 21), (0, 9, 15, 15)] ∈ gW := gW_in 1393 (by decide +kernel) (by decide +kernel)
theorem mvwL_height : MVW yL_height cL_height 4 (some .int) [(0, 9, 12, 21), (0, 9, 15, 15)] 3 := ⟨wd1393, wd77, by decide +kernel, by decide +kernel, by decide +kernel, by decide⟩
theorem wd1392 : Cond.static yL_height ∈ gW := gW_in 1392 (by decide +kernel) (by decide +kernel)
theorem wd1391 : Cond.methodLink RL 273 yL_height ∈ gW := gW_in 1391 (by decide +kernel) (by decide +kernel)
theorem wd2058 : Cond.code yX10_height cX10_height 2 (some .int) ∈ gW := gW_in 2058 (by decide +kernel) (by decide +kernel)
theorem mvX10_height : MV yX10_height cX10_height 2 (some .int) 1 := ⟨wd2058, wd92, by decide +kernel, by decide +kernel, by decide +kernel, by decide⟩
theorem wd2056 : Cond.instanceMethod yX10_height ∈ gW := gW_in 2056 (by decide +kernel) (by decide +kernel)
theorem wd2057 : Cond.selects yX10_height.cls yX10_height yX10_height ∈ gW := gW_in 2057 (by decide +kernel) (by decide +kernel)
theorem wd2055 : Cond.methodLink RL 275 yX10_height ∈ gW := gW_in 2055 (by decide +kernel) (by decide +kernel)
theorem dL_law_1790 : decode cL_law 1790 = .ok (.aload_n 1, 1) := by decide +kernel
theorem dL_law_1791 : decode cL_law 1791 = .ok (.aload_n 0, 1) := by decide +kernel
theorem dL_law_1792 : decode cL_law 1792 = .ok (.iload 5, 2) := by decide +kernel
theorem dL_law_1794 : decode cL_law 1794 = .ok (.iconst 1, 1) := by decide +kernel
theorem dL_law_1795 : decode cL_law 1795 = .ok (.iadd, 1) := by decide +kernel
theorem dL_law_1796 : decode cL_law 1796 = .ok (.iaload, 1) := by decide +kernel
theorem dL_law_1797 : decode cL_law 1797 = .ok (.aload_n 3, 1) := by decide +kernel
theorem dL_law_1798 : decode cL_law 1798 = .ok (.invokestatic 273, 3) := by decide +kernel
theorem dL_law_1801 : decode cL_law 1801 = .ok (.istore 6, 2) := by decide +kernel
theorem dL_law_1803 : decode cL_law 1803 = .ok (.aload_n 2, 1) := by decide +kernel
theorem dL_law_1804 : decode cL_law 1804 = .ok (.aload_n 0, 1) := by decide +kernel
theorem dL_law_1805 : decode cL_law 1805 = .ok (.iload 5, 2) := by decide +kernel
theorem dL_law_1807 : decode cL_law 1807 = .ok (.iconst 1, 1) := by decide +kernel
theorem dL_law_1808 : decode cL_law 1808 = .ok (.iadd, 1) := by decide +kernel
theorem dL_law_1809 : decode cL_law 1809 = .ok (.iaload, 1) := by decide +kernel
theorem dL_law_1810 : decode cL_law 1810 = .ok (.invokevirtual 275, 3) := by decide +kernel
theorem dL_law_1813 : decode cL_law 1813 = .ok (.istore 7, 2) := by decide +kernel
theorem dL_law_1815 : decode cL_law 1815 = .ok (.aload_n 2, 1) := by decide +kernel
theorem dL_law_1816 : decode cL_law 1816 = .ok (.invokevirtual 175, 3) := by decide +kernel
theorem dL_law_1819 : decode cL_law 1819 = .ok (.iload 6, 2) := by decide +kernel
theorem dL_law_1821 : decode cL_law 1821 = .ok (.if_icmp .eq 5, 3) := by decide +kernel
theorem dL_law_1826 : decode cL_law 1826 = .ok (.iload 6, 2) := by decide +kernel
theorem dL_law_1828 : decode cL_law 1828 = .ok (.ifCond .ne 15, 3) := by decide +kernel
theorem dL_law_1831 : decode cL_law 1831 = .ok (.aload_n 3, 1) := by decide +kernel
theorem dL_law_1832 : decode cL_law 1832 = .ok (.iconst 0, 1) := by decide +kernel
theorem dL_law_1833 : decode cL_law 1833 = .ok (.laload, 1) := by decide +kernel
theorem dL_law_1834 : decode cL_law 1834 = .ok (.iload 7, 2) := by decide +kernel
theorem dL_law_1836 : decode cL_law 1836 = .ok (.i2l, 1) := by decide +kernel
theorem dL_law_1837 : decode cL_law 1837 = .ok (.lcmp, 1) := by decide +kernel
theorem dL_law_1838 : decode cL_law 1838 = .ok (.ifCond .eq 5, 3) := by decide +kernel
theorem dL_law_1843 : decode cL_law 1843 = .ok (.goto 1139, 3) := by decide +kernel
theorem wd1400 : Cond.codeWith yL_minutes cL_minutes 4 (some .int) [(0, 9, 12, 21), (0, 9, 15, 15)] ∈ gW := gW_in 1400 (by decide +kernel) (by decide +kernel)
theorem mvwL_minutes : MVW yL_minutes cL_minutes 4 (some .int) [(0, 9, 12, 21), (0, 9, 15, 15)] 3 := ⟨wd1400, wd77, by decide +kernel, by decide +kernel, by decide +kernel, by decide⟩
theorem wd1399 : Cond.static yL_minutes ∈ gW := gW_in 1399 (by decide +kernel) (by decide +kernel)
theorem wd1398 : Cond.methodLink RL 276 yL_minutes ∈ gW := gW_in 1398 (by decide +kernel) (by decide +kernel)
theorem wd2062 : Cond.code yX10_minutes cX10_minutes 2 (some .int) ∈ gW := gW_in 2062 (by decide +kernel) (by decide +kernel)
theorem mvX10_minutes : MV yX10_minutes cX10_minutes 2 (some .int) 1 := ⟨wd2062, wd92, by decide +kernel, by decide +kernel, by decide +kernel, by decide⟩
theorem wd2060 : Cond.instanceMethod yX10_minutes ∈ gW := gW_in 2060 (by decide +kernel) (by decide +kernel)
theorem wd2061 : Cond.selects yX10_minutes.cls yX10_minutes yX10_minutes ∈ gW := gW_in 2061 (by decide +kernel) (by decide +kernel)
theorem wd2059 : Cond.methodLink RL 278 yX10_minutes ∈ gW := gW_in 2059 (by decide +kernel) (by decide +kernel)
theorem dL_law_1846 : decode cL_law 1846 = .ok (.aload_n 1, 1) := by decide +kernel
theorem dL_law_1847 : decode cL_law 1847 = .ok (.aload_n 0, 1) := by decide +kernel
theorem dL_law_1848 : decode cL_law 1848 = .ok (.iload 5, 2) := by decide +kernel
theorem dL_law_1850 : decode cL_law 1850 = .ok (.iconst 1, 1) := by decide +kernel
theorem dL_law_1851 : decode cL_law 1851 = .ok (.iadd, 1) := by decide +kernel
theorem dL_law_1852 : decode cL_law 1852 = .ok (.iaload, 1) := by decide +kernel
theorem dL_law_1853 : decode cL_law 1853 = .ok (.aload_n 3, 1) := by decide +kernel
theorem dL_law_1854 : decode cL_law 1854 = .ok (.invokestatic 276, 3) := by decide +kernel
theorem dL_law_1857 : decode cL_law 1857 = .ok (.istore 6, 2) := by decide +kernel
theorem dL_law_1859 : decode cL_law 1859 = .ok (.aload_n 2, 1) := by decide +kernel
theorem dL_law_1860 : decode cL_law 1860 = .ok (.aload_n 0, 1) := by decide +kernel
theorem dL_law_1861 : decode cL_law 1861 = .ok (.iload 5, 2) := by decide +kernel
theorem dL_law_1863 : decode cL_law 1863 = .ok (.iconst 1, 1) := by decide +kernel
theorem dL_law_1864 : decode cL_law 1864 = .ok (.iadd, 1) := by decide +kernel
theorem dL_law_1865 : decode cL_law 1865 = .ok (.iaload, 1) := by decide +kernel
theorem dL_law_1866 : decode cL_law 1866 = .ok (.invokevirtual 278, 3) := by decide +kernel
theorem dL_law_1869 : decode cL_law 1869 = .ok (.istore 7, 2) := by decide +kernel
theorem dL_law_1871 : decode cL_law 1871 = .ok (.aload_n 2, 1) := by decide +kernel
theorem dL_law_1872 : decode cL_law 1872 = .ok (.invokevirtual 175, 3) := by decide +kernel
theorem dL_law_1875 : decode cL_law 1875 = .ok (.iload 6, 2) := by decide +kernel
theorem dL_law_1877 : decode cL_law 1877 = .ok (.if_icmp .eq 5, 3) := by decide +kernel
theorem dL_law_1882 : decode cL_law 1882 = .ok (.iload 6, 2) := by decide +kernel
theorem dL_law_1884 : decode cL_law 1884 = .ok (.ifCond .ne 15, 3) := by decide +kernel
theorem dL_law_1887 : decode cL_law 1887 = .ok (.aload_n 3, 1) := by decide +kernel
theorem dL_law_1888 : decode cL_law 1888 = .ok (.iconst 0, 1) := by decide +kernel
theorem dL_law_1889 : decode cL_law 1889 = .ok (.laload, 1) := by decide +kernel
theorem dL_law_1890 : decode cL_law 1890 = .ok (.iload 7, 2) := by decide +kernel
theorem dL_law_1892 : decode cL_law 1892 = .ok (.i2l, 1) := by decide +kernel
theorem dL_law_1893 : decode cL_law 1893 = .ok (.lcmp, 1) := by decide +kernel
theorem dL_law_1894 : decode cL_law 1894 = .ok (.ifCond .eq 5, 3) := by decide +kernel
theorem dL_law_1899 : decode cL_law 1899 = .ok (.goto 1083, 3) := by decide +kernel
theorem wd1407 : Cond.codeWith yL_penalty cL_penalty 4 (some .int) [(0, 9, 12, 21), (0, 9, 15, 15)] ∈ gW := gW_in 1407 (by decide +kernel) (by decide +kernel)
theorem mvwL_penalty : MVW yL_penalty cL_penalty 4 (some .int) [(0, 9, 12, 21), (0, 9, 15, 15)] 3 := ⟨wd1407, wd77, by decide +kernel, by decide +kernel, by decide +kernel, by decide⟩
theorem wd1406 : Cond.static yL_penalty ∈ gW := gW_in 1406 (by decide +kernel) (by decide +kernel)
theorem wd1405 : Cond.methodLink RL 279 yL_penalty ∈ gW := gW_in 1405 (by decide +kernel) (by decide +kernel)
theorem wd2066 : Cond.code yX10_penalty cX10_penalty 2 (some .int) ∈ gW := gW_in 2066 (by decide +kernel) (by decide +kernel)
theorem mvX10_penalty : MV yX10_penalty cX10_penalty 2 (some .int) 1 := ⟨wd2066, wd92, by decide +kernel, by decide +kernel, by decide +kernel, by decide⟩
theorem wd2064 : Cond.instanceMethod yX10_penalty ∈ gW := gW_in 2064 (by decide +kernel) (by decide +kernel)
theorem wd2065 : Cond.selects yX10_penalty.cls yX10_penalty yX10_penalty ∈ gW := gW_in 2065 (by decide +kernel) (by decide +kernel)
theorem wd2063 : Cond.methodLink RL 281 yX10_penalty ∈ gW := gW_in 2063 (by decide +kernel) (by decide +kernel)
theorem dL_law_1902 : decode cL_law 1902 = .ok (.aload_n 1, 1) := by decide +kernel
theorem dL_law_1903 : decode cL_law 1903 = .ok (.aload_n 0, 1) := by decide +kernel
theorem dL_law_1904 : decode cL_law 1904 = .ok (.iload 5, 2) := by decide +kernel
theorem dL_law_1906 : decode cL_law 1906 = .ok (.iconst 1, 1) := by decide +kernel
theorem dL_law_1907 : decode cL_law 1907 = .ok (.iadd, 1) := by decide +kernel
theorem dL_law_1908 : decode cL_law 1908 = .ok (.iaload, 1) := by decide +kernel
theorem dL_law_1909 : decode cL_law 1909 = .ok (.aload_n 3, 1) := by decide +kernel
theorem dL_law_1910 : decode cL_law 1910 = .ok (.invokestatic 279, 3) := by decide +kernel
theorem dL_law_1913 : decode cL_law 1913 = .ok (.istore 6, 2) := by decide +kernel
theorem dL_law_1915 : decode cL_law 1915 = .ok (.aload_n 2, 1) := by decide +kernel
theorem dL_law_1916 : decode cL_law 1916 = .ok (.aload_n 0, 1) := by decide +kernel
theorem dL_law_1917 : decode cL_law 1917 = .ok (.iload 5, 2) := by decide +kernel
theorem dL_law_1919 : decode cL_law 1919 = .ok (.iconst 1, 1) := by decide +kernel
theorem dL_law_1920 : decode cL_law 1920 = .ok (.iadd, 1) := by decide +kernel
theorem dL_law_1921 : decode cL_law 1921 = .ok (.iaload, 1) := by decide +kernel
theorem dL_law_1922 : decode cL_law 1922 = .ok (.invokevirtual 281, 3) := by decide +kernel
theorem dL_law_1925 : decode cL_law 1925 = .ok (.istore 7, 2) := by decide +kernel
theorem dL_law_1927 : decode cL_law 1927 = .ok (.aload_n 2, 1) := by decide +kernel
theorem dL_law_1928 : decode cL_law 1928 = .ok (.invokevirtual 175, 3) := by decide +kernel
theorem dL_law_1931 : decode cL_law 1931 = .ok (.iload 6, 2) := by decide +kernel
theorem dL_law_1933 : decode cL_law 1933 = .ok (.if_icmp .eq 5, 3) := by decide +kernel
theorem dL_law_1938 : decode cL_law 1938 = .ok (.iload 6, 2) := by decide +kernel
theorem dL_law_1940 : decode cL_law 1940 = .ok (.ifCond .ne 15, 3) := by decide +kernel
theorem dL_law_1943 : decode cL_law 1943 = .ok (.aload_n 3, 1) := by decide +kernel
theorem dL_law_1944 : decode cL_law 1944 = .ok (.iconst 0, 1) := by decide +kernel
theorem dL_law_1945 : decode cL_law 1945 = .ok (.laload, 1) := by decide +kernel
theorem dL_law_1946 : decode cL_law 1946 = .ok (.iload 7, 2) := by decide +kernel
theorem dL_law_1948 : decode cL_law 1948 = .ok (.i2l, 1) := by decide +kernel
theorem dL_law_1949 : decode cL_law 1949 = .ok (.lcmp, 1) := by decide +kernel
theorem dL_law_1950 : decode cL_law 1950 = .ok (.ifCond .eq 5, 3) := by decide +kernel
theorem dL_law_1955 : decode cL_law 1955 = .ok (.goto 1027, 3) := by decide +kernel
theorem wd1414 : Cond.codeWith yL_reached cL_reached 4 (some .int) [(0, 9, 12, 21)] ∈ gW := gW_in 1414 (by decide +kernel) (by decide +kernel)
theorem mvwL_reached : MVW yL_reached cL_reached 4 (some .int) [(0, 9, 12, 21)] 3 := ⟨wd1414, wd77, by decide +kernel, by decide +kernel, by decide +kernel, by decide⟩
theorem wd1413 : Cond.static yL_reached ∈ gW := gW_in 1413 (by decide +kernel) (by decide +kernel)
theorem wd1412 : Cond.methodLink RL 282 yL_reached ∈ gW := gW_in 1412 (by decide +kernel) (by decide +kernel)
theorem wd2070 : Cond.code yX10_reached cX10_reached 2 (some .int) ∈ gW := gW_in 2070 (by decide +kernel) (by decide +kernel)
theorem mvX10_reached : MV yX10_reached cX10_reached 2 (some .int) 1 := ⟨wd2070, wd92, by decide +kernel, by decide +kernel, by decide +kernel, by decide⟩
theorem wd2068 : Cond.instanceMethod yX10_reached ∈ gW := gW_in 2068 (by decide +kernel) (by decide +kernel)
theorem wd2069 : Cond.selects yX10_reached.cls yX10_reached yX10_reached ∈ gW := gW_in 2069 (by decide +kernel) (by decide +kernel)
theorem wd2067 : Cond.methodLink RL 284 yX10_reached ∈ gW := gW_in 2067 (by decide +kernel) (by decide +kernel)
theorem dL_law_1958 : decode cL_law 1958 = .ok (.aload_n 1, 1) := by decide +kernel
theorem dL_law_1959 : decode cL_law 1959 = .ok (.aload_n 0, 1) := by decide +kernel
theorem dL_law_1960 : decode cL_law 1960 = .ok (.iload 5, 2) := by decide +kernel
theorem dL_law_1962 : decode cL_law 1962 = .ok (.iconst 1, 1) := by decide +kernel
theorem dL_law_1963 : decode cL_law 1963 = .ok (.iadd, 1) := by decide +kernel
theorem dL_law_1964 : decode cL_law 1964 = .ok (.iaload, 1) := by decide +kernel
theorem dL_law_1965 : decode cL_law 1965 = .ok (.aload_n 3, 1) := by decide +kernel
theorem dL_law_1966 : decode cL_law 1966 = .ok (.invokestatic 282, 3) := by decide +kernel
theorem dL_law_1969 : decode cL_law 1969 = .ok (.istore 6, 2) := by decide +kernel
theorem dL_law_1971 : decode cL_law 1971 = .ok (.aload_n 2, 1) := by decide +kernel
theorem dL_law_1972 : decode cL_law 1972 = .ok (.aload_n 0, 1) := by decide +kernel
theorem dL_law_1973 : decode cL_law 1973 = .ok (.iload 5, 2) := by decide +kernel
theorem dL_law_1975 : decode cL_law 1975 = .ok (.iconst 1, 1) := by decide +kernel
theorem dL_law_1976 : decode cL_law 1976 = .ok (.iadd, 1) := by decide +kernel
theorem dL_law_1977 : decode cL_law 1977 = .ok (.iaload, 1) := by decide +kernel
theorem dL_law_1978 : decode cL_law 1978 = .ok (.invokevirtual 284, 3) := by decide +kernel
theorem dL_law_1981 : decode cL_law 1981 = .ok (.istore 7, 2) := by decide +kernel
theorem dL_law_1983 : decode cL_law 1983 = .ok (.aload_n 2, 1) := by decide +kernel
theorem dL_law_1984 : decode cL_law 1984 = .ok (.invokevirtual 175, 3) := by decide +kernel
theorem dL_law_1987 : decode cL_law 1987 = .ok (.iload 6, 2) := by decide +kernel
theorem dL_law_1989 : decode cL_law 1989 = .ok (.if_icmp .eq 5, 3) := by decide +kernel
theorem dL_law_1994 : decode cL_law 1994 = .ok (.iload 6, 2) := by decide +kernel
theorem dL_law_1996 : decode cL_law 1996 = .ok (.ifCond .ne 15, 3) := by decide +kernel
theorem dL_law_1999 : decode cL_law 1999 = .ok (.aload_n 3, 1) := by decide +kernel
theorem dL_law_2000 : decode cL_law 2000 = .ok (.iconst 0, 1) := by decide +kernel
theorem dL_law_2001 : decode cL_law 2001 = .ok (.laload, 1) := by decide +kernel
theorem dL_law_2002 : decode cL_law 2002 = .ok (.iload 7, 2) := by decide +kernel
theorem dL_law_2004 : decode cL_law 2004 = .ok (.i2l, 1) := by decide +kernel
theorem dL_law_2005 : decode cL_law 2005 = .ok (.lcmp, 1) := by decide +kernel
theorem dL_law_2006 : decode cL_law 2006 = .ok (.ifCond .eq 5, 3) := by decide +kernel
theorem dL_law_2011 : decode cL_law 2011 = .ok (.goto 971, 3) := by decide +kernel
theorem wd1421 : Cond.codeWith yL_remainingDistance cL_remainingDistance 4 (some .int) [(0, 9, 12, 21), (0, 9, 15, 15)] ∈ gW := gW_in 1421 (by decide +kernel) (by decide +kernel)
theorem mvwL_remainingDistance : MVW yL_remainingDistance cL_remainingDistance 4 (some .int) [(0, 9, 12, 21), (0, 9, 15, 15)] 3 := ⟨wd1421, wd77, by decide +kernel, by decide +kernel, by decide +kernel, by decide⟩
theorem wd1420 : Cond.static yL_remainingDistance ∈ gW := gW_in 1420 (by decide +kernel) (by decide +kernel)
theorem wd1419 : Cond.methodLink RL 285 yL_remainingDistance ∈ gW := gW_in 1419 (by decide +kernel) (by decide +kernel)
theorem wd2074 : Cond.code yX10_remainingDistance cX10_remainingDistance 2 (some .int) ∈ gW := gW_in 2074 (by decide +kernel) (by decide +kernel)
theorem mvX10_remainingDistance : MV yX10_remainingDistance cX10_remainingDistance 2 (some .int) 1 := ⟨wd2074, wd92, by decide +kernel, by decide +kernel, by decide +kernel, by decide⟩
theorem wd2072 : Cond.instanceMethod yX10_remainingDistance ∈ gW := gW_in 2072 (by decide +kernel) (by decide +kernel)
theorem wd2073 : Cond.selects yX10_remainingDistance.cls yX10_remainingDistance yX10_remainingDistance ∈ gW := gW_in 2073 (by decide +kernel) (by decide +kernel)
theorem wd2071 : Cond.methodLink RL 287 yX10_remainingDistance ∈ gW := gW_in 2071 (by decide +kernel) (by decide +kernel)
theorem dL_law_2014 : decode cL_law 2014 = .ok (.aload_n 1, 1) := by decide +kernel
theorem dL_law_2015 : decode cL_law 2015 = .ok (.aload_n 0, 1) := by decide +kernel
theorem dL_law_2016 : decode cL_law 2016 = .ok (.iload 5, 2) := by decide +kernel
theorem dL_law_2018 : decode cL_law 2018 = .ok (.iconst 1, 1) := by decide +kernel
theorem dL_law_2019 : decode cL_law 2019 = .ok (.iadd, 1) := by decide +kernel
theorem dL_law_2020 : decode cL_law 2020 = .ok (.iaload, 1) := by decide +kernel
theorem dL_law_2021 : decode cL_law 2021 = .ok (.aload_n 3, 1) := by decide +kernel
theorem dL_law_2022 : decode cL_law 2022 = .ok (.invokestatic 285, 3) := by decide +kernel
theorem dL_law_2025 : decode cL_law 2025 = .ok (.istore 6, 2) := by decide +kernel
theorem dL_law_2027 : decode cL_law 2027 = .ok (.aload_n 2, 1) := by decide +kernel
theorem dL_law_2028 : decode cL_law 2028 = .ok (.aload_n 0, 1) := by decide +kernel
theorem dL_law_2029 : decode cL_law 2029 = .ok (.iload 5, 2) := by decide +kernel
theorem dL_law_2031 : decode cL_law 2031 = .ok (.iconst 1, 1) := by decide +kernel
theorem dL_law_2032 : decode cL_law 2032 = .ok (.iadd, 1) := by decide +kernel
theorem dL_law_2033 : decode cL_law 2033 = .ok (.iaload, 1) := by decide +kernel
theorem dL_law_2034 : decode cL_law 2034 = .ok (.invokevirtual 287, 3) := by decide +kernel
theorem dL_law_2037 : decode cL_law 2037 = .ok (.istore 7, 2) := by decide +kernel
theorem dL_law_2039 : decode cL_law 2039 = .ok (.aload_n 2, 1) := by decide +kernel
theorem dL_law_2040 : decode cL_law 2040 = .ok (.invokevirtual 175, 3) := by decide +kernel
theorem dL_law_2043 : decode cL_law 2043 = .ok (.iload 6, 2) := by decide +kernel
theorem dL_law_2045 : decode cL_law 2045 = .ok (.if_icmp .eq 5, 3) := by decide +kernel
theorem dL_law_2050 : decode cL_law 2050 = .ok (.iload 6, 2) := by decide +kernel
theorem dL_law_2052 : decode cL_law 2052 = .ok (.ifCond .ne 15, 3) := by decide +kernel
theorem dL_law_2055 : decode cL_law 2055 = .ok (.aload_n 3, 1) := by decide +kernel
theorem dL_law_2056 : decode cL_law 2056 = .ok (.iconst 0, 1) := by decide +kernel
theorem dL_law_2057 : decode cL_law 2057 = .ok (.laload, 1) := by decide +kernel
theorem dL_law_2058 : decode cL_law 2058 = .ok (.iload 7, 2) := by decide +kernel
theorem dL_law_2060 : decode cL_law 2060 = .ok (.i2l, 1) := by decide +kernel
theorem dL_law_2061 : decode cL_law 2061 = .ok (.lcmp, 1) := by decide +kernel
theorem dL_law_2062 : decode cL_law 2062 = .ok (.ifCond .eq 5, 3) := by decide +kernel
theorem dL_law_2067 : decode cL_law 2067 = .ok (.goto 915, 3) := by decide +kernel
theorem wd1434 : Cond.codeWith yL_canFinish cL_canFinish 4 (some .int) [(0, 16, 19, 21), (0, 16, 22, 15)] ∈ gW := gW_in 1434 (by decide +kernel) (by decide +kernel)
theorem mvwL_canFinish : MVW yL_canFinish cL_canFinish 4 (some .int) [(0, 16, 19, 21), (0, 16, 22, 15)] 3 := ⟨wd1434, wd77, by decide +kernel, by decide +kernel, by decide +kernel, by decide⟩
theorem wd1433 : Cond.static yL_canFinish ∈ gW := gW_in 1433 (by decide +kernel) (by decide +kernel)
theorem wd1432 : Cond.methodLink RL 288 yL_canFinish ∈ gW := gW_in 1432 (by decide +kernel) (by decide +kernel)
theorem wd2083 : Cond.methodLink RL 290 yX10_canFinish ∈ gW := gW_in 2083 (by decide +kernel) (by decide +kernel)
theorem dL_law_2070 : decode cL_law 2070 = .ok (.aload_n 1, 1) := by decide +kernel
theorem dL_law_2071 : decode cL_law 2071 = .ok (.aload_n 0, 1) := by decide +kernel
theorem dL_law_2072 : decode cL_law 2072 = .ok (.iload 5, 2) := by decide +kernel
theorem dL_law_2074 : decode cL_law 2074 = .ok (.iconst 1, 1) := by decide +kernel
theorem dL_law_2075 : decode cL_law 2075 = .ok (.iadd, 1) := by decide +kernel
theorem dL_law_2076 : decode cL_law 2076 = .ok (.iaload, 1) := by decide +kernel
theorem dL_law_2077 : decode cL_law 2077 = .ok (.aload_n 3, 1) := by decide +kernel
theorem dL_law_2078 : decode cL_law 2078 = .ok (.invokestatic 288, 3) := by decide +kernel
theorem dL_law_2081 : decode cL_law 2081 = .ok (.istore 6, 2) := by decide +kernel
theorem dL_law_2083 : decode cL_law 2083 = .ok (.aload_n 2, 1) := by decide +kernel
theorem dL_law_2084 : decode cL_law 2084 = .ok (.aload_n 0, 1) := by decide +kernel
theorem dL_law_2085 : decode cL_law 2085 = .ok (.iload 5, 2) := by decide +kernel
theorem dL_law_2087 : decode cL_law 2087 = .ok (.iconst 1, 1) := by decide +kernel
theorem dL_law_2088 : decode cL_law 2088 = .ok (.iadd, 1) := by decide +kernel
theorem dL_law_2089 : decode cL_law 2089 = .ok (.iaload, 1) := by decide +kernel
theorem dL_law_2090 : decode cL_law 2090 = .ok (.invokevirtual 290, 3) := by decide +kernel
theorem dL_law_2093 : decode cL_law 2093 = .ok (.istore 7, 2) := by decide +kernel
theorem dL_law_2095 : decode cL_law 2095 = .ok (.aload_n 2, 1) := by decide +kernel
theorem dL_law_2096 : decode cL_law 2096 = .ok (.invokevirtual 175, 3) := by decide +kernel
theorem dL_law_2099 : decode cL_law 2099 = .ok (.iload 6, 2) := by decide +kernel
theorem dL_law_2101 : decode cL_law 2101 = .ok (.if_icmp .eq 5, 3) := by decide +kernel
theorem dL_law_2106 : decode cL_law 2106 = .ok (.iload 6, 2) := by decide +kernel
theorem dL_law_2108 : decode cL_law 2108 = .ok (.ifCond .ne 22, 3) := by decide +kernel
theorem dL_law_2111 : decode cL_law 2111 = .ok (.aload_n 3, 1) := by decide +kernel
theorem dL_law_2112 : decode cL_law 2112 = .ok (.iconst 0, 1) := by decide +kernel
theorem dL_law_2113 : decode cL_law 2113 = .ok (.laload, 1) := by decide +kernel
theorem dL_law_2114 : decode cL_law 2114 = .ok (.iload 7, 2) := by decide +kernel
theorem dL_law_2116 : decode cL_law 2116 = .ok (.ifCond .eq 7, 3) := by decide +kernel
theorem dL_law_2119 : decode cL_law 2119 = .ok (.lconst 1, 1) := by decide +kernel
theorem dL_law_2120 : decode cL_law 2120 = .ok (.goto 4, 3) := by decide +kernel
theorem dL_law_2123 : decode cL_law 2123 = .ok (.lconst 0, 1) := by decide +kernel
theorem dL_law_2124 : decode cL_law 2124 = .ok (.lcmp, 1) := by decide +kernel
theorem dL_law_2125 : decode cL_law 2125 = .ok (.ifCond .eq 5, 3) := by decide +kernel
theorem dL_law_2130 : decode cL_law 2130 = .ok (.goto 852, 3) := by decide +kernel
theorem wd1442 : Cond.codeWith yL_canFinishBySimulation cL_canFinishBySimulation 4 (some .int) [(0, 16, 19, 21), (0, 16, 22, 15)] ∈ gW := gW_in 1442 (by decide +kernel) (by decide +kernel)
theorem mvwL_canFinishBySimulation : MVW yL_canFinishBySimulation cL_canFinishBySimulation 4 (some .int) [(0, 16, 19, 21), (0, 16, 22, 15)] 3 := ⟨wd1442, wd77, by decide +kernel, by decide +kernel, by decide +kernel, by decide⟩
theorem wd1441 : Cond.static yL_canFinishBySimulation ∈ gW := gW_in 1441 (by decide +kernel) (by decide +kernel)
theorem wd1440 : Cond.methodLink RL 291 yL_canFinishBySimulation ∈ gW := gW_in 1440 (by decide +kernel) (by decide +kernel)
theorem wd2090 : Cond.code yX10_canFinishBySimulation cX10_canFinishBySimulation 2 (some .boolean) ∈ gW := gW_in 2090 (by decide +kernel) (by decide +kernel)
theorem mvX10_canFinishBySimulation : MV yX10_canFinishBySimulation cX10_canFinishBySimulation 2 (some .boolean) 1 := ⟨wd2090, wd92, by decide +kernel, by decide +kernel, by decide +kernel, by decide⟩
theorem wd2088 : Cond.instanceMethod yX10_canFinishBySimulation ∈ gW := gW_in 2088 (by decide +kernel) (by decide +kernel)
theorem wd2089 : Cond.selects yX10_canFinishBySimulation.cls yX10_canFinishBySimulation yX10_canFinishBySimulation ∈ gW := gW_in 2089 (by decide +kernel) (by decide +kernel)
theorem wd2087 : Cond.methodLink RL 293 yX10_canFinishBySimulation ∈ gW := gW_in 2087 (by decide +kernel) (by decide +kernel)
theorem dL_law_2133 : decode cL_law 2133 = .ok (.aload_n 1, 1) := by decide +kernel
theorem dL_law_2134 : decode cL_law 2134 = .ok (.aload_n 0, 1) := by decide +kernel
theorem dL_law_2135 : decode cL_law 2135 = .ok (.iload 5, 2) := by decide +kernel
theorem dL_law_2137 : decode cL_law 2137 = .ok (.iconst 1, 1) := by decide +kernel
theorem dL_law_2138 : decode cL_law 2138 = .ok (.iadd, 1) := by decide +kernel
theorem dL_law_2139 : decode cL_law 2139 = .ok (.iaload, 1) := by decide +kernel
theorem dL_law_2140 : decode cL_law 2140 = .ok (.aload_n 3, 1) := by decide +kernel
theorem dL_law_2141 : decode cL_law 2141 = .ok (.invokestatic 291, 3) := by decide +kernel
theorem dL_law_2144 : decode cL_law 2144 = .ok (.istore 6, 2) := by decide +kernel
theorem dL_law_2146 : decode cL_law 2146 = .ok (.aload_n 2, 1) := by decide +kernel
theorem dL_law_2147 : decode cL_law 2147 = .ok (.aload_n 0, 1) := by decide +kernel
theorem dL_law_2148 : decode cL_law 2148 = .ok (.iload 5, 2) := by decide +kernel
theorem dL_law_2150 : decode cL_law 2150 = .ok (.iconst 1, 1) := by decide +kernel
theorem dL_law_2151 : decode cL_law 2151 = .ok (.iadd, 1) := by decide +kernel
theorem dL_law_2152 : decode cL_law 2152 = .ok (.iaload, 1) := by decide +kernel
theorem dL_law_2153 : decode cL_law 2153 = .ok (.invokevirtual 293, 3) := by decide +kernel
theorem dL_law_2156 : decode cL_law 2156 = .ok (.istore 7, 2) := by decide +kernel
theorem dL_law_2158 : decode cL_law 2158 = .ok (.aload_n 2, 1) := by decide +kernel
theorem dL_law_2159 : decode cL_law 2159 = .ok (.invokevirtual 175, 3) := by decide +kernel
theorem dL_law_2162 : decode cL_law 2162 = .ok (.iload 6, 2) := by decide +kernel
theorem dL_law_2164 : decode cL_law 2164 = .ok (.if_icmp .eq 5, 3) := by decide +kernel
theorem dL_law_2169 : decode cL_law 2169 = .ok (.iload 6, 2) := by decide +kernel
theorem dL_law_2171 : decode cL_law 2171 = .ok (.ifCond .ne 22, 3) := by decide +kernel
theorem dL_law_2174 : decode cL_law 2174 = .ok (.aload_n 3, 1) := by decide +kernel
theorem dL_law_2175 : decode cL_law 2175 = .ok (.iconst 0, 1) := by decide +kernel
theorem dL_law_2176 : decode cL_law 2176 = .ok (.laload, 1) := by decide +kernel
theorem dL_law_2177 : decode cL_law 2177 = .ok (.iload 7, 2) := by decide +kernel
theorem dL_law_2179 : decode cL_law 2179 = .ok (.ifCond .eq 7, 3) := by decide +kernel
theorem dL_law_2182 : decode cL_law 2182 = .ok (.lconst 1, 1) := by decide +kernel
theorem dL_law_2183 : decode cL_law 2183 = .ok (.goto 4, 3) := by decide +kernel
theorem dL_law_2186 : decode cL_law 2186 = .ok (.lconst 0, 1) := by decide +kernel
theorem dL_law_2187 : decode cL_law 2187 = .ok (.lcmp, 1) := by decide +kernel
theorem dL_law_2188 : decode cL_law 2188 = .ok (.ifCond .eq 5, 3) := by decide +kernel
theorem dL_law_2193 : decode cL_law 2193 = .ok (.goto 789, 3) := by decide +kernel
theorem wd1450 : Cond.codeWith yL_achievedDistance cL_achievedDistance 4 (some .int) [(0, 9, 12, 21)] ∈ gW := gW_in 1450 (by decide +kernel) (by decide +kernel)
theorem mvwL_achievedDistance : MVW yL_achievedDistance cL_achievedDistance 4 (some .int) [(0, 9, 12, 21)] 3 := ⟨wd1450, wd77, by decide +kernel, by decide +kernel, by decide +kernel, by decide⟩
theorem wd1449 : Cond.static yL_achievedDistance ∈ gW := gW_in 1449 (by decide +kernel) (by decide +kernel)
theorem wd1448 : Cond.methodLink RL 294 yL_achievedDistance ∈ gW := gW_in 1448 (by decide +kernel) (by decide +kernel)
theorem wd2095 : Cond.code yX10_achievedDistance cX10_achievedDistance 2 (some .int) ∈ gW := gW_in 2095 (by decide +kernel) (by decide +kernel)
theorem mvX10_achievedDistance : MV yX10_achievedDistance cX10_achievedDistance 2 (some .int) 1 := ⟨wd2095, wd92, by decide +kernel, by decide +kernel, by decide +kernel, by decide⟩
theorem wd2093 : Cond.instanceMethod yX10_achievedDistance ∈ gW := gW_in 2093 (by decide +kernel) (by decide +kernel)
theorem wd2094 : Cond.selects yX10_achievedDistance.cls yX10_achievedDistance yX10_achievedDistance ∈ gW := gW_in 2094 (by decide +kernel) (by decide +kernel)
theorem wd2092 : Cond.methodLink RL 296 yX10_achievedDistance ∈ gW := gW_in 2092 (by decide +kernel) (by decide +kernel)
theorem dL_law_2196 : decode cL_law 2196 = .ok (.aload_n 1, 1) := by decide +kernel
theorem dL_law_2197 : decode cL_law 2197 = .ok (.aload_n 0, 1) := by decide +kernel
theorem dL_law_2198 : decode cL_law 2198 = .ok (.iload 5, 2) := by decide +kernel
theorem dL_law_2200 : decode cL_law 2200 = .ok (.iconst 1, 1) := by decide +kernel
theorem dL_law_2201 : decode cL_law 2201 = .ok (.iadd, 1) := by decide +kernel
theorem dL_law_2202 : decode cL_law 2202 = .ok (.iaload, 1) := by decide +kernel
theorem dL_law_2203 : decode cL_law 2203 = .ok (.aload_n 3, 1) := by decide +kernel
theorem dL_law_2204 : decode cL_law 2204 = .ok (.invokestatic 294, 3) := by decide +kernel
theorem dL_law_2207 : decode cL_law 2207 = .ok (.istore 6, 2) := by decide +kernel
theorem dL_law_2209 : decode cL_law 2209 = .ok (.aload_n 2, 1) := by decide +kernel
theorem dL_law_2210 : decode cL_law 2210 = .ok (.aload_n 0, 1) := by decide +kernel
theorem dL_law_2211 : decode cL_law 2211 = .ok (.iload 5, 2) := by decide +kernel
theorem dL_law_2213 : decode cL_law 2213 = .ok (.iconst 1, 1) := by decide +kernel
theorem dL_law_2214 : decode cL_law 2214 = .ok (.iadd, 1) := by decide +kernel
theorem dL_law_2215 : decode cL_law 2215 = .ok (.iaload, 1) := by decide +kernel
theorem dL_law_2216 : decode cL_law 2216 = .ok (.invokevirtual 296, 3) := by decide +kernel
theorem dL_law_2219 : decode cL_law 2219 = .ok (.istore 7, 2) := by decide +kernel
theorem dL_law_2221 : decode cL_law 2221 = .ok (.aload_n 2, 1) := by decide +kernel
theorem dL_law_2222 : decode cL_law 2222 = .ok (.invokevirtual 175, 3) := by decide +kernel
theorem dL_law_2225 : decode cL_law 2225 = .ok (.iload 6, 2) := by decide +kernel
theorem dL_law_2227 : decode cL_law 2227 = .ok (.if_icmp .eq 5, 3) := by decide +kernel
theorem dL_law_2232 : decode cL_law 2232 = .ok (.iload 6, 2) := by decide +kernel
theorem dL_law_2234 : decode cL_law 2234 = .ok (.ifCond .ne 15, 3) := by decide +kernel
theorem dL_law_2237 : decode cL_law 2237 = .ok (.aload_n 3, 1) := by decide +kernel
theorem dL_law_2238 : decode cL_law 2238 = .ok (.iconst 0, 1) := by decide +kernel
theorem dL_law_2239 : decode cL_law 2239 = .ok (.laload, 1) := by decide +kernel
theorem dL_law_2240 : decode cL_law 2240 = .ok (.iload 7, 2) := by decide +kernel
theorem dL_law_2242 : decode cL_law 2242 = .ok (.i2l, 1) := by decide +kernel
theorem dL_law_2243 : decode cL_law 2243 = .ok (.lcmp, 1) := by decide +kernel
theorem dL_law_2244 : decode cL_law 2244 = .ok (.ifCond .eq 5, 3) := by decide +kernel
theorem dL_law_2249 : decode cL_law 2249 = .ok (.goto 733, 3) := by decide +kernel
theorem wd1458 : Cond.codeWith yL_dayScore cL_dayScore 4 (some .int) [(0, 9, 12, 21)] ∈ gW := gW_in 1458 (by decide +kernel) (by decide +kernel)
theorem mvwL_dayScore : MVW yL_dayScore cL_dayScore 4 (some .int) [(0, 9, 12, 21)] 3 := ⟨wd1458, wd77, by decide +kernel, by decide +kernel, by decide +kernel, by decide⟩
theorem wd1457 : Cond.static yL_dayScore ∈ gW := gW_in 1457 (by decide +kernel) (by decide +kernel)
theorem wd1456 : Cond.methodLink RL 297 yL_dayScore ∈ gW := gW_in 1456 (by decide +kernel) (by decide +kernel)
theorem wd2099 : Cond.code yX10_dayScore cX10_dayScore 2 (some .int) ∈ gW := gW_in 2099 (by decide +kernel) (by decide +kernel)
theorem mvX10_dayScore : MV yX10_dayScore cX10_dayScore 2 (some .int) 1 := ⟨wd2099, wd92, by decide +kernel, by decide +kernel, by decide +kernel, by decide⟩
theorem wd2097 : Cond.instanceMethod yX10_dayScore ∈ gW := gW_in 2097 (by decide +kernel) (by decide +kernel)
theorem wd2098 : Cond.selects yX10_dayScore.cls yX10_dayScore yX10_dayScore ∈ gW := gW_in 2098 (by decide +kernel) (by decide +kernel)
theorem wd2096 : Cond.methodLink RL 299 yX10_dayScore ∈ gW := gW_in 2096 (by decide +kernel) (by decide +kernel)
theorem dL_law_2252 : decode cL_law 2252 = .ok (.aload_n 1, 1) := by decide +kernel
theorem dL_law_2253 : decode cL_law 2253 = .ok (.aload_n 0, 1) := by decide +kernel
theorem dL_law_2254 : decode cL_law 2254 = .ok (.iload 5, 2) := by decide +kernel
theorem dL_law_2256 : decode cL_law 2256 = .ok (.iconst 1, 1) := by decide +kernel
theorem dL_law_2257 : decode cL_law 2257 = .ok (.iadd, 1) := by decide +kernel
theorem dL_law_2258 : decode cL_law 2258 = .ok (.iaload, 1) := by decide +kernel
theorem dL_law_2259 : decode cL_law 2259 = .ok (.aload_n 3, 1) := by decide +kernel
theorem dL_law_2260 : decode cL_law 2260 = .ok (.invokestatic 297, 3) := by decide +kernel
theorem dL_law_2263 : decode cL_law 2263 = .ok (.istore 6, 2) := by decide +kernel
theorem dL_law_2265 : decode cL_law 2265 = .ok (.aload_n 2, 1) := by decide +kernel
theorem dL_law_2266 : decode cL_law 2266 = .ok (.aload_n 0, 1) := by decide +kernel
theorem dL_law_2267 : decode cL_law 2267 = .ok (.iload 5, 2) := by decide +kernel
theorem dL_law_2269 : decode cL_law 2269 = .ok (.iconst 1, 1) := by decide +kernel
theorem dL_law_2270 : decode cL_law 2270 = .ok (.iadd, 1) := by decide +kernel
theorem dL_law_2271 : decode cL_law 2271 = .ok (.iaload, 1) := by decide +kernel
theorem dL_law_2272 : decode cL_law 2272 = .ok (.invokevirtual 299, 3) := by decide +kernel
theorem dL_law_2275 : decode cL_law 2275 = .ok (.istore 7, 2) := by decide +kernel
theorem dL_law_2277 : decode cL_law 2277 = .ok (.aload_n 2, 1) := by decide +kernel
theorem dL_law_2278 : decode cL_law 2278 = .ok (.invokevirtual 175, 3) := by decide +kernel
theorem dL_law_2281 : decode cL_law 2281 = .ok (.iload 6, 2) := by decide +kernel
theorem dL_law_2283 : decode cL_law 2283 = .ok (.if_icmp .eq 5, 3) := by decide +kernel
theorem dL_law_2288 : decode cL_law 2288 = .ok (.iload 6, 2) := by decide +kernel
theorem dL_law_2290 : decode cL_law 2290 = .ok (.ifCond .ne 15, 3) := by decide +kernel
theorem dL_law_2293 : decode cL_law 2293 = .ok (.aload_n 3, 1) := by decide +kernel
theorem dL_law_2294 : decode cL_law 2294 = .ok (.iconst 0, 1) := by decide +kernel
theorem dL_law_2295 : decode cL_law 2295 = .ok (.laload, 1) := by decide +kernel
theorem dL_law_2296 : decode cL_law 2296 = .ok (.iload 7, 2) := by decide +kernel
theorem dL_law_2298 : decode cL_law 2298 = .ok (.i2l, 1) := by decide +kernel
theorem dL_law_2299 : decode cL_law 2299 = .ok (.lcmp, 1) := by decide +kernel
theorem dL_law_2300 : decode cL_law 2300 = .ok (.ifCond .eq 5, 3) := by decide +kernel
theorem dL_law_2305 : decode cL_law 2305 = .ok (.goto 677, 3) := by decide +kernel
theorem wd1466 : Cond.codeWith yL_total cL_total 4 (some .int) [(0, 8, 11, 21)] ∈ gW := gW_in 1466 (by decide +kernel) (by decide +kernel)
theorem mvwL_total : MVW yL_total cL_total 4 (some .int) [(0, 8, 11, 21)] 3 := ⟨wd1466, wd77, by decide +kernel, by decide +kernel, by decide +kernel, by decide⟩
theorem wd1465 : Cond.static yL_total ∈ gW := gW_in 1465 (by decide +kernel) (by decide +kernel)
theorem wd1464 : Cond.methodLink RL 300 yL_total ∈ gW := gW_in 1464 (by decide +kernel) (by decide +kernel)
theorem wd2103 : Cond.code yX10_total cX10_total 2 (some .long) ∈ gW := gW_in 2103 (by decide +kernel) (by decide +kernel)
theorem mvX10_total : MV yX10_total cX10_total 2 (some .long) 1 := ⟨wd2103, wd92, by decide +kernel, by decide +kernel, by decide +kernel, by decide⟩
theorem wd2101 : Cond.instanceMethod yX10_total ∈ gW := gW_in 2101 (by decide +kernel) (by decide +kernel)
theorem wd2102 : Cond.selects yX10_total.cls yX10_total yX10_total ∈ gW := gW_in 2102 (by decide +kernel) (by decide +kernel)
theorem wd2100 : Cond.methodLink RL 302 yX10_total ∈ gW := gW_in 2100 (by decide +kernel) (by decide +kernel)
theorem dL_law_2308 : decode cL_law 2308 = .ok (.aload_n 1, 1) := by decide +kernel
theorem dL_law_2309 : decode cL_law 2309 = .ok (.aload_n 0, 1) := by decide +kernel
theorem dL_law_2310 : decode cL_law 2310 = .ok (.iload 5, 2) := by decide +kernel
theorem dL_law_2312 : decode cL_law 2312 = .ok (.iconst 1, 1) := by decide +kernel
theorem dL_law_2313 : decode cL_law 2313 = .ok (.iadd, 1) := by decide +kernel
theorem dL_law_2314 : decode cL_law 2314 = .ok (.iaload, 1) := by decide +kernel
theorem dL_law_2315 : decode cL_law 2315 = .ok (.aload_n 3, 1) := by decide +kernel
theorem dL_law_2316 : decode cL_law 2316 = .ok (.invokestatic 300, 3) := by decide +kernel
theorem dL_law_2319 : decode cL_law 2319 = .ok (.istore 6, 2) := by decide +kernel
theorem dL_law_2321 : decode cL_law 2321 = .ok (.aload_n 2, 1) := by decide +kernel
theorem dL_law_2322 : decode cL_law 2322 = .ok (.aload_n 0, 1) := by decide +kernel
theorem dL_law_2323 : decode cL_law 2323 = .ok (.iload 5, 2) := by decide +kernel
theorem dL_law_2325 : decode cL_law 2325 = .ok (.iconst 1, 1) := by decide +kernel
theorem dL_law_2326 : decode cL_law 2326 = .ok (.iadd, 1) := by decide +kernel
theorem dL_law_2327 : decode cL_law 2327 = .ok (.iaload, 1) := by decide +kernel
theorem dL_law_2328 : decode cL_law 2328 = .ok (.invokevirtual 302, 3) := by decide +kernel
theorem dL_law_2331 : decode cL_law 2331 = .ok (.lstore 7, 2) := by decide +kernel
theorem dL_law_2333 : decode cL_law 2333 = .ok (.aload_n 2, 1) := by decide +kernel
theorem dL_law_2334 : decode cL_law 2334 = .ok (.invokevirtual 175, 3) := by decide +kernel
theorem dL_law_2337 : decode cL_law 2337 = .ok (.iload 6, 2) := by decide +kernel
theorem dL_law_2339 : decode cL_law 2339 = .ok (.if_icmp .eq 5, 3) := by decide +kernel
theorem dL_law_2344 : decode cL_law 2344 = .ok (.iload 6, 2) := by decide +kernel
theorem dL_law_2346 : decode cL_law 2346 = .ok (.ifCond .ne 14, 3) := by decide +kernel
theorem dL_law_2349 : decode cL_law 2349 = .ok (.aload_n 3, 1) := by decide +kernel
theorem dL_law_2350 : decode cL_law 2350 = .ok (.iconst 0, 1) := by decide +kernel
theorem dL_law_2351 : decode cL_law 2351 = .ok (.laload, 1) := by decide +kernel
theorem dL_law_2352 : decode cL_law 2352 = .ok (.lload 7, 2) := by decide +kernel
theorem dL_law_2354 : decode cL_law 2354 = .ok (.lcmp, 1) := by decide +kernel
theorem dL_law_2355 : decode cL_law 2355 = .ok (.ifCond .eq 5, 3) := by decide +kernel
theorem dL_law_2360 : decode cL_law 2360 = .ok (.goto 622, 3) := by decide +kernel
theorem wd1473 : Cond.codeWith yL_pilotAtRank cL_pilotAtRank 4 (some .int) [(0, 9, 12, 61)] ∈ gW := gW_in 1473 (by decide +kernel) (by decide +kernel)
theorem mvwL_pilotAtRank : MVW yL_pilotAtRank cL_pilotAtRank 4 (some .int) [(0, 9, 12, 61)] 3 := ⟨wd1473, wd77, by decide +kernel, by decide +kernel, by decide +kernel, by decide⟩
theorem wd1472 : Cond.static yL_pilotAtRank ∈ gW := gW_in 1472 (by decide +kernel) (by decide +kernel)
theorem wd1471 : Cond.methodLink RL 303 yL_pilotAtRank ∈ gW := gW_in 1471 (by decide +kernel) (by decide +kernel)
theorem wd2107 : Cond.code yX10_pilotAtRank cX10_pilotAtRank 5 (some .int) ∈ gW := gW_in 2107 (by decide +kernel) (by decide +kernel)
theorem mvX10_pilotAtRank : MV yX10_pilotAtRank cX10_pilotAtRank 5 (some .int) 1 := ⟨wd2107, wd92, by decide +kernel, by decide +kernel, by decide +kernel, by decide⟩
theorem wd2105 : Cond.instanceMethod yX10_pilotAtRank ∈ gW := gW_in 2105 (by decide +kernel) (by decide +kernel)
theorem wd2106 : Cond.selects yX10_pilotAtRank.cls yX10_pilotAtRank yX10_pilotAtRank ∈ gW := gW_in 2106 (by decide +kernel) (by decide +kernel)
theorem wd2104 : Cond.methodLink RL 305 yX10_pilotAtRank ∈ gW := gW_in 2104 (by decide +kernel) (by decide +kernel)
theorem dL_law_2363 : decode cL_law 2363 = .ok (.aload_n 1, 1) := by decide +kernel
theorem dL_law_2364 : decode cL_law 2364 = .ok (.aload_n 0, 1) := by decide +kernel
theorem dL_law_2365 : decode cL_law 2365 = .ok (.iload 5, 2) := by decide +kernel
theorem dL_law_2367 : decode cL_law 2367 = .ok (.iconst 1, 1) := by decide +kernel
theorem dL_law_2368 : decode cL_law 2368 = .ok (.iadd, 1) := by decide +kernel
theorem dL_law_2369 : decode cL_law 2369 = .ok (.iaload, 1) := by decide +kernel
theorem dL_law_2370 : decode cL_law 2370 = .ok (.aload_n 3, 1) := by decide +kernel
theorem dL_law_2371 : decode cL_law 2371 = .ok (.invokestatic 303, 3) := by decide +kernel
theorem dL_law_2374 : decode cL_law 2374 = .ok (.istore 6, 2) := by decide +kernel
theorem dL_law_2376 : decode cL_law 2376 = .ok (.aload_n 2, 1) := by decide +kernel
theorem dL_law_2377 : decode cL_law 2377 = .ok (.aload_n 0, 1) := by decide +kernel
theorem dL_law_2378 : decode cL_law 2378 = .ok (.iload 5, 2) := by decide +kernel
theorem dL_law_2380 : decode cL_law 2380 = .ok (.iconst 1, 1) := by decide +kernel
theorem dL_law_2381 : decode cL_law 2381 = .ok (.iadd, 1) := by decide +kernel
theorem dL_law_2382 : decode cL_law 2382 = .ok (.iaload, 1) := by decide +kernel
theorem dL_law_2383 : decode cL_law 2383 = .ok (.invokevirtual 305, 3) := by decide +kernel
theorem dL_law_2386 : decode cL_law 2386 = .ok (.istore 7, 2) := by decide +kernel
theorem dL_law_2388 : decode cL_law 2388 = .ok (.aload_n 2, 1) := by decide +kernel
theorem dL_law_2389 : decode cL_law 2389 = .ok (.invokevirtual 175, 3) := by decide +kernel
theorem dL_law_2392 : decode cL_law 2392 = .ok (.iload 6, 2) := by decide +kernel
theorem dL_law_2394 : decode cL_law 2394 = .ok (.if_icmp .eq 5, 3) := by decide +kernel
theorem dL_law_2399 : decode cL_law 2399 = .ok (.iload 6, 2) := by decide +kernel
theorem dL_law_2401 : decode cL_law 2401 = .ok (.ifCond .ne 15, 3) := by decide +kernel
theorem dL_law_2404 : decode cL_law 2404 = .ok (.aload_n 3, 1) := by decide +kernel
theorem dL_law_2405 : decode cL_law 2405 = .ok (.iconst 0, 1) := by decide +kernel
theorem dL_law_2406 : decode cL_law 2406 = .ok (.laload, 1) := by decide +kernel
theorem dL_law_2407 : decode cL_law 2407 = .ok (.iload 7, 2) := by decide +kernel
theorem dL_law_2409 : decode cL_law 2409 = .ok (.i2l, 1) := by decide +kernel
theorem dL_law_2410 : decode cL_law 2410 = .ok (.lcmp, 1) := by decide +kernel
theorem dL_law_2411 : decode cL_law 2411 = .ok (.ifCond .eq 5, 3) := by decide +kernel
theorem dL_law_2416 : decode cL_law 2416 = .ok (.goto 566, 3) := by decide +kernel
theorem wd455 : Cond.code yX9_days cX9_days 1 (some .int) ∈ gW := gW_in 455 (by decide +kernel) (by decide +kernel)
theorem mvX9_days : MV yX9_days cX9_days 1 (some .int) 0 := ⟨wd455, wd78, by decide +kernel, by decide +kernel, by decide +kernel, by decide⟩
theorem wd453 : Cond.instanceMethod yX9_days ∈ gW := gW_in 453 (by decide +kernel) (by decide +kernel)
theorem wd454 : Cond.selects yX9_days.cls yX9_days yX9_days ∈ gW := gW_in 454 (by decide +kernel) (by decide +kernel)
theorem wd452 : Cond.methodLink RL 306 yX9_days ∈ gW := gW_in 452 (by decide +kernel) (by decide +kernel)
theorem wd2115 : Cond.code yX10_days cX10_days 1 (some .int) ∈ gW := gW_in 2115 (by decide +kernel) (by decide +kernel)
theorem mvX10_days : MV yX10_days cX10_days 1 (some .int) 0 := ⟨wd2115, wd92, by decide +kernel, by decide +kernel, by decide +kernel, by decide⟩
theorem wd2113 : Cond.instanceMethod yX10_days ∈ gW := gW_in 2113 (by decide +kernel) (by decide +kernel)
theorem wd2114 : Cond.selects yX10_days.cls yX10_days yX10_days ∈ gW := gW_in 2114 (by decide +kernel) (by decide +kernel)
theorem wd2112 : Cond.methodLink RL 309 yX10_days ∈ gW := gW_in 2112 (by decide +kernel) (by decide +kernel)
theorem dL_law_2419 : decode cL_law 2419 = .ok (.aload_n 1, 1) := by decide +kernel
theorem dL_law_2420 : decode cL_law 2420 = .ok (.invokevirtual 306, 3) := by decide +kernel
theorem dL_law_2423 : decode cL_law 2423 = .ok (.aload_n 2, 1) := by decide +kernel
theorem dL_law_2424 : decode cL_law 2424 = .ok (.invokevirtual 309, 3) := by decide +kernel
theorem dL_law_2427 : decode cL_law 2427 = .ok (.if_icmp .eq 555, 3) := by decide +kernel
theorem wd1493 : Cond.codeWith yL_speed cL_speed 4 (some .int) [(0, 9, 12, 21), (0, 9, 15, 15)] ∈ gW := gW_in 1493 (by decide +kernel) (by decide +kernel)
theorem mvwL_speed : MVW yL_speed cL_speed 4 (some .int) [(0, 9, 12, 21), (0, 9, 15, 15)] 3 := ⟨wd1493, wd77, by decide +kernel, by decide +kernel, by decide +kernel, by decide⟩
theorem wd1492 : Cond.static yL_speed ∈ gW := gW_in 1492 (by decide +kernel) (by decide +kernel)
theorem wd1491 : Cond.methodLink RL 310 yL_speed ∈ gW := gW_in 1491 (by decide +kernel) (by decide +kernel)
theorem wd2119 : Cond.code yX10_speed cX10_speed 2 (some .float) ∈ gW := gW_in 2119 (by decide +kernel) (by decide +kernel)
theorem mvX10_speed : MV yX10_speed cX10_speed 2 (some .float) 1 := ⟨wd2119, wd92, by decide +kernel, by decide +kernel, by decide +kernel, by decide⟩
theorem wd2117 : Cond.instanceMethod yX10_speed ∈ gW := gW_in 2117 (by decide +kernel) (by decide +kernel)
theorem wd2118 : Cond.selects yX10_speed.cls yX10_speed yX10_speed ∈ gW := gW_in 2118 (by decide +kernel) (by decide +kernel)
theorem wd2116 : Cond.methodLink RL 313 yX10_speed ∈ gW := gW_in 2116 (by decide +kernel) (by decide +kernel)
theorem dL_law_2432 : decode cL_law 2432 = .ok (.aload_n 1, 1) := by decide +kernel
theorem dL_law_2433 : decode cL_law 2433 = .ok (.aload_n 0, 1) := by decide +kernel
theorem dL_law_2434 : decode cL_law 2434 = .ok (.iload 5, 2) := by decide +kernel
theorem dL_law_2436 : decode cL_law 2436 = .ok (.iconst 1, 1) := by decide +kernel
theorem dL_law_2437 : decode cL_law 2437 = .ok (.iadd, 1) := by decide +kernel
theorem dL_law_2438 : decode cL_law 2438 = .ok (.iaload, 1) := by decide +kernel
theorem dL_law_2439 : decode cL_law 2439 = .ok (.aload 4, 2) := by decide +kernel
theorem dL_law_2441 : decode cL_law 2441 = .ok (.invokestatic 310, 3) := by decide +kernel
theorem dL_law_2444 : decode cL_law 2444 = .ok (.istore 6, 2) := by decide +kernel
theorem dL_law_2446 : decode cL_law 2446 = .ok (.aload_n 2, 1) := by decide +kernel
theorem dL_law_2447 : decode cL_law 2447 = .ok (.aload_n 0, 1) := by decide +kernel
theorem dL_law_2448 : decode cL_law 2448 = .ok (.iload 5, 2) := by decide +kernel
theorem dL_law_2450 : decode cL_law 2450 = .ok (.iconst 1, 1) := by decide +kernel
theorem dL_law_2451 : decode cL_law 2451 = .ok (.iadd, 1) := by decide +kernel
theorem dL_law_2452 : decode cL_law 2452 = .ok (.iaload, 1) := by decide +kernel
theorem dL_law_2453 : decode cL_law 2453 = .ok (.invokevirtual 313, 3) := by decide +kernel
theorem dL_law_2456 : decode cL_law 2456 = .ok (.fstore 7, 2) := by decide +kernel
theorem dL_law_2458 : decode cL_law 2458 = .ok (.aload_n 2, 1) := by decide +kernel
theorem dL_law_2459 : decode cL_law 2459 = .ok (.invokevirtual 175, 3) := by decide +kernel
theorem dL_law_2462 : decode cL_law 2462 = .ok (.iload 6, 2) := by decide +kernel
theorem dL_law_2464 : decode cL_law 2464 = .ok (.if_icmp .eq 5, 3) := by decide +kernel
theorem dL_law_2469 : decode cL_law 2469 = .ok (.iload 6, 2) := by decide +kernel
theorem dL_law_2471 : decode cL_law 2471 = .ok (.ifCond .ne 36, 3) := by decide +kernel
theorem dL_law_2474 : decode cL_law 2474 = .ok (.aload 4, 2) := by decide +kernel
theorem dL_law_2476 : decode cL_law 2476 = .ok (.iconst 0, 1) := by decide +kernel
theorem dL_law_2477 : decode cL_law 2477 = .ok (.daload, 1) := by decide +kernel
theorem dL_law_2478 : decode cL_law 2478 = .ok (.fload 7, 2) := by decide +kernel
theorem dL_law_2480 : decode cL_law 2480 = .ok (.f2d, 1) := by decide +kernel
theorem dL_law_2481 : decode cL_law 2481 = .ok (.dcmp .l, 1) := by decide +kernel
theorem dL_law_2482 : decode cL_law 2482 = .ok (.ifCond .eq 25, 3) := by decide +kernel
theorem dL_law_2507 : decode cL_law 2507 = .ok (.goto 475, 3) := by decide +kernel
theorem wd1500 : Cond.codeWith yL_meanScore cL_meanScore 3 (some .int) [(0, 7, 10, 137)] ∈ gW := gW_in 1500 (by decide +kernel) (by decide +kernel)
theorem mvwL_meanScore : MVW yL_meanScore cL_meanScore 3 (some .int) [(0, 7, 10, 137)] 2 := ⟨wd1500, wd77, by decide +kernel, by decide +kernel, by decide +kernel, by decide⟩
theorem wd1499 : Cond.static yL_meanScore ∈ gW := gW_in 1499 (by decide +kernel) (by decide +kernel)
theorem wd1498 : Cond.methodLink RL 314 yL_meanScore ∈ gW := gW_in 1498 (by decide +kernel) (by decide +kernel)
theorem wd2123 : Cond.code yX10_meanScore cX10_meanScore 3 (some .double) ∈ gW := gW_in 2123 (by decide +kernel) (by decide +kernel)
theorem mvX10_meanScore : MV yX10_meanScore cX10_meanScore 3 (some .double) 0 := ⟨wd2123, wd92, by decide +kernel, by decide +kernel, by decide +kernel, by decide⟩
theorem wd2121 : Cond.instanceMethod yX10_meanScore ∈ gW := gW_in 2121 (by decide +kernel) (by decide +kernel)
theorem wd2122 : Cond.selects yX10_meanScore.cls yX10_meanScore yX10_meanScore ∈ gW := gW_in 2122 (by decide +kernel) (by decide +kernel)
theorem wd2120 : Cond.methodLink RL 317 yX10_meanScore ∈ gW := gW_in 2120 (by decide +kernel) (by decide +kernel)
theorem dL_law_2510 : decode cL_law 2510 = .ok (.aload_n 1, 1) := by decide +kernel
theorem dL_law_2511 : decode cL_law 2511 = .ok (.aload 4, 2) := by decide +kernel
theorem dL_law_2513 : decode cL_law 2513 = .ok (.invokestatic 314, 3) := by decide +kernel
theorem dL_law_2516 : decode cL_law 2516 = .ok (.istore 6, 2) := by decide +kernel
theorem dL_law_2518 : decode cL_law 2518 = .ok (.aload_n 2, 1) := by decide +kernel
theorem dL_law_2519 : decode cL_law 2519 = .ok (.invokevirtual 317, 3) := by decide +kernel
theorem dL_law_2522 : decode cL_law 2522 = .ok (.dstore 7, 2) := by decide +kernel
theorem dL_law_2524 : decode cL_law 2524 = .ok (.aload_n 2, 1) := by decide +kernel
theorem dL_law_2525 : decode cL_law 2525 = .ok (.invokevirtual 175, 3) := by decide +kernel
theorem dL_law_2528 : decode cL_law 2528 = .ok (.iload 6, 2) := by decide +kernel
theorem dL_law_2530 : decode cL_law 2530 = .ok (.if_icmp .eq 5, 3) := by decide +kernel
theorem dL_law_2535 : decode cL_law 2535 = .ok (.iload 6, 2) := by decide +kernel
theorem dL_law_2537 : decode cL_law 2537 = .ok (.ifCond .ne 35, 3) := by decide +kernel
theorem dL_law_2540 : decode cL_law 2540 = .ok (.aload 4, 2) := by decide +kernel
theorem dL_law_2542 : decode cL_law 2542 = .ok (.iconst 0, 1) := by decide +kernel
theorem dL_law_2543 : decode cL_law 2543 = .ok (.daload, 1) := by decide +kernel
theorem dL_law_2544 : decode cL_law 2544 = .ok (.dload 7, 2) := by decide +kernel
theorem dL_law_2546 : decode cL_law 2546 = .ok (.dcmp .l, 1) := by decide +kernel
theorem dL_law_2547 : decode cL_law 2547 = .ok (.ifCond .eq 25, 3) := by decide +kernel
theorem dL_law_2572 : decode cL_law 2572 = .ok (.goto 410, 3) := by decide +kernel
theorem wd459 : Cond.code yX9_isConsistent cX9_isConsistent 1 (some .boolean) ∈ gW := gW_in 459 (by decide +kernel) (by decide +kernel)
theorem mvX9_isConsistent : MV yX9_isConsistent cX9_isConsistent 1 (some .boolean) 0 := ⟨wd459, wd78, by decide +kernel, by decide +kernel, by decide +kernel, by decide⟩
theorem wd457 : Cond.instanceMethod yX9_isConsistent ∈ gW := gW_in 457 (by decide +kernel) (by decide +kernel)
theorem wd458 : Cond.selects yX9_isConsistent.cls yX9_isConsistent yX9_isConsistent ∈ gW := gW_in 458 (by decide +kernel) (by decide +kernel)
theorem wd456 : Cond.methodLink RL 318 yX9_isConsistent ∈ gW := gW_in 456 (by decide +kernel) (by decide +kernel)
theorem wd2127 : Cond.code yX10_isConsistent cX10_isConsistent 3 (some .boolean) ∈ gW := gW_in 2127 (by decide +kernel) (by decide +kernel)
theorem mvX10_isConsistent : MV yX10_isConsistent cX10_isConsistent 3 (some .boolean) 0 := ⟨wd2127, wd92, by decide +kernel, by decide +kernel, by decide +kernel, by decide⟩
theorem wd2125 : Cond.instanceMethod yX10_isConsistent ∈ gW := gW_in 2125 (by decide +kernel) (by decide +kernel)
theorem wd2126 : Cond.selects yX10_isConsistent.cls yX10_isConsistent yX10_isConsistent ∈ gW := gW_in 2126 (by decide +kernel) (by decide +kernel)
theorem wd2124 : Cond.methodLink RL 321 yX10_isConsistent ∈ gW := gW_in 2124 (by decide +kernel) (by decide +kernel)
theorem dL_law_2575 : decode cL_law 2575 = .ok (.aload_n 1, 1) := by decide +kernel
theorem dL_law_2576 : decode cL_law 2576 = .ok (.invokevirtual 318, 3) := by decide +kernel
theorem dL_law_2579 : decode cL_law 2579 = .ok (.aload_n 2, 1) := by decide +kernel
theorem dL_law_2580 : decode cL_law 2580 = .ok (.invokevirtual 321, 3) := by decide +kernel
theorem dL_law_2583 : decode cL_law 2583 = .ok (.if_icmp .eq 399, 3) := by decide +kernel
theorem wd1528 : Cond.codeWith yL_append cL_append 4 (some .int) [(0, 9, 12, 15)] ∈ gW := gW_in 1528 (by decide +kernel) (by decide +kernel)
theorem mvwL_append : MVW yL_append cL_append 4 (some .int) [(0, 9, 12, 15)] 3 := ⟨wd1528, wd77, by decide +kernel, by decide +kernel, by decide +kernel, by decide⟩
theorem wd1527 : Cond.static yL_append ∈ gW := gW_in 1527 (by decide +kernel) (by decide +kernel)
theorem wd1526 : Cond.methodLink RL 322 yL_append ∈ gW := gW_in 1526 (by decide +kernel) (by decide +kernel)
theorem wd2153 : Cond.code yX10_append cX10_append 2 (some .int) ∈ gW := gW_in 2153 (by decide +kernel) (by decide +kernel)
theorem mvX10_append : MV yX10_append cX10_append 2 (some .int) 1 := ⟨wd2153, wd92, by decide +kernel, by decide +kernel, by decide +kernel, by decide⟩
theorem wd2151 : Cond.instanceMethod yX10_append ∈ gW := gW_in 2151 (by decide +kernel) (by decide +kernel)
theorem wd2152 : Cond.selects yX10_append.cls yX10_append yX10_append ∈ gW := gW_in 2152 (by decide +kernel) (by decide +kernel)
theorem wd2150 : Cond.methodLink RL 325 yX10_append ∈ gW := gW_in 2150 (by decide +kernel) (by decide +kernel)
theorem dL_law_2588 : decode cL_law 2588 = .ok (.aload_n 1, 1) := by decide +kernel
theorem dL_law_2589 : decode cL_law 2589 = .ok (.aload_n 0, 1) := by decide +kernel
theorem dL_law_2590 : decode cL_law 2590 = .ok (.iload 5, 2) := by decide +kernel
theorem dL_law_2592 : decode cL_law 2592 = .ok (.iconst 1, 1) := by decide +kernel
theorem dL_law_2593 : decode cL_law 2593 = .ok (.iadd, 1) := by decide +kernel
theorem dL_law_2594 : decode cL_law 2594 = .ok (.iaload, 1) := by decide +kernel
theorem dL_law_2595 : decode cL_law 2595 = .ok (.i2c, 1) := by decide +kernel
theorem dL_law_2596 : decode cL_law 2596 = .ok (.aload_n 3, 1) := by decide +kernel
theorem dL_law_2597 : decode cL_law 2597 = .ok (.invokestatic 322, 3) := by decide +kernel
theorem dL_law_2600 : decode cL_law 2600 = .ok (.istore 6, 2) := by decide +kernel
theorem dL_law_2602 : decode cL_law 2602 = .ok (.aload_n 2, 1) := by decide +kernel
theorem dL_law_2603 : decode cL_law 2603 = .ok (.aload_n 0, 1) := by decide +kernel
theorem dL_law_2604 : decode cL_law 2604 = .ok (.iload 5, 2) := by decide +kernel
theorem dL_law_2606 : decode cL_law 2606 = .ok (.iconst 1, 1) := by decide +kernel
theorem dL_law_2607 : decode cL_law 2607 = .ok (.iadd, 1) := by decide +kernel
theorem dL_law_2608 : decode cL_law 2608 = .ok (.iaload, 1) := by decide +kernel
theorem dL_law_2609 : decode cL_law 2609 = .ok (.i2c, 1) := by decide +kernel
theorem dL_law_2610 : decode cL_law 2610 = .ok (.invokevirtual 325, 3) := by decide +kernel
theorem dL_law_2613 : decode cL_law 2613 = .ok (.istore 7, 2) := by decide +kernel
theorem dL_law_2615 : decode cL_law 2615 = .ok (.aload_n 2, 1) := by decide +kernel
theorem dL_law_2616 : decode cL_law 2616 = .ok (.invokevirtual 175, 3) := by decide +kernel
theorem dL_law_2619 : decode cL_law 2619 = .ok (.iload 6, 2) := by decide +kernel
theorem dL_law_2621 : decode cL_law 2621 = .ok (.if_icmp .eq 5, 3) := by decide +kernel
theorem dL_law_2626 : decode cL_law 2626 = .ok (.iload 6, 2) := by decide +kernel
theorem dL_law_2628 : decode cL_law 2628 = .ok (.ifCond .ne 15, 3) := by decide +kernel
theorem dL_law_2631 : decode cL_law 2631 = .ok (.aload_n 3, 1) := by decide +kernel
theorem dL_law_2632 : decode cL_law 2632 = .ok (.iconst 0, 1) := by decide +kernel
theorem dL_law_2633 : decode cL_law 2633 = .ok (.laload, 1) := by decide +kernel
theorem dL_law_2634 : decode cL_law 2634 = .ok (.iload 7, 2) := by decide +kernel
theorem dL_law_2636 : decode cL_law 2636 = .ok (.i2l, 1) := by decide +kernel
theorem dL_law_2637 : decode cL_law 2637 = .ok (.lcmp, 1) := by decide +kernel
theorem dL_law_2638 : decode cL_law 2638 = .ok (.ifCond .eq 5, 3) := by decide +kernel
theorem dL_law_2643 : decode cL_law 2643 = .ok (.goto 339, 3) := by decide +kernel
theorem wd1545 : Cond.codeWith yL_run cL_run 3 (some .int) [(0, 8, 11, 13), (0, 8, 14, 23)] ∈ gW := gW_in 1545 (by decide +kernel) (by decide +kernel)
theorem mvwL_run : MVW yL_run cL_run 3 (some .int) [(0, 8, 11, 13), (0, 8, 14, 23)] 2 := ⟨wd1545, wd77, by decide +kernel, by decide +kernel, by decide +kernel, by decide⟩
theorem wd1544 : Cond.static yL_run ∈ gW := gW_in 1544 (by decide +kernel) (by decide +kernel)
theorem wd1543 : Cond.methodLink RL 326 yL_run ∈ gW := gW_in 1543 (by decide +kernel) (by decide +kernel)
theorem wd2157 : Cond.code yX10_run cX10_run 3 (some .int) ∈ gW := gW_in 2157 (by decide +kernel) (by decide +kernel)
theorem mvX10_run : MV yX10_run cX10_run 3 (some .int) 0 := ⟨wd2157, wd92, by decide +kernel, by decide +kernel, by decide +kernel, by decide⟩
theorem wd2155 : Cond.instanceMethod yX10_run ∈ gW := gW_in 2155 (by decide +kernel) (by decide +kernel)
theorem wd2156 : Cond.selects yX10_run.cls yX10_run yX10_run ∈ gW := gW_in 2156 (by decide +kernel) (by decide +kernel)
theorem wd2154 : Cond.methodLink RL 328 yX10_run ∈ gW := gW_in 2154 (by decide +kernel) (by decide +kernel)
theorem dL_law_2646 : decode cL_law 2646 = .ok (.aload_n 1, 1) := by decide +kernel
theorem dL_law_2647 : decode cL_law 2647 = .ok (.aload_n 3, 1) := by decide +kernel
theorem dL_law_2648 : decode cL_law 2648 = .ok (.invokestatic 326, 3) := by decide +kernel
theorem dL_law_2651 : decode cL_law 2651 = .ok (.istore 6, 2) := by decide +kernel
theorem dL_law_2653 : decode cL_law 2653 = .ok (.aload_n 2, 1) := by decide +kernel
theorem dL_law_2654 : decode cL_law 2654 = .ok (.invokevirtual 328, 3) := by decide +kernel
theorem dL_law_2657 : decode cL_law 2657 = .ok (.istore 7, 2) := by decide +kernel
theorem dL_law_2659 : decode cL_law 2659 = .ok (.aload_n 2, 1) := by decide +kernel
theorem dL_law_2660 : decode cL_law 2660 = .ok (.invokevirtual 175, 3) := by decide +kernel
theorem dL_law_2663 : decode cL_law 2663 = .ok (.iload 6, 2) := by decide +kernel
theorem dL_law_2665 : decode cL_law 2665 = .ok (.if_icmp .eq 5, 3) := by decide +kernel
theorem dL_law_2670 : decode cL_law 2670 = .ok (.iload 6, 2) := by decide +kernel
theorem dL_law_2672 : decode cL_law 2672 = .ok (.ifCond .ne 15, 3) := by decide +kernel
theorem dL_law_2675 : decode cL_law 2675 = .ok (.aload_n 3, 1) := by decide +kernel
theorem dL_law_2676 : decode cL_law 2676 = .ok (.iconst 0, 1) := by decide +kernel
theorem dL_law_2677 : decode cL_law 2677 = .ok (.laload, 1) := by decide +kernel
theorem dL_law_2678 : decode cL_law 2678 = .ok (.iload 7, 2) := by decide +kernel
theorem dL_law_2680 : decode cL_law 2680 = .ok (.i2l, 1) := by decide +kernel
theorem dL_law_2681 : decode cL_law 2681 = .ok (.lcmp, 1) := by decide +kernel
theorem dL_law_2682 : decode cL_law 2682 = .ok (.ifCond .eq 5, 3) := by decide +kernel
theorem dL_law_2687 : decode cL_law 2687 = .ok (.goto 295, 3) := by decide +kernel
theorem wd1632 : Cond.codeWith yL_errorPosition cL_errorPosition 3 (some .int) [(0, 8, 11, 61)] ∈ gW := gW_in 1632 (by decide +kernel) (by decide +kernel)
theorem mvwL_errorPosition : MVW yL_errorPosition cL_errorPosition 3 (some .int) [(0, 8, 11, 61)] 2 := ⟨wd1632, wd77, by decide +kernel, by decide +kernel, by decide +kernel, by decide⟩
theorem wd1631 : Cond.static yL_errorPosition ∈ gW := gW_in 1631 (by decide +kernel) (by decide +kernel)
theorem wd1630 : Cond.methodLink RL 329 yL_errorPosition ∈ gW := gW_in 1630 (by decide +kernel) (by decide +kernel)
theorem wd2223 : Cond.code yX10_errorPosition cX10_errorPosition 1 (some .int) ∈ gW := gW_in 2223 (by decide +kernel) (by decide +kernel)
theorem mvX10_errorPosition : MV yX10_errorPosition cX10_errorPosition 1 (some .int) 0 := ⟨wd2223, wd92, by decide +kernel, by decide +kernel, by decide +kernel, by decide⟩
theorem wd2221 : Cond.instanceMethod yX10_errorPosition ∈ gW := gW_in 2221 (by decide +kernel) (by decide +kernel)
theorem wd2222 : Cond.selects yX10_errorPosition.cls yX10_errorPosition yX10_errorPosition ∈ gW := gW_in 2222 (by decide +kernel) (by decide +kernel)
theorem wd2220 : Cond.methodLink RL 331 yX10_errorPosition ∈ gW := gW_in 2220 (by decide +kernel) (by decide +kernel)
theorem dL_law_2690 : decode cL_law 2690 = .ok (.aload_n 1, 1) := by decide +kernel
theorem dL_law_2691 : decode cL_law 2691 = .ok (.aload_n 3, 1) := by decide +kernel
theorem dL_law_2692 : decode cL_law 2692 = .ok (.invokestatic 329, 3) := by decide +kernel
theorem dL_law_2695 : decode cL_law 2695 = .ok (.istore 6, 2) := by decide +kernel
theorem dL_law_2697 : decode cL_law 2697 = .ok (.aload_n 2, 1) := by decide +kernel
theorem dL_law_2698 : decode cL_law 2698 = .ok (.invokevirtual 331, 3) := by decide +kernel
theorem dL_law_2701 : decode cL_law 2701 = .ok (.istore 7, 2) := by decide +kernel
theorem dL_law_2703 : decode cL_law 2703 = .ok (.aload_n 2, 1) := by decide +kernel
theorem dL_law_2704 : decode cL_law 2704 = .ok (.invokevirtual 175, 3) := by decide +kernel
theorem dL_law_2707 : decode cL_law 2707 = .ok (.iload 6, 2) := by decide +kernel
theorem dL_law_2709 : decode cL_law 2709 = .ok (.if_icmp .eq 5, 3) := by decide +kernel
theorem dL_law_2714 : decode cL_law 2714 = .ok (.iload 6, 2) := by decide +kernel
theorem dL_law_2716 : decode cL_law 2716 = .ok (.ifCond .ne 15, 3) := by decide +kernel
theorem dL_law_2719 : decode cL_law 2719 = .ok (.aload_n 3, 1) := by decide +kernel
theorem dL_law_2720 : decode cL_law 2720 = .ok (.iconst 0, 1) := by decide +kernel
theorem dL_law_2721 : decode cL_law 2721 = .ok (.laload, 1) := by decide +kernel
theorem dL_law_2722 : decode cL_law 2722 = .ok (.iload 7, 2) := by decide +kernel
theorem dL_law_2724 : decode cL_law 2724 = .ok (.i2l, 1) := by decide +kernel
theorem dL_law_2725 : decode cL_law 2725 = .ok (.lcmp, 1) := by decide +kernel
theorem dL_law_2726 : decode cL_law 2726 = .ok (.ifCond .eq 5, 3) := by decide +kernel
theorem dL_law_2731 : decode cL_law 2731 = .ok (.goto 251, 3) := by decide +kernel
theorem wd1640 : Cond.codeWith yL_failedCommand cL_failedCommand 3 (some .int) [(0, 8, 11, 61)] ∈ gW := gW_in 1640 (by decide +kernel) (by decide +kernel)
theorem mvwL_failedCommand : MVW yL_failedCommand cL_failedCommand 3 (some .int) [(0, 8, 11, 61)] 2 := ⟨wd1640, wd77, by decide +kernel, by decide +kernel, by decide +kernel, by decide⟩
theorem wd1639 : Cond.static yL_failedCommand ∈ gW := gW_in 1639 (by decide +kernel) (by decide +kernel)
theorem wd1638 : Cond.methodLink RL 332 yL_failedCommand ∈ gW := gW_in 1638 (by decide +kernel) (by decide +kernel)
theorem wd2227 : Cond.code yX10_failedCommand cX10_failedCommand 1 (some .int) ∈ gW := gW_in 2227 (by decide +kernel) (by decide +kernel)
theorem mvX10_failedCommand : MV yX10_failedCommand cX10_failedCommand 1 (some .int) 0 := ⟨wd2227, wd92, by decide +kernel, by decide +kernel, by decide +kernel, by decide⟩
theorem wd2225 : Cond.instanceMethod yX10_failedCommand ∈ gW := gW_in 2225 (by decide +kernel) (by decide +kernel)
theorem wd2226 : Cond.selects yX10_failedCommand.cls yX10_failedCommand yX10_failedCommand ∈ gW := gW_in 2226 (by decide +kernel) (by decide +kernel)
theorem wd2224 : Cond.methodLink RL 334 yX10_failedCommand ∈ gW := gW_in 2224 (by decide +kernel) (by decide +kernel)
theorem dL_law_2734 : decode cL_law 2734 = .ok (.aload_n 1, 1) := by decide +kernel
theorem dL_law_2735 : decode cL_law 2735 = .ok (.aload_n 3, 1) := by decide +kernel
theorem dL_law_2736 : decode cL_law 2736 = .ok (.invokestatic 332, 3) := by decide +kernel
theorem dL_law_2739 : decode cL_law 2739 = .ok (.istore 6, 2) := by decide +kernel
theorem dL_law_2741 : decode cL_law 2741 = .ok (.aload_n 2, 1) := by decide +kernel
theorem dL_law_2742 : decode cL_law 2742 = .ok (.invokevirtual 334, 3) := by decide +kernel
theorem dL_law_2745 : decode cL_law 2745 = .ok (.istore 7, 2) := by decide +kernel
theorem dL_law_2747 : decode cL_law 2747 = .ok (.aload_n 2, 1) := by decide +kernel
theorem dL_law_2748 : decode cL_law 2748 = .ok (.invokevirtual 175, 3) := by decide +kernel
theorem dL_law_2751 : decode cL_law 2751 = .ok (.iload 6, 2) := by decide +kernel
theorem dL_law_2753 : decode cL_law 2753 = .ok (.if_icmp .eq 5, 3) := by decide +kernel
theorem dL_law_2758 : decode cL_law 2758 = .ok (.iload 6, 2) := by decide +kernel
theorem dL_law_2760 : decode cL_law 2760 = .ok (.ifCond .ne 15, 3) := by decide +kernel
theorem dL_law_2763 : decode cL_law 2763 = .ok (.aload_n 3, 1) := by decide +kernel
theorem dL_law_2764 : decode cL_law 2764 = .ok (.iconst 0, 1) := by decide +kernel
theorem dL_law_2765 : decode cL_law 2765 = .ok (.laload, 1) := by decide +kernel
theorem dL_law_2766 : decode cL_law 2766 = .ok (.iload 7, 2) := by decide +kernel
theorem dL_law_2768 : decode cL_law 2768 = .ok (.i2l, 1) := by decide +kernel
theorem dL_law_2769 : decode cL_law 2769 = .ok (.lcmp, 1) := by decide +kernel
theorem dL_law_2770 : decode cL_law 2770 = .ok (.ifCond .eq 5, 3) := by decide +kernel
theorem dL_law_2775 : decode cL_law 2775 = .ok (.goto 207, 3) := by decide +kernel
theorem wd1648 : Cond.codeWith yL_writePilot cL_writePilot 4 (some .int) [(0, 9, 12, 21)] ∈ gW := gW_in 1648 (by decide +kernel) (by decide +kernel)
theorem mvwL_writePilot : MVW yL_writePilot cL_writePilot 4 (some .int) [(0, 9, 12, 21)] 3 := ⟨wd1648, wd77, by decide +kernel, by decide +kernel, by decide +kernel, by decide⟩
theorem wd1647 : Cond.static yL_writePilot ∈ gW := gW_in 1647 (by decide +kernel) (by decide +kernel)
theorem wd1646 : Cond.methodLink RL 335 yL_writePilot ∈ gW := gW_in 1646 (by decide +kernel) (by decide +kernel)
theorem wd2131 : Cond.code yX10_writePilot cX10_writePilot 2 (some .int) ∈ gW := gW_in 2131 (by decide +kernel) (by decide +kernel)
theorem mvX10_writePilot : MV yX10_writePilot cX10_writePilot 2 (some .int) 1 := ⟨wd2131, wd92, by decide +kernel, by decide +kernel, by decide +kernel, by decide⟩
theorem wd2129 : Cond.instanceMethod yX10_writePilot ∈ gW := gW_in 2129 (by decide +kernel) (by decide +kernel)
theorem wd2130 : Cond.selects yX10_writePilot.cls yX10_writePilot yX10_writePilot ∈ gW := gW_in 2130 (by decide +kernel) (by decide +kernel)
theorem wd2128 : Cond.methodLink RL 337 yX10_writePilot ∈ gW := gW_in 2128 (by decide +kernel) (by decide +kernel)
theorem dL_law_2778 : decode cL_law 2778 = .ok (.aload_n 1, 1) := by decide +kernel
theorem dL_law_2779 : decode cL_law 2779 = .ok (.aload_n 0, 1) := by decide +kernel
theorem dL_law_2780 : decode cL_law 2780 = .ok (.iload 5, 2) := by decide +kernel
theorem dL_law_2782 : decode cL_law 2782 = .ok (.iconst 1, 1) := by decide +kernel
theorem dL_law_2783 : decode cL_law 2783 = .ok (.iadd, 1) := by decide +kernel
theorem dL_law_2784 : decode cL_law 2784 = .ok (.iaload, 1) := by decide +kernel
theorem dL_law_2785 : decode cL_law 2785 = .ok (.aload_n 3, 1) := by decide +kernel
theorem dL_law_2786 : decode cL_law 2786 = .ok (.invokestatic 335, 3) := by decide +kernel
theorem dL_law_2789 : decode cL_law 2789 = .ok (.istore 6, 2) := by decide +kernel
theorem dL_law_2791 : decode cL_law 2791 = .ok (.aload_n 2, 1) := by decide +kernel
theorem dL_law_2792 : decode cL_law 2792 = .ok (.aload_n 0, 1) := by decide +kernel
theorem dL_law_2793 : decode cL_law 2793 = .ok (.iload 5, 2) := by decide +kernel
theorem dL_law_2795 : decode cL_law 2795 = .ok (.iconst 1, 1) := by decide +kernel
theorem dL_law_2796 : decode cL_law 2796 = .ok (.iadd, 1) := by decide +kernel
theorem dL_law_2797 : decode cL_law 2797 = .ok (.iaload, 1) := by decide +kernel
theorem dL_law_2798 : decode cL_law 2798 = .ok (.invokevirtual 337, 3) := by decide +kernel
theorem dL_law_2801 : decode cL_law 2801 = .ok (.istore 7, 2) := by decide +kernel
theorem dL_law_2803 : decode cL_law 2803 = .ok (.aload_n 2, 1) := by decide +kernel
theorem dL_law_2804 : decode cL_law 2804 = .ok (.invokevirtual 175, 3) := by decide +kernel
theorem dL_law_2807 : decode cL_law 2807 = .ok (.iload 6, 2) := by decide +kernel
theorem dL_law_2809 : decode cL_law 2809 = .ok (.if_icmp .eq 5, 3) := by decide +kernel
theorem dL_law_2814 : decode cL_law 2814 = .ok (.iload 6, 2) := by decide +kernel
theorem dL_law_2816 : decode cL_law 2816 = .ok (.ifCond .ne 15, 3) := by decide +kernel
theorem dL_law_2819 : decode cL_law 2819 = .ok (.aload_n 3, 1) := by decide +kernel
theorem dL_law_2820 : decode cL_law 2820 = .ok (.iconst 0, 1) := by decide +kernel
theorem dL_law_2821 : decode cL_law 2821 = .ok (.laload, 1) := by decide +kernel
theorem dL_law_2822 : decode cL_law 2822 = .ok (.iload 7, 2) := by decide +kernel
theorem dL_law_2824 : decode cL_law 2824 = .ok (.i2l, 1) := by decide +kernel
theorem dL_law_2825 : decode cL_law 2825 = .ok (.lcmp, 1) := by decide +kernel
theorem dL_law_2826 : decode cL_law 2826 = .ok (.ifCond .eq 5, 3) := by decide +kernel
theorem dL_law_2831 : decode cL_law 2831 = .ok (.goto 151, 3) := by decide +kernel
theorem wd578 : Cond.code yX9_writeTask cX9_writeTask 2 (some .int) ∈ gW := gW_in 578 (by decide +kernel) (by decide +kernel)
theorem mvX9_writeTask : MV yX9_writeTask cX9_writeTask 2 (some .int) 0 := ⟨wd578, wd78, by decide +kernel, by decide +kernel, by decide +kernel, by decide⟩
theorem wd576 : Cond.instanceMethod yX9_writeTask ∈ gW := gW_in 576 (by decide +kernel) (by decide +kernel)
theorem wd577 : Cond.selects yX9_writeTask.cls yX9_writeTask yX9_writeTask ∈ gW := gW_in 577 (by decide +kernel) (by decide +kernel)
theorem wd575 : Cond.methodLink RL 338 yX9_writeTask ∈ gW := gW_in 575 (by decide +kernel) (by decide +kernel)
theorem wd2145 : Cond.code yX10_writeTask cX10_writeTask 2 (some .int) ∈ gW := gW_in 2145 (by decide +kernel) (by decide +kernel)
theorem mvX10_writeTask : MV yX10_writeTask cX10_writeTask 2 (some .int) 0 := ⟨wd2145, wd92, by decide +kernel, by decide +kernel, by decide +kernel, by decide⟩
theorem wd2143 : Cond.instanceMethod yX10_writeTask ∈ gW := gW_in 2143 (by decide +kernel) (by decide +kernel)
theorem wd2144 : Cond.selects yX10_writeTask.cls yX10_writeTask yX10_writeTask ∈ gW := gW_in 2144 (by decide +kernel) (by decide +kernel)
theorem wd2142 : Cond.methodLink RL 341 yX10_writeTask ∈ gW := gW_in 2142 (by decide +kernel) (by decide +kernel)
theorem dL_law_2834 : decode cL_law 2834 = .ok (.aload_n 1, 1) := by decide +kernel
theorem dL_law_2835 : decode cL_law 2835 = .ok (.invokevirtual 338, 3) := by decide +kernel
theorem dL_law_2838 : decode cL_law 2838 = .ok (.aload_n 2, 1) := by decide +kernel
theorem dL_law_2839 : decode cL_law 2839 = .ok (.invokevirtual 341, 3) := by decide +kernel
theorem dL_law_2842 : decode cL_law 2842 = .ok (.if_icmp .eq 140, 3) := by decide +kernel
theorem wd1667 : Cond.codeWith yL_outputAt cL_outputAt 4 (some .int) [(0, 9, 12, 21)] ∈ gW := gW_in 1667 (by decide +kernel) (by decide +kernel)
theorem mvwL_outputAt : MVW yL_outputAt cL_outputAt 4 (some .int) [(0, 9, 12, 21)] 3 := ⟨wd1667, wd77, by decide +kernel, by decide +kernel, by decide +kernel, by decide⟩
theorem wd1666 : Cond.static yL_outputAt ∈ gW := gW_in 1666 (by decide +kernel) (by decide +kernel)
theorem wd1665 : Cond.methodLink RL 342 yL_outputAt ∈ gW := gW_in 1665 (by decide +kernel) (by decide +kernel)
theorem wd2149 : Cond.code yX10_outputAt cX10_outputAt 2 (some .char) ∈ gW := gW_in 2149 (by decide +kernel) (by decide +kernel)
theorem mvX10_outputAt : MV yX10_outputAt cX10_outputAt 2 (some .char) 1 := ⟨wd2149, wd92, by decide +kernel, by decide +kernel, by decide +kernel, by decide⟩
theorem wd2147 : Cond.instanceMethod yX10_outputAt ∈ gW := gW_in 2147 (by decide +kernel) (by decide +kernel)
theorem wd2148 : Cond.selects yX10_outputAt.cls yX10_outputAt yX10_outputAt ∈ gW := gW_in 2148 (by decide +kernel) (by decide +kernel)
theorem wd2146 : Cond.methodLink RL 344 yX10_outputAt ∈ gW := gW_in 2146 (by decide +kernel) (by decide +kernel)
theorem dL_law_2847 : decode cL_law 2847 = .ok (.aload_n 1, 1) := by decide +kernel
theorem dL_law_2848 : decode cL_law 2848 = .ok (.aload_n 0, 1) := by decide +kernel
theorem dL_law_2849 : decode cL_law 2849 = .ok (.iload 5, 2) := by decide +kernel
theorem dL_law_2851 : decode cL_law 2851 = .ok (.iconst 1, 1) := by decide +kernel
theorem dL_law_2852 : decode cL_law 2852 = .ok (.iadd, 1) := by decide +kernel
theorem dL_law_2853 : decode cL_law 2853 = .ok (.iaload, 1) := by decide +kernel
theorem dL_law_2854 : decode cL_law 2854 = .ok (.aload_n 3, 1) := by decide +kernel
theorem dL_law_2855 : decode cL_law 2855 = .ok (.invokestatic 342, 3) := by decide +kernel
theorem dL_law_2858 : decode cL_law 2858 = .ok (.istore 6, 2) := by decide +kernel
theorem dL_law_2860 : decode cL_law 2860 = .ok (.aload_n 2, 1) := by decide +kernel
theorem dL_law_2861 : decode cL_law 2861 = .ok (.aload_n 0, 1) := by decide +kernel
theorem dL_law_2862 : decode cL_law 2862 = .ok (.iload 5, 2) := by decide +kernel
theorem dL_law_2864 : decode cL_law 2864 = .ok (.iconst 1, 1) := by decide +kernel
theorem dL_law_2865 : decode cL_law 2865 = .ok (.iadd, 1) := by decide +kernel
theorem dL_law_2866 : decode cL_law 2866 = .ok (.iaload, 1) := by decide +kernel
theorem dL_law_2867 : decode cL_law 2867 = .ok (.invokevirtual 344, 3) := by decide +kernel
theorem dL_law_2870 : decode cL_law 2870 = .ok (.istore 7, 2) := by decide +kernel
theorem dL_law_2872 : decode cL_law 2872 = .ok (.aload_n 2, 1) := by decide +kernel
theorem dL_law_2873 : decode cL_law 2873 = .ok (.invokevirtual 175, 3) := by decide +kernel
theorem dL_law_2876 : decode cL_law 2876 = .ok (.iload 6, 2) := by decide +kernel
theorem dL_law_2878 : decode cL_law 2878 = .ok (.if_icmp .eq 5, 3) := by decide +kernel
theorem dL_law_2883 : decode cL_law 2883 = .ok (.iload 6, 2) := by decide +kernel
theorem dL_law_2885 : decode cL_law 2885 = .ok (.ifCond .ne 15, 3) := by decide +kernel
theorem dL_law_2888 : decode cL_law 2888 = .ok (.aload_n 3, 1) := by decide +kernel
theorem dL_law_2889 : decode cL_law 2889 = .ok (.iconst 0, 1) := by decide +kernel
theorem dL_law_2890 : decode cL_law 2890 = .ok (.laload, 1) := by decide +kernel
theorem dL_law_2891 : decode cL_law 2891 = .ok (.iload 7, 2) := by decide +kernel
theorem dL_law_2893 : decode cL_law 2893 = .ok (.i2l, 1) := by decide +kernel
theorem dL_law_2894 : decode cL_law 2894 = .ok (.lcmp, 1) := by decide +kernel
theorem dL_law_2895 : decode cL_law 2895 = .ok (.ifCond .eq 5, 3) := by decide +kernel
theorem dL_law_2900 : decode cL_law 2900 = .ok (.goto 82, 3) := by decide +kernel
theorem wd1685 : Cond.codeWith yL_undo cL_undo 3 (some .int) [(0, 8, 11, 15)] ∈ gW := gW_in 1685 (by decide +kernel) (by decide +kernel)
theorem mvwL_undo : MVW yL_undo cL_undo 3 (some .int) [(0, 8, 11, 15)] 2 := ⟨wd1685, wd77, by decide +kernel, by decide +kernel, by decide +kernel, by decide⟩
theorem wd1684 : Cond.static yL_undo ∈ gW := gW_in 1684 (by decide +kernel) (by decide +kernel)
theorem wd1683 : Cond.methodLink RL 345 yL_undo ∈ gW := gW_in 1683 (by decide +kernel) (by decide +kernel)
theorem wd2231 : Cond.code yX10_undo cX10_undo 1 (some .int) ∈ gW := gW_in 2231 (by decide +kernel) (by decide +kernel)
theorem mvX10_undo : MV yX10_undo cX10_undo 1 (some .int) 0 := ⟨wd2231, wd92, by decide +kernel, by decide +kernel, by decide +kernel, by decide⟩
theorem wd2229 : Cond.instanceMethod yX10_undo ∈ gW := gW_in 2229 (by decide +kernel) (by decide +kernel)
theorem wd2230 : Cond.selects yX10_undo.cls yX10_undo yX10_undo ∈ gW := gW_in 2230 (by decide +kernel) (by decide +kernel)
theorem wd2228 : Cond.methodLink RL 347 yX10_undo ∈ gW := gW_in 2228 (by decide +kernel) (by decide +kernel)
theorem dL_law_2903 : decode cL_law 2903 = .ok (.aload_n 1, 1) := by decide +kernel
theorem dL_law_2904 : decode cL_law 2904 = .ok (.aload_n 3, 1) := by decide +kernel
theorem dL_law_2905 : decode cL_law 2905 = .ok (.invokestatic 345, 3) := by decide +kernel
theorem dL_law_2908 : decode cL_law 2908 = .ok (.istore 6, 2) := by decide +kernel
theorem dL_law_2910 : decode cL_law 2910 = .ok (.aload_n 2, 1) := by decide +kernel
theorem dL_law_2911 : decode cL_law 2911 = .ok (.invokevirtual 347, 3) := by decide +kernel
theorem dL_law_2914 : decode cL_law 2914 = .ok (.istore 7, 2) := by decide +kernel
theorem dL_law_2916 : decode cL_law 2916 = .ok (.aload_n 2, 1) := by decide +kernel
theorem dL_law_2917 : decode cL_law 2917 = .ok (.invokevirtual 175, 3) := by decide +kernel
theorem dL_law_2920 : decode cL_law 2920 = .ok (.iload 6, 2) := by decide +kernel
theorem dL_law_2922 : decode cL_law 2922 = .ok (.if_icmp .eq 5, 3) := by decide +kernel
theorem dL_law_2927 : decode cL_law 2927 = .ok (.iload 6, 2) := by decide +kernel
theorem dL_law_2929 : decode cL_law 2929 = .ok (.ifCond .ne 15, 3) := by decide +kernel
theorem dL_law_2932 : decode cL_law 2932 = .ok (.aload_n 3, 1) := by decide +kernel
theorem dL_law_2933 : decode cL_law 2933 = .ok (.iconst 0, 1) := by decide +kernel
theorem dL_law_2934 : decode cL_law 2934 = .ok (.laload, 1) := by decide +kernel
theorem dL_law_2935 : decode cL_law 2935 = .ok (.iload 7, 2) := by decide +kernel
theorem dL_law_2937 : decode cL_law 2937 = .ok (.i2l, 1) := by decide +kernel
theorem dL_law_2938 : decode cL_law 2938 = .ok (.lcmp, 1) := by decide +kernel
theorem dL_law_2939 : decode cL_law 2939 = .ok (.ifCond .eq 5, 3) := by decide +kernel
theorem dL_law_2944 : decode cL_law 2944 = .ok (.goto 38, 3) := by decide +kernel
theorem wd951 : Cond.code yX9_save cX9_save 1 none ∈ gW := gW_in 951 (by decide +kernel) (by decide +kernel)
theorem mvX9_save : MV yX9_save cX9_save 1 none 0 := ⟨wd951, wd78, by decide +kernel, by decide +kernel, by decide +kernel, by decide⟩
theorem wd949 : Cond.instanceMethod yX9_save ∈ gW := gW_in 949 (by decide +kernel) (by decide +kernel)
theorem wd950 : Cond.selects yX9_save.cls yX9_save yX9_save ∈ gW := gW_in 950 (by decide +kernel) (by decide +kernel)
theorem wd948 : Cond.methodLink RL 348 yX9_save ∈ gW := gW_in 948 (by decide +kernel) (by decide +kernel)
theorem wd2235 : Cond.code yX10_save cX10_save 1 none ∈ gW := gW_in 2235 (by decide +kernel) (by decide +kernel)
theorem mvX10_save : MV yX10_save cX10_save 1 none 0 := ⟨wd2235, wd92, by decide +kernel, by decide +kernel, by decide +kernel, by decide⟩
theorem wd2233 : Cond.instanceMethod yX10_save ∈ gW := gW_in 2233 (by decide +kernel) (by decide +kernel)
theorem wd2234 : Cond.selects yX10_save.cls yX10_save yX10_save ∈ gW := gW_in 2234 (by decide +kernel) (by decide +kernel)
theorem wd2232 : Cond.methodLink RL 351 yX10_save ∈ gW := gW_in 2232 (by decide +kernel) (by decide +kernel)
theorem dL_law_2947 : decode cL_law 2947 = .ok (.aload_n 1, 1) := by decide +kernel
theorem dL_law_2948 : decode cL_law 2948 = .ok (.invokevirtual 348, 3) := by decide +kernel
theorem dL_law_2951 : decode cL_law 2951 = .ok (.aload_n 2, 1) := by decide +kernel
theorem dL_law_2952 : decode cL_law 2952 = .ok (.invokevirtual 351, 3) := by decide +kernel
theorem dL_law_2955 : decode cL_law 2955 = .ok (.goto 27, 3) := by decide +kernel
theorem wd1697 : Cond.codeWith yL_restore cL_restore 2 (some .int) [(0, 4, 7, 15)] ∈ gW := gW_in 1697 (by decide +kernel) (by decide +kernel)
theorem mvwL_restore : MVW yL_restore cL_restore 2 (some .int) [(0, 4, 7, 15)] 1 := ⟨wd1697, wd77, by decide +kernel, by decide +kernel, by decide +kernel, by decide⟩
theorem wd1696 : Cond.static yL_restore ∈ gW := gW_in 1696 (by decide +kernel) (by decide +kernel)
theorem wd1695 : Cond.methodLink RL 352 yL_restore ∈ gW := gW_in 1695 (by decide +kernel) (by decide +kernel)
theorem wd2239 : Cond.code yX10_restore cX10_restore 1 none ∈ gW := gW_in 2239 (by decide +kernel) (by decide +kernel)
theorem mvX10_restore : MV yX10_restore cX10_restore 1 none 0 := ⟨wd2239, wd92, by decide +kernel, by decide +kernel, by decide +kernel, by decide⟩
theorem wd2237 : Cond.instanceMethod yX10_restore ∈ gW := gW_in 2237 (by decide +kernel) (by decide +kernel)
theorem wd2238 : Cond.selects yX10_restore.cls yX10_restore yX10_restore ∈ gW := gW_in 2238 (by decide +kernel) (by decide +kernel)
theorem wd2236 : Cond.methodLink RL 355 yX10_restore ∈ gW := gW_in 2236 (by decide +kernel) (by decide +kernel)
theorem dL_law_2958 : decode cL_law 2958 = .ok (.aload_n 1, 1) := by decide +kernel
theorem dL_law_2959 : decode cL_law 2959 = .ok (.invokestatic 352, 3) := by decide +kernel
theorem dL_law_2962 : decode cL_law 2962 = .ok (.istore 6, 2) := by decide +kernel
theorem dL_law_2964 : decode cL_law 2964 = .ok (.aload_n 2, 1) := by decide +kernel
theorem dL_law_2965 : decode cL_law 2965 = .ok (.invokevirtual 355, 3) := by decide +kernel
theorem dL_law_2968 : decode cL_law 2968 = .ok (.aload_n 2, 1) := by decide +kernel
theorem dL_law_2969 : decode cL_law 2969 = .ok (.invokevirtual 175, 3) := by decide +kernel
theorem dL_law_2972 : decode cL_law 2972 = .ok (.iload 6, 2) := by decide +kernel
theorem dL_law_2974 : decode cL_law 2974 = .ok (.if_icmp .eq 5, 3) := by decide +kernel
theorem dL_law_2979 : decode cL_law 2979 = .ok (.goto 3, 3) := by decide +kernel
