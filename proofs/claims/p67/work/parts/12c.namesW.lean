/-! decode rows of the law's entry, 2 -/
theorem dL_law_258 : decode code 258 = .ok (.invokevirtual 127, 3) := by decide +kernel
theorem dL_law_261 : decode code 261 = .ok (.ifCond .ne 5, 3) := by decide +kernel
theorem dL_law_264 : decode code 264 = .ok (.iconst 0, 1) := by decide +kernel
theorem dL_law_265 : decode code 265 = .ok (.ireturn, 1) := by decide +kernel
theorem dL_law_266 : decode code 266 = .ok (.goto 228, 3) := by decide +kernel
theorem dL_law_269 : decode code 269 = .ok (.iload 5, 2) := by decide +kernel
theorem dL_law_271 : decode code 271 = .ok (.bipush 8, 2) := by decide +kernel
theorem dL_law_273 : decode code 273 = .ok (.irem, 1) := by decide +kernel
theorem dL_law_274 : decode code 274 = .ok (.iconst 4, 1) := by decide +kernel
theorem dL_law_275 : decode code 275 = .ok (.if_icmp .ne 82, 3) := by decide +kernel
theorem dL_law_278 : decode code 278 = .ok (.aload_n 3, 1) := by decide +kernel
theorem dL_law_279 : decode code 279 = .ok (.getfield 157, 3) := by decide +kernel
theorem dL_law_282 : decode code 282 = .ok (.ifCond .le 75, 3) := by decide +kernel
theorem dL_law_285 : decode code 285 = .ok (.aload_n 1, 1) := by decide +kernel
theorem dL_law_286 : decode code 286 = .ok (.iload 5, 2) := by decide +kernel
theorem dL_law_288 : decode code 288 = .ok (.ldc 160, 2) := by decide +kernel
theorem dL_law_290 : decode code 290 = .ok (.idiv, 1) := by decide +kernel
theorem dL_law_291 : decode code 291 = .ok (.aload_n 3, 1) := by decide +kernel
theorem dL_law_292 : decode code 292 = .ok (.getfield 157, 3) := by decide +kernel
theorem dL_law_295 : decode code 295 = .ok (.irem, 1) := by decide +kernel
theorem dL_law_296 : decode code 296 = .ok (.invokevirtual 84, 3) := by decide +kernel
theorem dL_law_299 : decode code 299 = .ok (.aload_n 1, 1) := by decide +kernel
theorem dL_law_300 : decode code 300 = .ok (.invokevirtual 70, 3) := by decide +kernel
theorem dL_law_303 : decode code 303 = .ok (.if_icmp .le 54, 3) := by decide +kernel
theorem dL_law_306 : decode code 306 = .ok (.aload_n 3, 1) := by decide +kernel
theorem dL_law_307 : decode code 307 = .ok (.iload 5, 2) := by decide +kernel
theorem dL_law_309 : decode code 309 = .ok (.ldc 160, 2) := by decide +kernel
theorem dL_law_311 : decode code 311 = .ok (.idiv, 1) := by decide +kernel
theorem dL_law_312 : decode code 312 = .ok (.aload_n 3, 1) := by decide +kernel
theorem dL_law_313 : decode code 313 = .ok (.getfield 157, 3) := by decide +kernel
theorem dL_law_316 : decode code 316 = .ok (.irem, 1) := by decide +kernel
theorem dL_law_317 : decode code 317 = .ok (.invokevirtual 161, 3) := by decide +kernel
theorem dL_law_320 : decode code 320 = .ok (.aload_n 3, 1) := by decide +kernel
theorem dL_law_321 : decode code 321 = .ok (.invokevirtual 165, 3) := by decide +kernel
theorem dL_law_324 : decode code 324 = .ok (.istore 10, 2) := by decide +kernel
theorem dL_law_326 : decode code 326 = .ok (.aload_n 1, 1) := by decide +kernel
theorem dL_law_327 : decode code 327 = .ok (.iload 5, 2) := by decide +kernel
theorem dL_law_329 : decode code 329 = .ok (.ldc 160, 2) := by decide +kernel
theorem dL_law_331 : decode code 331 = .ok (.idiv, 1) := by decide +kernel
theorem dL_law_332 : decode code 332 = .ok (.aload_n 1, 1) := by decide +kernel
theorem dL_law_333 : decode code 333 = .ok (.invokevirtual 73, 3) := by decide +kernel
theorem dL_law_336 : decode code 336 = .ok (.irem, 1) := by decide +kernel
theorem dL_law_337 : decode code 337 = .ok (.invokevirtual 87, 3) := by decide +kernel
theorem dL_law_340 : decode code 340 = .ok (.iload 10, 2) := by decide +kernel
theorem dL_law_342 : decode code 342 = .ok (.if_icmp .ne 10, 3) := by decide +kernel
theorem dL_law_345 : decode code 345 = .ok (.aload_n 3, 1) := by decide +kernel
theorem dL_law_346 : decode code 346 = .ok (.invokevirtual 127, 3) := by decide +kernel
theorem dL_law_349 : decode code 349 = .ok (.ifCond .ne 5, 3) := by decide +kernel
theorem dL_law_352 : decode code 352 = .ok (.iconst 0, 1) := by decide +kernel
theorem dL_law_353 : decode code 353 = .ok (.ireturn, 1) := by decide +kernel
theorem dL_law_354 : decode code 354 = .ok (.goto 140, 3) := by decide +kernel
theorem dL_law_357 : decode code 357 = .ok (.iload 5, 2) := by decide +kernel
theorem dL_law_359 : decode code 359 = .ok (.bipush 8, 2) := by decide +kernel
theorem dL_law_361 : decode code 361 = .ok (.irem, 1) := by decide +kernel
theorem dL_law_362 : decode code 362 = .ok (.iconst 5, 1) := by decide +kernel
theorem dL_law_363 : decode code 363 = .ok (.if_icmp .ne 122, 3) := by decide +kernel
theorem dL_law_366 : decode code 366 = .ok (.iload 8, 2) := by decide +kernel
theorem dL_law_368 : decode code 368 = .ok (.aload_n 1, 1) := by decide +kernel
theorem dL_law_369 : decode code 369 = .ok (.invokevirtual 70, 3) := by decide +kernel
theorem dL_law_372 : decode code 372 = .ok (.if_icmp .lt 113, 3) := by decide +kernel
theorem dL_law_375 : decode code 375 = .ok (.aload_n 3, 1) := by decide +kernel
theorem dL_law_376 : decode code 376 = .ok (.getfield 157, 3) := by decide +kernel
theorem dL_law_379 : decode code 379 = .ok (.bipush 20, 2) := by decide +kernel
theorem dL_law_381 : decode code 381 = .ok (.if_icmp .ge 104, 3) := by decide +kernel
theorem dL_law_384 : decode code 384 = .ok (.aload_n 3, 1) := by decide +kernel
theorem dL_law_385 : decode code 385 = .ok (.iload 7, 2) := by decide +kernel
theorem dL_law_387 : decode code 387 = .ok (.iload 8, 2) := by decide +kernel
theorem dL_law_389 : decode code 389 = .ok (.iload 8, 2) := by decide +kernel
theorem dL_law_391 : decode code 391 = .ok (.aload_n 1, 1) := by decide +kernel
theorem dL_law_392 : decode code 392 = .ok (.iload 6, 2) := by decide +kernel
theorem dL_law_394 : decode code 394 = .ok (.invokevirtual 168, 3) := by decide +kernel
theorem dL_law_397 : decode code 397 = .ok (.iadd, 1) := by decide +kernel
theorem dL_law_398 : decode code 398 = .ok (.invokevirtual 171, 3) := by decide +kernel
theorem dL_law_401 : decode code 401 = .ok (.aload_n 1, 1) := by decide +kernel
theorem dL_law_402 : decode code 402 = .ok (.iload 6, 2) := by decide +kernel
theorem dL_law_404 : decode code 404 = .ok (.iload 7, 2) := by decide +kernel
theorem dL_law_406 : decode code 406 = .ok (.iload 8, 2) := by decide +kernel
theorem dL_law_408 : decode code 408 = .ok (.invokevirtual 76, 3) := by decide +kernel
theorem dL_law_411 : decode code 411 = .ok (.ifCond .ne 7, 3) := by decide +kernel
theorem dL_law_414 : decode code 414 = .ok (.iconst 1, 1) := by decide +kernel
theorem dL_law_415 : decode code 415 = .ok (.goto 4, 3) := by decide +kernel
theorem dL_law_418 : decode code 418 = .ok (.iconst 0, 1) := by decide +kernel
theorem dL_law_419 : decode code 419 = .ok (.if_icmp .eq 5, 3) := by decide +kernel
theorem dL_law_422 : decode code 422 = .ok (.iconst 0, 1) := by decide +kernel
theorem dL_law_423 : decode code 423 = .ok (.ireturn, 1) := by decide +kernel
theorem dL_law_424 : decode code 424 = .ok (.aload_n 3, 1) := by decide +kernel
theorem dL_law_425 : decode code 425 = .ok (.iload 7, 2) := by decide +kernel
theorem dL_law_427 : decode code 427 = .ok (.iload 8, 2) := by decide +kernel
theorem dL_law_429 : decode code 429 = .ok (.iload 8, 2) := by decide +kernel
theorem dL_law_431 : decode code 431 = .ok (.aload_n 1, 1) := by decide +kernel
theorem dL_law_432 : decode code 432 = .ok (.iload 6, 2) := by decide +kernel
theorem dL_law_434 : decode code 434 = .ok (.invokevirtual 168, 3) := by decide +kernel
theorem dL_law_437 : decode code 437 = .ok (.iadd, 1) := by decide +kernel
theorem dL_law_438 : decode code 438 = .ok (.invokevirtual 171, 3) := by decide +kernel
theorem dL_law_441 : decode code 441 = .ok (.ifCond .eq 53, 3) := by decide +kernel
theorem dL_law_444 : decode code 444 = .ok (.aload_n 3, 1) := by decide +kernel
theorem dL_law_445 : decode code 445 = .ok (.iload 6, 2) := by decide +kernel
theorem dL_law_447 : decode code 447 = .ok (.iload 7, 2) := by decide +kernel
theorem dL_law_449 : decode code 449 = .ok (.iload 8, 2) := by decide +kernel
theorem dL_law_451 : decode code 451 = .ok (.invokevirtual 139, 3) := by decide +kernel
theorem dL_law_454 : decode code 454 = .ok (.aload_n 1, 1) := by decide +kernel
theorem dL_law_455 : decode code 455 = .ok (.iload 6, 2) := by decide +kernel
theorem dL_law_457 : decode code 457 = .ok (.iload 7, 2) := by decide +kernel
theorem dL_law_459 : decode code 459 = .ok (.iload 8, 2) := by decide +kernel
theorem dL_law_461 : decode code 461 = .ok (.invokevirtual 80, 3) := by decide +kernel
theorem dL_law_464 : decode code 464 = .ok (.iload 8, 2) := by decide +kernel
theorem dL_law_466 : decode code 466 = .ok (.aload_n 1, 1) := by decide +kernel
theorem dL_law_467 : decode code 467 = .ok (.iload 6, 2) := by decide +kernel
theorem dL_law_469 : decode code 469 = .ok (.invokevirtual 168, 3) := by decide +kernel
theorem dL_law_472 : decode code 472 = .ok (.iadd, 1) := by decide +kernel
theorem dL_law_473 : decode code 473 = .ok (.if_icmp .ne 10, 3) := by decide +kernel
theorem dL_law_476 : decode code 476 = .ok (.aload_n 3, 1) := by decide +kernel
theorem dL_law_477 : decode code 477 = .ok (.invokevirtual 127, 3) := by decide +kernel
theorem dL_law_480 : decode code 480 = .ok (.ifCond .ne 14, 3) := by decide +kernel
theorem dL_law_483 : decode code 483 = .ok (.iconst 0, 1) := by decide +kernel
theorem dL_law_484 : decode code 484 = .ok (.ireturn, 1) := by decide +kernel
theorem dL_law_485 : decode code 485 = .ok (.aload_n 1, 1) := by decide +kernel
theorem dL_law_486 : decode code 486 = .ok (.iload 5, 2) := by decide +kernel
theorem dL_law_488 : decode code 488 = .ok (.bipush 8, 2) := by decide +kernel
theorem dL_law_490 : decode code 490 = .ok (.idiv, 1) := by decide +kernel
theorem dL_law_491 : decode code 491 = .ok (.invokestatic 175, 3) := by decide +kernel
theorem dL_law_494 : decode code 494 = .ok (.iinc 4 1, 3) := by decide +kernel
theorem dL_law_497 : decode code 497 = .ok (.goto (-445), 3) := by decide +kernel
theorem dL_law_500 : decode code 500 = .ok (.aload_n 1, 1) := by decide +kernel
theorem dL_law_501 : decode code 501 = .ok (.invokevirtual 179, 3) := by decide +kernel
theorem dL_law_504 : decode code 504 = .ok (.ifCond .ne 7, 3) := by decide +kernel
theorem dL_law_507 : decode code 507 = .ok (.iconst 1, 1) := by decide +kernel
theorem dL_law_508 : decode code 508 = .ok (.goto 4, 3) := by decide +kernel
theorem dL_law_511 : decode code 511 = .ok (.iconst 0, 1) := by decide +kernel
theorem dL_law_512 : decode code 512 = .ok (.ireturn, 1) := by decide +kernel
