/-! decode rows of the law's body, 14 -/
theorem dL_law_3390 : decode code 3390 = .ok (.iconst 0, 1) := by decide +kernel
theorem dL_law_3391 : decode code 3391 = .ok (.ireturn, 1) := by decide +kernel
theorem dL_law_3392 : decode code 3392 = .ok (.iload 5, 2) := by decide +kernel
theorem dL_law_3394 : decode code 3394 = .ok (.ifCond .ne 15, 3) := by decide +kernel
theorem dL_law_3397 : decode code 3397 = .ok (.aload_n 3, 1) := by decide +kernel
theorem dL_law_3398 : decode code 3398 = .ok (.iconst 0, 1) := by decide +kernel
theorem dL_law_3399 : decode code 3399 = .ok (.laload, 1) := by decide +kernel
theorem dL_law_3400 : decode code 3400 = .ok (.iload 6, 2) := by decide +kernel
theorem dL_law_3402 : decode code 3402 = .ok (.i2l, 1) := by decide +kernel
theorem dL_law_3403 : decode code 3403 = .ok (.lcmp, 1) := by decide +kernel
theorem dL_law_3404 : decode code 3404 = .ok (.ifCond .eq 5, 3) := by decide +kernel
theorem dL_law_3407 : decode code 3407 = .ok (.iconst 0, 1) := by decide +kernel
theorem dL_law_3408 : decode code 3408 = .ok (.ireturn, 1) := by decide +kernel
theorem dL_law_3409 : decode code 3409 = .ok (.goto 72, 3) := by decide +kernel
theorem dL_law_3412 : decode code 3412 = .ok (.aload_n 1, 1) := by decide +kernel
theorem dL_law_3413 : decode code 3413 = .ok (.invokevirtual 378, 3) := by decide +kernel
theorem dL_law_3416 : decode code 3416 = .ok (.aload_n 2, 1) := by decide +kernel
theorem dL_law_3417 : decode code 3417 = .ok (.invokevirtual 381, 3) := by decide +kernel
theorem dL_law_3420 : decode code 3420 = .ok (.if_icmp .eq 61, 3) := by decide +kernel
theorem dL_law_3423 : decode code 3423 = .ok (.iconst 0, 1) := by decide +kernel
theorem dL_law_3424 : decode code 3424 = .ok (.ireturn, 1) := by decide +kernel
theorem dL_law_3425 : decode code 3425 = .ok (.aload_n 1, 1) := by decide +kernel
theorem dL_law_3426 : decode code 3426 = .ok (.aload_n 0, 1) := by decide +kernel
theorem dL_law_3427 : decode code 3427 = .ok (.iload 4, 2) := by decide +kernel
theorem dL_law_3429 : decode code 3429 = .ok (.iconst 1, 1) := by decide +kernel
theorem dL_law_3430 : decode code 3430 = .ok (.iadd, 1) := by decide +kernel
theorem dL_law_3431 : decode code 3431 = .ok (.iaload, 1) := by decide +kernel
theorem dL_law_3432 : decode code 3432 = .ok (.aload_n 3, 1) := by decide +kernel
theorem dL_law_3433 : decode code 3433 = .ok (.invokestatic 382, 3) := by decide +kernel
theorem dL_law_3436 : decode code 3436 = .ok (.istore 5, 2) := by decide +kernel
theorem dL_law_3438 : decode code 3438 = .ok (.aload_n 2, 1) := by decide +kernel
theorem dL_law_3439 : decode code 3439 = .ok (.aload_n 0, 1) := by decide +kernel
theorem dL_law_3440 : decode code 3440 = .ok (.iload 4, 2) := by decide +kernel
theorem dL_law_3442 : decode code 3442 = .ok (.iconst 1, 1) := by decide +kernel
theorem dL_law_3443 : decode code 3443 = .ok (.iadd, 1) := by decide +kernel
theorem dL_law_3444 : decode code 3444 = .ok (.iaload, 1) := by decide +kernel
theorem dL_law_3445 : decode code 3445 = .ok (.invokevirtual 384, 3) := by decide +kernel
theorem dL_law_3448 : decode code 3448 = .ok (.istore 6, 2) := by decide +kernel
theorem dL_law_3450 : decode code 3450 = .ok (.aload_n 2, 1) := by decide +kernel
theorem dL_law_3451 : decode code 3451 = .ok (.invokevirtual 166, 3) := by decide +kernel
theorem dL_law_3454 : decode code 3454 = .ok (.iload 5, 2) := by decide +kernel
theorem dL_law_3456 : decode code 3456 = .ok (.if_icmp .eq 5, 3) := by decide +kernel
theorem dL_law_3459 : decode code 3459 = .ok (.iconst 0, 1) := by decide +kernel
theorem dL_law_3460 : decode code 3460 = .ok (.ireturn, 1) := by decide +kernel
theorem dL_law_3461 : decode code 3461 = .ok (.iload 5, 2) := by decide +kernel
theorem dL_law_3463 : decode code 3463 = .ok (.ifCond .ne 15, 3) := by decide +kernel
theorem dL_law_3466 : decode code 3466 = .ok (.aload_n 3, 1) := by decide +kernel
theorem dL_law_3467 : decode code 3467 = .ok (.iconst 0, 1) := by decide +kernel
theorem dL_law_3468 : decode code 3468 = .ok (.laload, 1) := by decide +kernel
theorem dL_law_3469 : decode code 3469 = .ok (.iload 6, 2) := by decide +kernel
theorem dL_law_3471 : decode code 3471 = .ok (.i2l, 1) := by decide +kernel
theorem dL_law_3472 : decode code 3472 = .ok (.lcmp, 1) := by decide +kernel
theorem dL_law_3473 : decode code 3473 = .ok (.ifCond .eq 5, 3) := by decide +kernel
theorem dL_law_3476 : decode code 3476 = .ok (.iconst 0, 1) := by decide +kernel
theorem dL_law_3477 : decode code 3477 = .ok (.ireturn, 1) := by decide +kernel
theorem dL_law_3478 : decode code 3478 = .ok (.goto 3, 3) := by decide +kernel
theorem dL_law_3481 : decode code 3481 = .ok (.iinc 4 6, 3) := by decide +kernel
theorem dL_law_3484 : decode code 3484 = .ok (.goto (-3461), 3) := by decide +kernel
theorem dL_law_3487 : decode code 3487 = .ok (.iconst 1, 1) := by decide +kernel
theorem dL_law_3488 : decode code 3488 = .ok (.ireturn, 1) := by decide +kernel
