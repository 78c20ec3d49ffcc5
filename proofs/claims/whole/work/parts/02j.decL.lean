/-! decode rows of the law's body, 10 -/
theorem dL_law_2411 : decode code 2411 = .ok (.iaload, 1) := by decide +kernel
theorem dL_law_2412 : decode code 2412 = .ok (.invokevirtual 307, 3) := by decide +kernel
theorem dL_law_2415 : decode code 2415 = .ok (.istore 6, 2) := by decide +kernel
theorem dL_law_2417 : decode code 2417 = .ok (.aload_n 2, 1) := by decide +kernel
theorem dL_law_2418 : decode code 2418 = .ok (.invokevirtual 166, 3) := by decide +kernel
theorem dL_law_2421 : decode code 2421 = .ok (.iload 5, 2) := by decide +kernel
theorem dL_law_2423 : decode code 2423 = .ok (.if_icmp .eq 5, 3) := by decide +kernel
theorem dL_law_2426 : decode code 2426 = .ok (.iconst 0, 1) := by decide +kernel
theorem dL_law_2427 : decode code 2427 = .ok (.ireturn, 1) := by decide +kernel
theorem dL_law_2428 : decode code 2428 = .ok (.iload 5, 2) := by decide +kernel
theorem dL_law_2430 : decode code 2430 = .ok (.ifCond .ne 22, 3) := by decide +kernel
theorem dL_law_2433 : decode code 2433 = .ok (.aload_n 3, 1) := by decide +kernel
theorem dL_law_2434 : decode code 2434 = .ok (.iconst 0, 1) := by decide +kernel
theorem dL_law_2435 : decode code 2435 = .ok (.laload, 1) := by decide +kernel
theorem dL_law_2436 : decode code 2436 = .ok (.iload 6, 2) := by decide +kernel
theorem dL_law_2438 : decode code 2438 = .ok (.ifCond .eq 7, 3) := by decide +kernel
theorem dL_law_2441 : decode code 2441 = .ok (.lconst 1, 1) := by decide +kernel
theorem dL_law_2442 : decode code 2442 = .ok (.goto 4, 3) := by decide +kernel
theorem dL_law_2445 : decode code 2445 = .ok (.lconst 0, 1) := by decide +kernel
theorem dL_law_2446 : decode code 2446 = .ok (.lcmp, 1) := by decide +kernel
theorem dL_law_2447 : decode code 2447 = .ok (.ifCond .eq 5, 3) := by decide +kernel
theorem dL_law_2450 : decode code 2450 = .ok (.iconst 0, 1) := by decide +kernel
theorem dL_law_2451 : decode code 2451 = .ok (.ireturn, 1) := by decide +kernel
theorem dL_law_2452 : decode code 2452 = .ok (.goto 1029, 3) := by decide +kernel
theorem dL_law_2455 : decode code 2455 = .ok (.aload_n 1, 1) := by decide +kernel
theorem dL_law_2456 : decode code 2456 = .ok (.aload_n 0, 1) := by decide +kernel
theorem dL_law_2457 : decode code 2457 = .ok (.iload 4, 2) := by decide +kernel
theorem dL_law_2459 : decode code 2459 = .ok (.iconst 1, 1) := by decide +kernel
theorem dL_law_2460 : decode code 2460 = .ok (.iadd, 1) := by decide +kernel
theorem dL_law_2461 : decode code 2461 = .ok (.iaload, 1) := by decide +kernel
theorem dL_law_2462 : decode code 2462 = .ok (.aload_n 3, 1) := by decide +kernel
theorem dL_law_2463 : decode code 2463 = .ok (.invokestatic 308, 3) := by decide +kernel
theorem dL_law_2466 : decode code 2466 = .ok (.istore 5, 2) := by decide +kernel
theorem dL_law_2468 : decode code 2468 = .ok (.aload_n 2, 1) := by decide +kernel
theorem dL_law_2469 : decode code 2469 = .ok (.aload_n 0, 1) := by decide +kernel
theorem dL_law_2470 : decode code 2470 = .ok (.iload 4, 2) := by decide +kernel
theorem dL_law_2472 : decode code 2472 = .ok (.iconst 1, 1) := by decide +kernel
theorem dL_law_2473 : decode code 2473 = .ok (.iadd, 1) := by decide +kernel
theorem dL_law_2474 : decode code 2474 = .ok (.iaload, 1) := by decide +kernel
theorem dL_law_2475 : decode code 2475 = .ok (.invokevirtual 310, 3) := by decide +kernel
theorem dL_law_2478 : decode code 2478 = .ok (.istore 6, 2) := by decide +kernel
theorem dL_law_2480 : decode code 2480 = .ok (.aload_n 2, 1) := by decide +kernel
theorem dL_law_2481 : decode code 2481 = .ok (.invokevirtual 166, 3) := by decide +kernel
theorem dL_law_2484 : decode code 2484 = .ok (.iload 5, 2) := by decide +kernel
theorem dL_law_2486 : decode code 2486 = .ok (.if_icmp .eq 5, 3) := by decide +kernel
theorem dL_law_2489 : decode code 2489 = .ok (.iconst 0, 1) := by decide +kernel
theorem dL_law_2490 : decode code 2490 = .ok (.ireturn, 1) := by decide +kernel
theorem dL_law_2491 : decode code 2491 = .ok (.iload 5, 2) := by decide +kernel
theorem dL_law_2493 : decode code 2493 = .ok (.ifCond .ne 15, 3) := by decide +kernel
theorem dL_law_2496 : decode code 2496 = .ok (.aload_n 3, 1) := by decide +kernel
theorem dL_law_2497 : decode code 2497 = .ok (.iconst 0, 1) := by decide +kernel
theorem dL_law_2498 : decode code 2498 = .ok (.laload, 1) := by decide +kernel
theorem dL_law_2499 : decode code 2499 = .ok (.iload 6, 2) := by decide +kernel
theorem dL_law_2501 : decode code 2501 = .ok (.i2l, 1) := by decide +kernel
theorem dL_law_2502 : decode code 2502 = .ok (.lcmp, 1) := by decide +kernel
theorem dL_law_2503 : decode code 2503 = .ok (.ifCond .eq 5, 3) := by decide +kernel
theorem dL_law_2506 : decode code 2506 = .ok (.iconst 0, 1) := by decide +kernel
theorem dL_law_2507 : decode code 2507 = .ok (.ireturn, 1) := by decide +kernel
theorem dL_law_2508 : decode code 2508 = .ok (.goto 973, 3) := by decide +kernel
theorem dL_law_2511 : decode code 2511 = .ok (.aload_n 1, 1) := by decide +kernel
theorem dL_law_2512 : decode code 2512 = .ok (.aload_n 0, 1) := by decide +kernel
theorem dL_law_2513 : decode code 2513 = .ok (.iload 4, 2) := by decide +kernel
theorem dL_law_2515 : decode code 2515 = .ok (.iconst 1, 1) := by decide +kernel
theorem dL_law_2516 : decode code 2516 = .ok (.iadd, 1) := by decide +kernel
theorem dL_law_2517 : decode code 2517 = .ok (.iaload, 1) := by decide +kernel
theorem dL_law_2518 : decode code 2518 = .ok (.aload_n 3, 1) := by decide +kernel
theorem dL_law_2519 : decode code 2519 = .ok (.invokestatic 311, 3) := by decide +kernel
theorem dL_law_2522 : decode code 2522 = .ok (.istore 5, 2) := by decide +kernel
theorem dL_law_2524 : decode code 2524 = .ok (.aload_n 2, 1) := by decide +kernel
theorem dL_law_2525 : decode code 2525 = .ok (.aload_n 0, 1) := by decide +kernel
theorem dL_law_2526 : decode code 2526 = .ok (.iload 4, 2) := by decide +kernel
theorem dL_law_2528 : decode code 2528 = .ok (.iconst 1, 1) := by decide +kernel
theorem dL_law_2529 : decode code 2529 = .ok (.iadd, 1) := by decide +kernel
theorem dL_law_2530 : decode code 2530 = .ok (.iaload, 1) := by decide +kernel
theorem dL_law_2531 : decode code 2531 = .ok (.invokevirtual 313, 3) := by decide +kernel
theorem dL_law_2534 : decode code 2534 = .ok (.istore 6, 2) := by decide +kernel
theorem dL_law_2536 : decode code 2536 = .ok (.aload_n 2, 1) := by decide +kernel
theorem dL_law_2537 : decode code 2537 = .ok (.invokevirtual 166, 3) := by decide +kernel
theorem dL_law_2540 : decode code 2540 = .ok (.iload 5, 2) := by decide +kernel
theorem dL_law_2542 : decode code 2542 = .ok (.if_icmp .eq 5, 3) := by decide +kernel
theorem dL_law_2545 : decode code 2545 = .ok (.iconst 0, 1) := by decide +kernel
theorem dL_law_2546 : decode code 2546 = .ok (.ireturn, 1) := by decide +kernel
theorem dL_law_2547 : decode code 2547 = .ok (.iload 5, 2) := by decide +kernel
theorem dL_law_2549 : decode code 2549 = .ok (.ifCond .ne 15, 3) := by decide +kernel
theorem dL_law_2552 : decode code 2552 = .ok (.aload_n 3, 1) := by decide +kernel
theorem dL_law_2553 : decode code 2553 = .ok (.iconst 0, 1) := by decide +kernel
theorem dL_law_2554 : decode code 2554 = .ok (.laload, 1) := by decide +kernel
theorem dL_law_2555 : decode code 2555 = .ok (.iload 6, 2) := by decide +kernel
theorem dL_law_2557 : decode code 2557 = .ok (.i2l, 1) := by decide +kernel
theorem dL_law_2558 : decode code 2558 = .ok (.lcmp, 1) := by decide +kernel
theorem dL_law_2559 : decode code 2559 = .ok (.ifCond .eq 5, 3) := by decide +kernel
theorem dL_law_2562 : decode code 2562 = .ok (.iconst 0, 1) := by decide +kernel
theorem dL_law_2563 : decode code 2563 = .ok (.ireturn, 1) := by decide +kernel
theorem dL_law_2564 : decode code 2564 = .ok (.goto 917, 3) := by decide +kernel
theorem dL_law_2567 : decode code 2567 = .ok (.aload_n 1, 1) := by decide +kernel
theorem dL_law_2568 : decode code 2568 = .ok (.invokevirtual 314, 3) := by decide +kernel
theorem dL_law_2571 : decode code 2571 = .ok (.aload_n 2, 1) := by decide +kernel
theorem dL_law_2572 : decode code 2572 = .ok (.invokevirtual 317, 3) := by decide +kernel
theorem dL_law_2575 : decode code 2575 = .ok (.if_icmp .eq 906, 3) := by decide +kernel
theorem dL_law_2578 : decode code 2578 = .ok (.iconst 0, 1) := by decide +kernel
theorem dL_law_2579 : decode code 2579 = .ok (.ireturn, 1) := by decide +kernel
theorem dL_law_2580 : decode code 2580 = .ok (.aload_n 1, 1) := by decide +kernel
theorem dL_law_2581 : decode code 2581 = .ok (.invokevirtual 318, 3) := by decide +kernel
theorem dL_law_2584 : decode code 2584 = .ok (.aload_n 2, 1) := by decide +kernel
theorem dL_law_2585 : decode code 2585 = .ok (.invokevirtual 321, 3) := by decide +kernel
theorem dL_law_2588 : decode code 2588 = .ok (.if_icmp .eq 893, 3) := by decide +kernel
theorem dL_law_2591 : decode code 2591 = .ok (.iconst 0, 1) := by decide +kernel
theorem dL_law_2592 : decode code 2592 = .ok (.ireturn, 1) := by decide +kernel
theorem dL_law_2593 : decode code 2593 = .ok (.aload_n 1, 1) := by decide +kernel
theorem dL_law_2594 : decode code 2594 = .ok (.invokevirtual 322, 3) := by decide +kernel
theorem dL_law_2597 : decode code 2597 = .ok (.aload_n 2, 1) := by decide +kernel
theorem dL_law_2598 : decode code 2598 = .ok (.invokevirtual 325, 3) := by decide +kernel
theorem dL_law_2601 : decode code 2601 = .ok (.if_icmp .eq 880, 3) := by decide +kernel
theorem dL_law_2604 : decode code 2604 = .ok (.iconst 0, 1) := by decide +kernel
theorem dL_law_2605 : decode code 2605 = .ok (.ireturn, 1) := by decide +kernel
theorem dL_law_2606 : decode code 2606 = .ok (.aload_n 1, 1) := by decide +kernel
theorem dL_law_2607 : decode code 2607 = .ok (.invokevirtual 326, 3) := by decide +kernel
theorem dL_law_2610 : decode code 2610 = .ok (.aload_n 2, 1) := by decide +kernel
theorem dL_law_2611 : decode code 2611 = .ok (.invokevirtual 329, 3) := by decide +kernel
theorem dL_law_2614 : decode code 2614 = .ok (.if_icmp .eq 867, 3) := by decide +kernel
theorem dL_law_2617 : decode code 2617 = .ok (.iconst 0, 1) := by decide +kernel
theorem dL_law_2618 : decode code 2618 = .ok (.ireturn, 1) := by decide +kernel
theorem dL_law_2619 : decode code 2619 = .ok (.aload_n 1, 1) := by decide +kernel
theorem dL_law_2620 : decode code 2620 = .ok (.invokevirtual 330, 3) := by decide +kernel
theorem dL_law_2623 : decode code 2623 = .ok (.f2d, 1) := by decide +kernel
theorem dL_law_2624 : decode code 2624 = .ok (.dstore 5, 2) := by decide +kernel
theorem dL_law_2626 : decode code 2626 = .ok (.aload_n 2, 1) := by decide +kernel
theorem dL_law_2627 : decode code 2627 = .ok (.invokevirtual 334, 3) := by decide +kernel
theorem dL_law_2630 : decode code 2630 = .ok (.f2d, 1) := by decide +kernel
theorem dL_law_2631 : decode code 2631 = .ok (.dstore 7, 2) := by decide +kernel
theorem dL_law_2633 : decode code 2633 = .ok (.dload 5, 2) := by decide +kernel
theorem dL_law_2635 : decode code 2635 = .ok (.dload 7, 2) := by decide +kernel
theorem dL_law_2637 : decode code 2637 = .ok (.dcmp .l, 1) := by decide +kernel
theorem dL_law_2638 : decode code 2638 = .ok (.ifCond .eq 21, 3) := by decide +kernel
theorem dL_law_2641 : decode code 2641 = .ok (.dload 5, 2) := by decide +kernel
theorem dL_law_2643 : decode code 2643 = .ok (.dload 5, 2) := by decide +kernel
theorem dL_law_2645 : decode code 2645 = .ok (.dcmp .l, 1) := by decide +kernel
theorem dL_law_2646 : decode code 2646 = .ok (.ifCond .eq 11, 3) := by decide +kernel
theorem dL_law_2649 : decode code 2649 = .ok (.dload 7, 2) := by decide +kernel
theorem dL_law_2651 : decode code 2651 = .ok (.dload 7, 2) := by decide +kernel
theorem dL_law_2653 : decode code 2653 = .ok (.dcmp .l, 1) := by decide +kernel
theorem dL_law_2654 : decode code 2654 = .ok (.ifCond .ne 5, 3) := by decide +kernel
theorem dL_law_2657 : decode code 2657 = .ok (.iconst 0, 1) := by decide +kernel
theorem dL_law_2658 : decode code 2658 = .ok (.ireturn, 1) := by decide +kernel
theorem dL_law_2659 : decode code 2659 = .ok (.goto 822, 3) := by decide +kernel
theorem dL_law_2662 : decode code 2662 = .ok (.aload_n 1, 1) := by decide +kernel
theorem dL_law_2663 : decode code 2663 = .ok (.invokevirtual 335, 3) := by decide +kernel
theorem dL_law_2666 : decode code 2666 = .ok (.dstore 5, 2) := by decide +kernel
theorem dL_law_2668 : decode code 2668 = .ok (.aload_n 2, 1) := by decide +kernel
theorem dL_law_2669 : decode code 2669 = .ok (.invokevirtual 339, 3) := by decide +kernel
