theorem dL_law_2354 : decode cL_law 2354 = .ok (.iload 7, 2) := by decide +kernel
theorem dL_law_2356 : decode cL_law 2356 = .ok (.i2l, 1) := by decide +kernel
theorem dL_law_2357 : decode cL_law 2357 = .ok (.lcmp, 1) := by decide +kernel
theorem dL_law_2358 : decode cL_law 2358 = .ok (.ifCond .eq 5, 3) := by decide +kernel
theorem dL_law_2361 : decode cL_law 2361 = .ok (.iconst 0, 1) := by decide +kernel
theorem dL_law_2362 : decode cL_law 2362 = .ok (.ireturn, 1) := by decide +kernel
theorem dL_law_2363 : decode cL_law 2363 = .ok (.goto 496, 3) := by decide +kernel
theorem dL_law_2366 : decode cL_law 2366 = .ok (.aload_n 1, 1) := by decide +kernel
theorem dL_law_2367 : decode cL_law 2367 = .ok (.aload_n 0, 1) := by decide +kernel
theorem dL_law_2368 : decode cL_law 2368 = .ok (.iload 5, 2) := by decide +kernel
theorem dL_law_2370 : decode cL_law 2370 = .ok (.iconst 1, 1) := by decide +kernel
theorem dL_law_2371 : decode cL_law 2371 = .ok (.iadd, 1) := by decide +kernel
theorem dL_law_2372 : decode cL_law 2372 = .ok (.iaload, 1) := by decide +kernel
theorem dL_law_2373 : decode cL_law 2373 = .ok (.aload_n 3, 1) := by decide +kernel
theorem dL_law_2374 : decode cL_law 2374 = .ok (.invokestatic 268, 3) := by decide +kernel
theorem dL_law_2377 : decode cL_law 2377 = .ok (.istore 6, 2) := by decide +kernel
theorem dL_law_2379 : decode cL_law 2379 = .ok (.aload_n 2, 1) := by decide +kernel
theorem dL_law_2380 : decode cL_law 2380 = .ok (.aload_n 0, 1) := by decide +kernel
theorem dL_law_2381 : decode cL_law 2381 = .ok (.iload 5, 2) := by decide +kernel
theorem dL_law_2383 : decode cL_law 2383 = .ok (.iconst 1, 1) := by decide +kernel
theorem dL_law_2384 : decode cL_law 2384 = .ok (.iadd, 1) := by decide +kernel
theorem dL_law_2385 : decode cL_law 2385 = .ok (.iaload, 1) := by decide +kernel
theorem dL_law_2386 : decode cL_law 2386 = .ok (.invokevirtual 270, 3) := by decide +kernel
theorem dL_law_2389 : decode cL_law 2389 = .ok (.istore 7, 2) := by decide +kernel
theorem dL_law_2391 : decode cL_law 2391 = .ok (.aload_n 2, 1) := by decide +kernel
theorem dL_law_2392 : decode cL_law 2392 = .ok (.invokevirtual 155, 3) := by decide +kernel
theorem dL_law_2395 : decode cL_law 2395 = .ok (.iload 6, 2) := by decide +kernel
theorem dL_law_2397 : decode cL_law 2397 = .ok (.if_icmp .eq 5, 3) := by decide +kernel
theorem dL_law_2400 : decode cL_law 2400 = .ok (.iconst 0, 1) := by decide +kernel
theorem dL_law_2401 : decode cL_law 2401 = .ok (.ireturn, 1) := by decide +kernel
theorem dL_law_2402 : decode cL_law 2402 = .ok (.iload 6, 2) := by decide +kernel
theorem dL_law_2404 : decode cL_law 2404 = .ok (.ifCond .ne 15, 3) := by decide +kernel
theorem dL_law_2407 : decode cL_law 2407 = .ok (.aload_n 3, 1) := by decide +kernel
theorem dL_law_2408 : decode cL_law 2408 = .ok (.iconst 0, 1) := by decide +kernel
theorem dL_law_2409 : decode cL_law 2409 = .ok (.laload, 1) := by decide +kernel
theorem dL_law_2410 : decode cL_law 2410 = .ok (.iload 7, 2) := by decide +kernel
theorem dL_law_2412 : decode cL_law 2412 = .ok (.i2l, 1) := by decide +kernel
theorem dL_law_2413 : decode cL_law 2413 = .ok (.lcmp, 1) := by decide +kernel
theorem dL_law_2414 : decode cL_law 2414 = .ok (.ifCond .eq 5, 3) := by decide +kernel
theorem dL_law_2417 : decode cL_law 2417 = .ok (.iconst 0, 1) := by decide +kernel
theorem dL_law_2418 : decode cL_law 2418 = .ok (.ireturn, 1) := by decide +kernel
theorem dL_law_2419 : decode cL_law 2419 = .ok (.goto 440, 3) := by decide +kernel
theorem dL_law_2422 : decode cL_law 2422 = .ok (.aload_n 1, 1) := by decide +kernel
theorem dL_law_2423 : decode cL_law 2423 = .ok (.aload_n 3, 1) := by decide +kernel
theorem dL_law_2424 : decode cL_law 2424 = .ok (.invokestatic 271, 3) := by decide +kernel
theorem dL_law_2427 : decode cL_law 2427 = .ok (.istore 6, 2) := by decide +kernel
theorem dL_law_2429 : decode cL_law 2429 = .ok (.aload_n 2, 1) := by decide +kernel
theorem dL_law_2430 : decode cL_law 2430 = .ok (.invokevirtual 274, 3) := by decide +kernel
theorem dL_law_2433 : decode cL_law 2433 = .ok (.istore 7, 2) := by decide +kernel
theorem dL_law_2435 : decode cL_law 2435 = .ok (.aload_n 2, 1) := by decide +kernel
theorem dL_law_2436 : decode cL_law 2436 = .ok (.invokevirtual 155, 3) := by decide +kernel
theorem dL_law_2439 : decode cL_law 2439 = .ok (.iload 6, 2) := by decide +kernel
theorem dL_law_2441 : decode cL_law 2441 = .ok (.if_icmp .eq 5, 3) := by decide +kernel
theorem dL_law_2444 : decode cL_law 2444 = .ok (.iconst 0, 1) := by decide +kernel
theorem dL_law_2445 : decode cL_law 2445 = .ok (.ireturn, 1) := by decide +kernel
theorem dL_law_2446 : decode cL_law 2446 = .ok (.iload 6, 2) := by decide +kernel
theorem dL_law_2448 : decode cL_law 2448 = .ok (.ifCond .ne 15, 3) := by decide +kernel
theorem dL_law_2451 : decode cL_law 2451 = .ok (.aload_n 3, 1) := by decide +kernel
theorem dL_law_2452 : decode cL_law 2452 = .ok (.iconst 0, 1) := by decide +kernel
theorem dL_law_2453 : decode cL_law 2453 = .ok (.laload, 1) := by decide +kernel
theorem dL_law_2454 : decode cL_law 2454 = .ok (.iload 7, 2) := by decide +kernel
theorem dL_law_2456 : decode cL_law 2456 = .ok (.i2l, 1) := by decide +kernel
theorem dL_law_2457 : decode cL_law 2457 = .ok (.lcmp, 1) := by decide +kernel
theorem dL_law_2458 : decode cL_law 2458 = .ok (.ifCond .eq 5, 3) := by decide +kernel
theorem dL_law_2461 : decode cL_law 2461 = .ok (.iconst 0, 1) := by decide +kernel
theorem dL_law_2462 : decode cL_law 2462 = .ok (.ireturn, 1) := by decide +kernel
theorem dL_law_2463 : decode cL_law 2463 = .ok (.goto 396, 3) := by decide +kernel
theorem dL_law_2466 : decode cL_law 2466 = .ok (.aload_n 1, 1) := by decide +kernel
theorem dL_law_2467 : decode cL_law 2467 = .ok (.aload_n 0, 1) := by decide +kernel
theorem dL_law_2468 : decode cL_law 2468 = .ok (.iload 5, 2) := by decide +kernel
theorem dL_law_2470 : decode cL_law 2470 = .ok (.iconst 1, 1) := by decide +kernel
theorem dL_law_2471 : decode cL_law 2471 = .ok (.iadd, 1) := by decide +kernel
theorem dL_law_2472 : decode cL_law 2472 = .ok (.iaload, 1) := by decide +kernel
theorem dL_law_2473 : decode cL_law 2473 = .ok (.aload_n 3, 1) := by decide +kernel
theorem dL_law_2474 : decode cL_law 2474 = .ok (.invokestatic 275, 3) := by decide +kernel
theorem dL_law_2477 : decode cL_law 2477 = .ok (.istore 6, 2) := by decide +kernel
theorem dL_law_2479 : decode cL_law 2479 = .ok (.aload_n 2, 1) := by decide +kernel
theorem dL_law_2480 : decode cL_law 2480 = .ok (.aload_n 0, 1) := by decide +kernel
theorem dL_law_2481 : decode cL_law 2481 = .ok (.iload 5, 2) := by decide +kernel
theorem dL_law_2483 : decode cL_law 2483 = .ok (.iconst 1, 1) := by decide +kernel
theorem dL_law_2484 : decode cL_law 2484 = .ok (.iadd, 1) := by decide +kernel
theorem dL_law_2485 : decode cL_law 2485 = .ok (.iaload, 1) := by decide +kernel
theorem dL_law_2486 : decode cL_law 2486 = .ok (.invokevirtual 277, 3) := by decide +kernel
theorem dL_law_2489 : decode cL_law 2489 = .ok (.istore 7, 2) := by decide +kernel
theorem dL_law_2491 : decode cL_law 2491 = .ok (.aload_n 2, 1) := by decide +kernel
theorem dL_law_2492 : decode cL_law 2492 = .ok (.invokevirtual 155, 3) := by decide +kernel
theorem dL_law_2495 : decode cL_law 2495 = .ok (.iload 6, 2) := by decide +kernel
theorem dL_law_2497 : decode cL_law 2497 = .ok (.if_icmp .eq 5, 3) := by decide +kernel
theorem dL_law_2500 : decode cL_law 2500 = .ok (.iconst 0, 1) := by decide +kernel
theorem dL_law_2501 : decode cL_law 2501 = .ok (.ireturn, 1) := by decide +kernel
theorem dL_law_2502 : decode cL_law 2502 = .ok (.iload 6, 2) := by decide +kernel
theorem dL_law_2504 : decode cL_law 2504 = .ok (.ifCond .ne 15, 3) := by decide +kernel
theorem dL_law_2507 : decode cL_law 2507 = .ok (.aload_n 3, 1) := by decide +kernel
theorem dL_law_2508 : decode cL_law 2508 = .ok (.iconst 0, 1) := by decide +kernel
theorem dL_law_2509 : decode cL_law 2509 = .ok (.laload, 1) := by decide +kernel
theorem dL_law_2510 : decode cL_law 2510 = .ok (.iload 7, 2) := by decide +kernel
theorem dL_law_2512 : decode cL_law 2512 = .ok (.i2l, 1) := by decide +kernel
theorem dL_law_2513 : decode cL_law 2513 = .ok (.lcmp, 1) := by decide +kernel
theorem dL_law_2514 : decode cL_law 2514 = .ok (.ifCond .eq 5, 3) := by decide +kernel
theorem dL_law_2517 : decode cL_law 2517 = .ok (.iconst 0, 1) := by decide +kernel
theorem dL_law_2518 : decode cL_law 2518 = .ok (.ireturn, 1) := by decide +kernel
theorem dL_law_2519 : decode cL_law 2519 = .ok (.goto 340, 3) := by decide +kernel
theorem dL_law_2522 : decode cL_law 2522 = .ok (.aload_n 1, 1) := by decide +kernel
theorem dL_law_2523 : decode cL_law 2523 = .ok (.aload_n 0, 1) := by decide +kernel
theorem dL_law_2524 : decode cL_law 2524 = .ok (.iload 5, 2) := by decide +kernel
theorem dL_law_2526 : decode cL_law 2526 = .ok (.iconst 1, 1) := by decide +kernel
theorem dL_law_2527 : decode cL_law 2527 = .ok (.iadd, 1) := by decide +kernel
theorem dL_law_2528 : decode cL_law 2528 = .ok (.iaload, 1) := by decide +kernel
theorem dL_law_2529 : decode cL_law 2529 = .ok (.aload_n 3, 1) := by decide +kernel
theorem dL_law_2530 : decode cL_law 2530 = .ok (.invokestatic 278, 3) := by decide +kernel
theorem dL_law_2533 : decode cL_law 2533 = .ok (.istore 6, 2) := by decide +kernel
theorem dL_law_2535 : decode cL_law 2535 = .ok (.aload_n 2, 1) := by decide +kernel
theorem dL_law_2536 : decode cL_law 2536 = .ok (.aload_n 0, 1) := by decide +kernel
theorem dL_law_2537 : decode cL_law 2537 = .ok (.iload 5, 2) := by decide +kernel
theorem dL_law_2539 : decode cL_law 2539 = .ok (.iconst 1, 1) := by decide +kernel
theorem dL_law_2540 : decode cL_law 2540 = .ok (.iadd, 1) := by decide +kernel
theorem dL_law_2541 : decode cL_law 2541 = .ok (.iaload, 1) := by decide +kernel
theorem dL_law_2542 : decode cL_law 2542 = .ok (.invokevirtual 280, 3) := by decide +kernel
theorem dL_law_2545 : decode cL_law 2545 = .ok (.istore 7, 2) := by decide +kernel
theorem dL_law_2547 : decode cL_law 2547 = .ok (.aload_n 2, 1) := by decide +kernel
theorem dL_law_2548 : decode cL_law 2548 = .ok (.invokevirtual 155, 3) := by decide +kernel
theorem dL_law_2551 : decode cL_law 2551 = .ok (.iload 6, 2) := by decide +kernel
theorem dL_law_2553 : decode cL_law 2553 = .ok (.if_icmp .eq 5, 3) := by decide +kernel
theorem dL_law_2556 : decode cL_law 2556 = .ok (.iconst 0, 1) := by decide +kernel
theorem dL_law_2557 : decode cL_law 2557 = .ok (.ireturn, 1) := by decide +kernel
theorem dL_law_2558 : decode cL_law 2558 = .ok (.iload 6, 2) := by decide +kernel
theorem dL_law_2560 : decode cL_law 2560 = .ok (.ifCond .ne 15, 3) := by decide +kernel
theorem dL_law_2563 : decode cL_law 2563 = .ok (.aload_n 3, 1) := by decide +kernel
theorem dL_law_2564 : decode cL_law 2564 = .ok (.iconst 0, 1) := by decide +kernel
theorem dL_law_2565 : decode cL_law 2565 = .ok (.laload, 1) := by decide +kernel
theorem dL_law_2566 : decode cL_law 2566 = .ok (.iload 7, 2) := by decide +kernel
theorem dL_law_2568 : decode cL_law 2568 = .ok (.i2l, 1) := by decide +kernel
theorem dL_law_2569 : decode cL_law 2569 = .ok (.lcmp, 1) := by decide +kernel
theorem dL_law_2570 : decode cL_law 2570 = .ok (.ifCond .eq 5, 3) := by decide +kernel
theorem dL_law_2573 : decode cL_law 2573 = .ok (.iconst 0, 1) := by decide +kernel
theorem dL_law_2574 : decode cL_law 2574 = .ok (.ireturn, 1) := by decide +kernel
theorem dL_law_2575 : decode cL_law 2575 = .ok (.goto 284, 3) := by decide +kernel
theorem dL_law_2578 : decode cL_law 2578 = .ok (.aload_n 1, 1) := by decide +kernel
theorem dL_law_2579 : decode cL_law 2579 = .ok (.aload_n 0, 1) := by decide +kernel
theorem dL_law_2580 : decode cL_law 2580 = .ok (.iload 5, 2) := by decide +kernel
theorem dL_law_2582 : decode cL_law 2582 = .ok (.iconst 1, 1) := by decide +kernel
theorem dL_law_2583 : decode cL_law 2583 = .ok (.iadd, 1) := by decide +kernel
theorem dL_law_2584 : decode cL_law 2584 = .ok (.iaload, 1) := by decide +kernel
theorem dL_law_2585 : decode cL_law 2585 = .ok (.aload_n 3, 1) := by decide +kernel
theorem dL_law_2586 : decode cL_law 2586 = .ok (.invokestatic 281, 3) := by decide +kernel
theorem dL_law_2589 : decode cL_law 2589 = .ok (.istore 6, 2) := by decide +kernel
theorem dL_law_2591 : decode cL_law 2591 = .ok (.aload_n 2, 1) := by decide +kernel
theorem dL_law_2592 : decode cL_law 2592 = .ok (.aload_n 0, 1) := by decide +kernel
theorem dL_law_2593 : decode cL_law 2593 = .ok (.iload 5, 2) := by decide +kernel
theorem dL_law_2595 : decode cL_law 2595 = .ok (.iconst 1, 1) := by decide +kernel
theorem dL_law_2596 : decode cL_law 2596 = .ok (.iadd, 1) := by decide +kernel
theorem dL_law_2597 : decode cL_law 2597 = .ok (.iaload, 1) := by decide +kernel
theorem dL_law_2598 : decode cL_law 2598 = .ok (.invokevirtual 283, 3) := by decide +kernel
theorem dL_law_2601 : decode cL_law 2601 = .ok (.istore 7, 2) := by decide +kernel
theorem dL_law_2603 : decode cL_law 2603 = .ok (.aload_n 2, 1) := by decide +kernel
theorem dL_law_2604 : decode cL_law 2604 = .ok (.invokevirtual 155, 3) := by decide +kernel
theorem dL_law_2607 : decode cL_law 2607 = .ok (.iload 6, 2) := by decide +kernel
theorem dL_law_2609 : decode cL_law 2609 = .ok (.if_icmp .eq 5, 3) := by decide +kernel
theorem dL_law_2612 : decode cL_law 2612 = .ok (.iconst 0, 1) := by decide +kernel
theorem dL_law_2613 : decode cL_law 2613 = .ok (.ireturn, 1) := by decide +kernel
theorem dL_law_2614 : decode cL_law 2614 = .ok (.iload 6, 2) := by decide +kernel
theorem dL_law_2616 : decode cL_law 2616 = .ok (.ifCond .ne 15, 3) := by decide +kernel
theorem dL_law_2619 : decode cL_law 2619 = .ok (.aload_n 3, 1) := by decide +kernel
theorem dL_law_2620 : decode cL_law 2620 = .ok (.iconst 0, 1) := by decide +kernel
theorem dL_law_2621 : decode cL_law 2621 = .ok (.laload, 1) := by decide +kernel
theorem dL_law_2622 : decode cL_law 2622 = .ok (.iload 7, 2) := by decide +kernel
theorem dL_law_2624 : decode cL_law 2624 = .ok (.i2l, 1) := by decide +kernel
theorem dL_law_2625 : decode cL_law 2625 = .ok (.lcmp, 1) := by decide +kernel
theorem dL_law_2626 : decode cL_law 2626 = .ok (.ifCond .eq 5, 3) := by decide +kernel
theorem dL_law_2629 : decode cL_law 2629 = .ok (.iconst 0, 1) := by decide +kernel
theorem dL_law_2630 : decode cL_law 2630 = .ok (.ireturn, 1) := by decide +kernel
theorem dL_law_2631 : decode cL_law 2631 = .ok (.goto 228, 3) := by decide +kernel
theorem dL_law_2634 : decode cL_law 2634 = .ok (.aload_n 1, 1) := by decide +kernel
theorem dL_law_2635 : decode cL_law 2635 = .ok (.aload_n 0, 1) := by decide +kernel
theorem dL_law_2636 : decode cL_law 2636 = .ok (.iload 5, 2) := by decide +kernel
theorem dL_law_2638 : decode cL_law 2638 = .ok (.iconst 1, 1) := by decide +kernel
theorem dL_law_2639 : decode cL_law 2639 = .ok (.iadd, 1) := by decide +kernel
theorem dL_law_2640 : decode cL_law 2640 = .ok (.iaload, 1) := by decide +kernel
theorem dL_law_2641 : decode cL_law 2641 = .ok (.aload_n 3, 1) := by decide +kernel
theorem dL_law_2642 : decode cL_law 2642 = .ok (.invokestatic 284, 3) := by decide +kernel
theorem dL_law_2645 : decode cL_law 2645 = .ok (.istore 6, 2) := by decide +kernel
theorem dL_law_2647 : decode cL_law 2647 = .ok (.aload_n 2, 1) := by decide +kernel
theorem dL_law_2648 : decode cL_law 2648 = .ok (.aload_n 0, 1) := by decide +kernel
theorem dL_law_2649 : decode cL_law 2649 = .ok (.iload 5, 2) := by decide +kernel
theorem dL_law_2651 : decode cL_law 2651 = .ok (.iconst 1, 1) := by decide +kernel
theorem dL_law_2652 : decode cL_law 2652 = .ok (.iadd, 1) := by decide +kernel
theorem dL_law_2653 : decode cL_law 2653 = .ok (.iaload, 1) := by decide +kernel
theorem dL_law_2654 : decode cL_law 2654 = .ok (.invokevirtual 286, 3) := by decide +kernel
theorem dL_law_2657 : decode cL_law 2657 = .ok (.istore 7, 2) := by decide +kernel
theorem dL_law_2659 : decode cL_law 2659 = .ok (.aload_n 2, 1) := by decide +kernel
theorem dL_law_2660 : decode cL_law 2660 = .ok (.invokevirtual 155, 3) := by decide +kernel
theorem dL_law_2663 : decode cL_law 2663 = .ok (.iload 6, 2) := by decide +kernel
theorem dL_law_2665 : decode cL_law 2665 = .ok (.if_icmp .eq 5, 3) := by decide +kernel
theorem dL_law_2668 : decode cL_law 2668 = .ok (.iconst 0, 1) := by decide +kernel
theorem dL_law_2669 : decode cL_law 2669 = .ok (.ireturn, 1) := by decide +kernel
theorem dL_law_2670 : decode cL_law 2670 = .ok (.iload 6, 2) := by decide +kernel
theorem dL_law_2672 : decode cL_law 2672 = .ok (.ifCond .ne 15, 3) := by decide +kernel
theorem dL_law_2675 : decode cL_law 2675 = .ok (.aload_n 3, 1) := by decide +kernel
theorem dL_law_2676 : decode cL_law 2676 = .ok (.iconst 0, 1) := by decide +kernel
theorem dL_law_2677 : decode cL_law 2677 = .ok (.laload, 1) := by decide +kernel
