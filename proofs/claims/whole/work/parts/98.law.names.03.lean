theorem dL_law__2326 : decode cL_law_ 2326 = .ok (.aload_n 0, 1) := by decide +kernel
theorem dL_law__2327 : decode cL_law_ 2327 = .ok (.iload 4, 2) := by decide +kernel
theorem dL_law__2329 : decode cL_law_ 2329 = .ok (.iconst 1, 1) := by decide +kernel
theorem dL_law__2330 : decode cL_law_ 2330 = .ok (.iadd, 1) := by decide +kernel
theorem dL_law__2331 : decode cL_law_ 2331 = .ok (.iaload, 1) := by decide +kernel
theorem dL_law__2332 : decode cL_law_ 2332 = .ok (.aload_n 3, 1) := by decide +kernel
theorem dL_law__2333 : decode cL_law_ 2333 = .ok (.invokestatic 271, 3) := by decide +kernel
theorem dL_law__2336 : decode cL_law_ 2336 = .ok (.istore 5, 2) := by decide +kernel
theorem dL_law__2338 : decode cL_law_ 2338 = .ok (.aload_n 2, 1) := by decide +kernel
theorem dL_law__2339 : decode cL_law_ 2339 = .ok (.aload_n 0, 1) := by decide +kernel
theorem dL_law__2340 : decode cL_law_ 2340 = .ok (.iload 4, 2) := by decide +kernel
theorem dL_law__2342 : decode cL_law_ 2342 = .ok (.iconst 1, 1) := by decide +kernel
theorem dL_law__2343 : decode cL_law_ 2343 = .ok (.iadd, 1) := by decide +kernel
theorem dL_law__2344 : decode cL_law_ 2344 = .ok (.iaload, 1) := by decide +kernel
theorem dL_law__2345 : decode cL_law_ 2345 = .ok (.invokevirtual 273, 3) := by decide +kernel
theorem dL_law__2348 : decode cL_law_ 2348 = .ok (.istore 6, 2) := by decide +kernel
theorem dL_law__2350 : decode cL_law_ 2350 = .ok (.aload_n 2, 1) := by decide +kernel
theorem dL_law__2351 : decode cL_law_ 2351 = .ok (.invokevirtual 158, 3) := by decide +kernel
theorem dL_law__2354 : decode cL_law_ 2354 = .ok (.iload 5, 2) := by decide +kernel
theorem dL_law__2356 : decode cL_law_ 2356 = .ok (.if_icmp .eq 5, 3) := by decide +kernel
theorem dL_law__2359 : decode cL_law_ 2359 = .ok (.iconst 0, 1) := by decide +kernel
theorem dL_law__2360 : decode cL_law_ 2360 = .ok (.ireturn, 1) := by decide +kernel
theorem dL_law__2361 : decode cL_law_ 2361 = .ok (.iload 5, 2) := by decide +kernel
theorem dL_law__2363 : decode cL_law_ 2363 = .ok (.ifCond .ne 15, 3) := by decide +kernel
theorem dL_law__2366 : decode cL_law_ 2366 = .ok (.aload_n 3, 1) := by decide +kernel
theorem dL_law__2367 : decode cL_law_ 2367 = .ok (.iconst 0, 1) := by decide +kernel
theorem dL_law__2368 : decode cL_law_ 2368 = .ok (.laload, 1) := by decide +kernel
theorem dL_law__2369 : decode cL_law_ 2369 = .ok (.iload 6, 2) := by decide +kernel
theorem dL_law__2371 : decode cL_law_ 2371 = .ok (.i2l, 1) := by decide +kernel
theorem dL_law__2372 : decode cL_law_ 2372 = .ok (.lcmp, 1) := by decide +kernel
theorem dL_law__2373 : decode cL_law_ 2373 = .ok (.ifCond .eq 5, 3) := by decide +kernel
theorem dL_law__2376 : decode cL_law_ 2376 = .ok (.iconst 0, 1) := by decide +kernel
theorem dL_law__2377 : decode cL_law_ 2377 = .ok (.ireturn, 1) := by decide +kernel
theorem dL_law__2378 : decode cL_law_ 2378 = .ok (.goto 695, 3) := by decide +kernel
theorem dL_law__2381 : decode cL_law_ 2381 = .ok (.aload_n 1, 1) := by decide +kernel
theorem dL_law__2382 : decode cL_law_ 2382 = .ok (.aload_n 0, 1) := by decide +kernel
theorem dL_law__2383 : decode cL_law_ 2383 = .ok (.iload 4, 2) := by decide +kernel
theorem dL_law__2385 : decode cL_law_ 2385 = .ok (.iconst 1, 1) := by decide +kernel
theorem dL_law__2386 : decode cL_law_ 2386 = .ok (.iadd, 1) := by decide +kernel
theorem dL_law__2387 : decode cL_law_ 2387 = .ok (.iaload, 1) := by decide +kernel
theorem dL_law__2388 : decode cL_law_ 2388 = .ok (.aload_n 0, 1) := by decide +kernel
theorem dL_law__2389 : decode cL_law_ 2389 = .ok (.iload 4, 2) := by decide +kernel
theorem dL_law__2391 : decode cL_law_ 2391 = .ok (.iconst 2, 1) := by decide +kernel
theorem dL_law__2392 : decode cL_law_ 2392 = .ok (.iadd, 1) := by decide +kernel
theorem dL_law__2393 : decode cL_law_ 2393 = .ok (.iaload, 1) := by decide +kernel
theorem dL_law__2394 : decode cL_law_ 2394 = .ok (.aload_n 3, 1) := by decide +kernel
theorem dL_law__2395 : decode cL_law_ 2395 = .ok (.invokestatic 274, 3) := by decide +kernel
theorem dL_law__2398 : decode cL_law_ 2398 = .ok (.istore 5, 2) := by decide +kernel
theorem dL_law__2400 : decode cL_law_ 2400 = .ok (.aload_n 2, 1) := by decide +kernel
theorem dL_law__2401 : decode cL_law_ 2401 = .ok (.aload_n 0, 1) := by decide +kernel
theorem dL_law__2402 : decode cL_law_ 2402 = .ok (.iload 4, 2) := by decide +kernel
theorem dL_law__2404 : decode cL_law_ 2404 = .ok (.iconst 1, 1) := by decide +kernel
theorem dL_law__2405 : decode cL_law_ 2405 = .ok (.iadd, 1) := by decide +kernel
theorem dL_law__2406 : decode cL_law_ 2406 = .ok (.iaload, 1) := by decide +kernel
theorem dL_law__2407 : decode cL_law_ 2407 = .ok (.aload_n 0, 1) := by decide +kernel
theorem dL_law__2408 : decode cL_law_ 2408 = .ok (.iload 4, 2) := by decide +kernel
theorem dL_law__2410 : decode cL_law_ 2410 = .ok (.iconst 2, 1) := by decide +kernel
theorem dL_law__2411 : decode cL_law_ 2411 = .ok (.iadd, 1) := by decide +kernel
theorem dL_law__2412 : decode cL_law_ 2412 = .ok (.iaload, 1) := by decide +kernel
theorem dL_law__2413 : decode cL_law_ 2413 = .ok (.invokevirtual 276, 3) := by decide +kernel
theorem dL_law__2416 : decode cL_law_ 2416 = .ok (.istore 6, 2) := by decide +kernel
theorem dL_law__2418 : decode cL_law_ 2418 = .ok (.aload_n 2, 1) := by decide +kernel
theorem dL_law__2419 : decode cL_law_ 2419 = .ok (.invokevirtual 158, 3) := by decide +kernel
theorem dL_law__2422 : decode cL_law_ 2422 = .ok (.iload 5, 2) := by decide +kernel
theorem dL_law__2424 : decode cL_law_ 2424 = .ok (.if_icmp .eq 5, 3) := by decide +kernel
theorem dL_law__2427 : decode cL_law_ 2427 = .ok (.iconst 0, 1) := by decide +kernel
theorem dL_law__2428 : decode cL_law_ 2428 = .ok (.ireturn, 1) := by decide +kernel
theorem dL_law__2429 : decode cL_law_ 2429 = .ok (.iload 5, 2) := by decide +kernel
theorem dL_law__2431 : decode cL_law_ 2431 = .ok (.ifCond .ne 15, 3) := by decide +kernel
theorem dL_law__2434 : decode cL_law_ 2434 = .ok (.aload_n 3, 1) := by decide +kernel
theorem dL_law__2435 : decode cL_law_ 2435 = .ok (.iconst 0, 1) := by decide +kernel
theorem dL_law__2436 : decode cL_law_ 2436 = .ok (.laload, 1) := by decide +kernel
theorem dL_law__2437 : decode cL_law_ 2437 = .ok (.iload 6, 2) := by decide +kernel
theorem dL_law__2439 : decode cL_law_ 2439 = .ok (.i2l, 1) := by decide +kernel
theorem dL_law__2440 : decode cL_law_ 2440 = .ok (.lcmp, 1) := by decide +kernel
theorem dL_law__2441 : decode cL_law_ 2441 = .ok (.ifCond .eq 5, 3) := by decide +kernel
theorem dL_law__2444 : decode cL_law_ 2444 = .ok (.iconst 0, 1) := by decide +kernel
theorem dL_law__2445 : decode cL_law_ 2445 = .ok (.ireturn, 1) := by decide +kernel
theorem dL_law__2446 : decode cL_law_ 2446 = .ok (.goto 627, 3) := by decide +kernel
theorem dL_law__2449 : decode cL_law_ 2449 = .ok (.aload_n 1, 1) := by decide +kernel
theorem dL_law__2450 : decode cL_law_ 2450 = .ok (.aload_n 0, 1) := by decide +kernel
theorem dL_law__2451 : decode cL_law_ 2451 = .ok (.iload 4, 2) := by decide +kernel
theorem dL_law__2453 : decode cL_law_ 2453 = .ok (.iconst 1, 1) := by decide +kernel
theorem dL_law__2454 : decode cL_law_ 2454 = .ok (.iadd, 1) := by decide +kernel
theorem dL_law__2455 : decode cL_law_ 2455 = .ok (.iaload, 1) := by decide +kernel
theorem dL_law__2456 : decode cL_law_ 2456 = .ok (.aload_n 0, 1) := by decide +kernel
theorem dL_law__2457 : decode cL_law_ 2457 = .ok (.iload 4, 2) := by decide +kernel
theorem dL_law__2459 : decode cL_law_ 2459 = .ok (.iconst 2, 1) := by decide +kernel
theorem dL_law__2460 : decode cL_law_ 2460 = .ok (.iadd, 1) := by decide +kernel
theorem dL_law__2461 : decode cL_law_ 2461 = .ok (.iaload, 1) := by decide +kernel
theorem dL_law__2462 : decode cL_law_ 2462 = .ok (.aload_n 3, 1) := by decide +kernel
theorem dL_law__2463 : decode cL_law_ 2463 = .ok (.invokestatic 277, 3) := by decide +kernel
theorem dL_law__2466 : decode cL_law_ 2466 = .ok (.istore 5, 2) := by decide +kernel
theorem dL_law__2468 : decode cL_law_ 2468 = .ok (.aload_n 2, 1) := by decide +kernel
theorem dL_law__2469 : decode cL_law_ 2469 = .ok (.aload_n 0, 1) := by decide +kernel
theorem dL_law__2470 : decode cL_law_ 2470 = .ok (.iload 4, 2) := by decide +kernel
theorem dL_law__2472 : decode cL_law_ 2472 = .ok (.iconst 1, 1) := by decide +kernel
theorem dL_law__2473 : decode cL_law_ 2473 = .ok (.iadd, 1) := by decide +kernel
theorem dL_law__2474 : decode cL_law_ 2474 = .ok (.iaload, 1) := by decide +kernel
theorem dL_law__2475 : decode cL_law_ 2475 = .ok (.aload_n 0, 1) := by decide +kernel
theorem dL_law__2476 : decode cL_law_ 2476 = .ok (.iload 4, 2) := by decide +kernel
theorem dL_law__2478 : decode cL_law_ 2478 = .ok (.iconst 2, 1) := by decide +kernel
theorem dL_law__2479 : decode cL_law_ 2479 = .ok (.iadd, 1) := by decide +kernel
theorem dL_law__2480 : decode cL_law_ 2480 = .ok (.iaload, 1) := by decide +kernel
theorem dL_law__2481 : decode cL_law_ 2481 = .ok (.invokevirtual 279, 3) := by decide +kernel
theorem dL_law__2484 : decode cL_law_ 2484 = .ok (.istore 6, 2) := by decide +kernel
theorem dL_law__2486 : decode cL_law_ 2486 = .ok (.aload_n 2, 1) := by decide +kernel
theorem dL_law__2487 : decode cL_law_ 2487 = .ok (.invokevirtual 158, 3) := by decide +kernel
theorem dL_law__2490 : decode cL_law_ 2490 = .ok (.iload 5, 2) := by decide +kernel
theorem dL_law__2492 : decode cL_law_ 2492 = .ok (.if_icmp .eq 5, 3) := by decide +kernel
theorem dL_law__2495 : decode cL_law_ 2495 = .ok (.iconst 0, 1) := by decide +kernel
theorem dL_law__2496 : decode cL_law_ 2496 = .ok (.ireturn, 1) := by decide +kernel
theorem dL_law__2497 : decode cL_law_ 2497 = .ok (.iload 5, 2) := by decide +kernel
theorem dL_law__2499 : decode cL_law_ 2499 = .ok (.ifCond .ne 15, 3) := by decide +kernel
theorem dL_law__2502 : decode cL_law_ 2502 = .ok (.aload_n 3, 1) := by decide +kernel
theorem dL_law__2503 : decode cL_law_ 2503 = .ok (.iconst 0, 1) := by decide +kernel
theorem dL_law__2504 : decode cL_law_ 2504 = .ok (.laload, 1) := by decide +kernel
theorem dL_law__2505 : decode cL_law_ 2505 = .ok (.iload 6, 2) := by decide +kernel
theorem dL_law__2507 : decode cL_law_ 2507 = .ok (.i2l, 1) := by decide +kernel
theorem dL_law__2508 : decode cL_law_ 2508 = .ok (.lcmp, 1) := by decide +kernel
theorem dL_law__2509 : decode cL_law_ 2509 = .ok (.ifCond .eq 5, 3) := by decide +kernel
theorem dL_law__2512 : decode cL_law_ 2512 = .ok (.iconst 0, 1) := by decide +kernel
theorem dL_law__2513 : decode cL_law_ 2513 = .ok (.ireturn, 1) := by decide +kernel
theorem dL_law__2514 : decode cL_law_ 2514 = .ok (.goto 559, 3) := by decide +kernel
theorem dL_law__2517 : decode cL_law_ 2517 = .ok (.aload_n 1, 1) := by decide +kernel
theorem dL_law__2518 : decode cL_law_ 2518 = .ok (.invokevirtual 280, 3) := by decide +kernel
theorem dL_law__2521 : decode cL_law_ 2521 = .ok (.aload_n 2, 1) := by decide +kernel
theorem dL_law__2522 : decode cL_law_ 2522 = .ok (.invokevirtual 283, 3) := by decide +kernel
theorem dL_law__2525 : decode cL_law_ 2525 = .ok (.if_icmp .eq 548, 3) := by decide +kernel
theorem dL_law__2528 : decode cL_law_ 2528 = .ok (.iconst 0, 1) := by decide +kernel
theorem dL_law__2529 : decode cL_law_ 2529 = .ok (.ireturn, 1) := by decide +kernel
theorem dL_law__2530 : decode cL_law_ 2530 = .ok (.aload_n 1, 1) := by decide +kernel
theorem dL_law__2531 : decode cL_law_ 2531 = .ok (.invokevirtual 284, 3) := by decide +kernel
theorem dL_law__2534 : decode cL_law_ 2534 = .ok (.aload_n 2, 1) := by decide +kernel
theorem dL_law__2535 : decode cL_law_ 2535 = .ok (.invokevirtual 287, 3) := by decide +kernel
theorem dL_law__2538 : decode cL_law_ 2538 = .ok (.if_icmp .eq 535, 3) := by decide +kernel
theorem dL_law__2541 : decode cL_law_ 2541 = .ok (.iconst 0, 1) := by decide +kernel
theorem dL_law__2542 : decode cL_law_ 2542 = .ok (.ireturn, 1) := by decide +kernel
theorem dL_law__2543 : decode cL_law_ 2543 = .ok (.aload_n 1, 1) := by decide +kernel
theorem dL_law__2544 : decode cL_law_ 2544 = .ok (.aload_n 0, 1) := by decide +kernel
theorem dL_law__2545 : decode cL_law_ 2545 = .ok (.iload 4, 2) := by decide +kernel
theorem dL_law__2547 : decode cL_law_ 2547 = .ok (.iconst 1, 1) := by decide +kernel
theorem dL_law__2548 : decode cL_law_ 2548 = .ok (.iadd, 1) := by decide +kernel
theorem dL_law__2549 : decode cL_law_ 2549 = .ok (.iaload, 1) := by decide +kernel
theorem dL_law__2550 : decode cL_law_ 2550 = .ok (.ifCond .eq 7, 3) := by decide +kernel
theorem dL_law__2553 : decode cL_law_ 2553 = .ok (.iconst 1, 1) := by decide +kernel
theorem dL_law__2554 : decode cL_law_ 2554 = .ok (.goto 4, 3) := by decide +kernel
theorem dL_law__2557 : decode cL_law_ 2557 = .ok (.iconst 0, 1) := by decide +kernel
theorem dL_law__2558 : decode cL_law_ 2558 = .ok (.invokevirtual 288, 3) := by decide +kernel
theorem dL_law__2561 : decode cL_law_ 2561 = .ok (.aload_n 2, 1) := by decide +kernel
theorem dL_law__2562 : decode cL_law_ 2562 = .ok (.aload_n 0, 1) := by decide +kernel
theorem dL_law__2563 : decode cL_law_ 2563 = .ok (.iload 4, 2) := by decide +kernel
theorem dL_law__2565 : decode cL_law_ 2565 = .ok (.iconst 1, 1) := by decide +kernel
theorem dL_law__2566 : decode cL_law_ 2566 = .ok (.iadd, 1) := by decide +kernel
theorem dL_law__2567 : decode cL_law_ 2567 = .ok (.iaload, 1) := by decide +kernel
theorem dL_law__2568 : decode cL_law_ 2568 = .ok (.ifCond .eq 7, 3) := by decide +kernel
theorem dL_law__2571 : decode cL_law_ 2571 = .ok (.iconst 1, 1) := by decide +kernel
theorem dL_law__2572 : decode cL_law_ 2572 = .ok (.goto 4, 3) := by decide +kernel
theorem dL_law__2575 : decode cL_law_ 2575 = .ok (.iconst 0, 1) := by decide +kernel
theorem dL_law__2576 : decode cL_law_ 2576 = .ok (.invokevirtual 291, 3) := by decide +kernel
theorem dL_law__2579 : decode cL_law_ 2579 = .ok (.if_icmp .eq 494, 3) := by decide +kernel
theorem dL_law__2582 : decode cL_law_ 2582 = .ok (.iconst 0, 1) := by decide +kernel
theorem dL_law__2583 : decode cL_law_ 2583 = .ok (.ireturn, 1) := by decide +kernel
theorem dL_law__2584 : decode cL_law_ 2584 = .ok (.aload_n 1, 1) := by decide +kernel
theorem dL_law__2585 : decode cL_law_ 2585 = .ok (.invokevirtual 292, 3) := by decide +kernel
theorem dL_law__2588 : decode cL_law_ 2588 = .ok (.aload_n 2, 1) := by decide +kernel
theorem dL_law__2589 : decode cL_law_ 2589 = .ok (.invokevirtual 295, 3) := by decide +kernel
theorem dL_law__2592 : decode cL_law_ 2592 = .ok (.if_icmp .eq 481, 3) := by decide +kernel
theorem dL_law__2595 : decode cL_law_ 2595 = .ok (.iconst 0, 1) := by decide +kernel
theorem dL_law__2596 : decode cL_law_ 2596 = .ok (.ireturn, 1) := by decide +kernel
theorem dL_law__2597 : decode cL_law_ 2597 = .ok (.aload_n 1, 1) := by decide +kernel
theorem dL_law__2598 : decode cL_law_ 2598 = .ok (.invokevirtual 296, 3) := by decide +kernel
theorem dL_law__2601 : decode cL_law_ 2601 = .ok (.aload_n 2, 1) := by decide +kernel
theorem dL_law__2602 : decode cL_law_ 2602 = .ok (.invokevirtual 299, 3) := by decide +kernel
theorem dL_law__2605 : decode cL_law_ 2605 = .ok (.if_icmp .eq 468, 3) := by decide +kernel
theorem dL_law__2608 : decode cL_law_ 2608 = .ok (.iconst 0, 1) := by decide +kernel
theorem dL_law__2609 : decode cL_law_ 2609 = .ok (.ireturn, 1) := by decide +kernel
theorem dL_law__2610 : decode cL_law_ 2610 = .ok (.aload_n 1, 1) := by decide +kernel
theorem dL_law__2611 : decode cL_law_ 2611 = .ok (.aload_n 0, 1) := by decide +kernel
theorem dL_law__2612 : decode cL_law_ 2612 = .ok (.iload 4, 2) := by decide +kernel
theorem dL_law__2614 : decode cL_law_ 2614 = .ok (.iconst 1, 1) := by decide +kernel
theorem dL_law__2615 : decode cL_law_ 2615 = .ok (.iadd, 1) := by decide +kernel
theorem dL_law__2616 : decode cL_law_ 2616 = .ok (.iaload, 1) := by decide +kernel
theorem dL_law__2617 : decode cL_law_ 2617 = .ok (.aload_n 3, 1) := by decide +kernel
theorem dL_law__2618 : decode cL_law_ 2618 = .ok (.invokestatic 300, 3) := by decide +kernel
theorem dL_law__2621 : decode cL_law_ 2621 = .ok (.istore 5, 2) := by decide +kernel
theorem dL_law__2623 : decode cL_law_ 2623 = .ok (.aload_n 2, 1) := by decide +kernel
theorem dL_law__2624 : decode cL_law_ 2624 = .ok (.aload_n 0, 1) := by decide +kernel
theorem dL_law__2625 : decode cL_law_ 2625 = .ok (.iload 4, 2) := by decide +kernel
theorem dL_law__2627 : decode cL_law_ 2627 = .ok (.iconst 1, 1) := by decide +kernel
theorem dL_law__2628 : decode cL_law_ 2628 = .ok (.iadd, 1) := by decide +kernel
theorem dL_law__2629 : decode cL_law_ 2629 = .ok (.iaload, 1) := by decide +kernel
theorem dL_law__2630 : decode cL_law_ 2630 = .ok (.invokevirtual 302, 3) := by decide +kernel
theorem dL_law__2633 : decode cL_law_ 2633 = .ok (.istore 6, 2) := by decide +kernel
theorem dL_law__2635 : decode cL_law_ 2635 = .ok (.aload_n 2, 1) := by decide +kernel
theorem dL_law__2636 : decode cL_law_ 2636 = .ok (.invokevirtual 158, 3) := by decide +kernel
theorem dL_law__2639 : decode cL_law_ 2639 = .ok (.iload 5, 2) := by decide +kernel
theorem dL_law__2641 : decode cL_law_ 2641 = .ok (.if_icmp .eq 5, 3) := by decide +kernel
theorem dL_law__2644 : decode cL_law_ 2644 = .ok (.iconst 0, 1) := by decide +kernel
theorem dL_law__2645 : decode cL_law_ 2645 = .ok (.ireturn, 1) := by decide +kernel
theorem dL_law__2646 : decode cL_law_ 2646 = .ok (.iload 5, 2) := by decide +kernel
theorem dL_law__2648 : decode cL_law_ 2648 = .ok (.ifCond .ne 15, 3) := by decide +kernel
theorem dL_law__2651 : decode cL_law_ 2651 = .ok (.aload_n 3, 1) := by decide +kernel
theorem dL_law__2652 : decode cL_law_ 2652 = .ok (.iconst 0, 1) := by decide +kernel
theorem dL_law__2653 : decode cL_law_ 2653 = .ok (.laload, 1) := by decide +kernel
theorem dL_law__2654 : decode cL_law_ 2654 = .ok (.iload 6, 2) := by decide +kernel
theorem dL_law__2656 : decode cL_law_ 2656 = .ok (.i2l, 1) := by decide +kernel
theorem dL_law__2657 : decode cL_law_ 2657 = .ok (.lcmp, 1) := by decide +kernel
theorem dL_law__2658 : decode cL_law_ 2658 = .ok (.ifCond .eq 5, 3) := by decide +kernel
theorem dL_law__2661 : decode cL_law_ 2661 = .ok (.iconst 0, 1) := by decide +kernel
theorem dL_law__2662 : decode cL_law_ 2662 = .ok (.ireturn, 1) := by decide +kernel
theorem dL_law__2663 : decode cL_law_ 2663 = .ok (.goto 410, 3) := by decide +kernel
theorem dL_law__2666 : decode cL_law_ 2666 = .ok (.aload_n 1, 1) := by decide +kernel
theorem dL_law__2667 : decode cL_law_ 2667 = .ok (.aload_n 0, 1) := by decide +kernel
theorem dL_law__2668 : decode cL_law_ 2668 = .ok (.iload 4, 2) := by decide +kernel
theorem dL_law__2670 : decode cL_law_ 2670 = .ok (.iconst 1, 1) := by decide +kernel
theorem dL_law__2671 : decode cL_law_ 2671 = .ok (.iadd, 1) := by decide +kernel
theorem dL_law__2672 : decode cL_law_ 2672 = .ok (.iaload, 1) := by decide +kernel
theorem dL_law__2673 : decode cL_law_ 2673 = .ok (.aload_n 0, 1) := by decide +kernel
theorem dL_law__2674 : decode cL_law_ 2674 = .ok (.iload 4, 2) := by decide +kernel
theorem dL_law__2676 : decode cL_law_ 2676 = .ok (.iconst 2, 1) := by decide +kernel
theorem dL_law__2677 : decode cL_law_ 2677 = .ok (.iadd, 1) := by decide +kernel
theorem dL_law__2678 : decode cL_law_ 2678 = .ok (.iaload, 1) := by decide +kernel
theorem dL_law__2679 : decode cL_law_ 2679 = .ok (.ifCond .eq 7, 3) := by decide +kernel
theorem dL_law__2682 : decode cL_law_ 2682 = .ok (.iconst 1, 1) := by decide +kernel
theorem dL_law__2683 : decode cL_law_ 2683 = .ok (.goto 4, 3) := by decide +kernel
theorem dL_law__2686 : decode cL_law_ 2686 = .ok (.iconst 0, 1) := by decide +kernel
theorem dL_law__2687 : decode cL_law_ 2687 = .ok (.aload_n 3, 1) := by decide +kernel
theorem dL_law__2688 : decode cL_law_ 2688 = .ok (.invokestatic 303, 3) := by decide +kernel
theorem dL_law__2691 : decode cL_law_ 2691 = .ok (.istore 5, 2) := by decide +kernel
theorem dL_law__2693 : decode cL_law_ 2693 = .ok (.aload_n 2, 1) := by decide +kernel
theorem dL_law__2694 : decode cL_law_ 2694 = .ok (.aload_n 0, 1) := by decide +kernel
theorem dL_law__2695 : decode cL_law_ 2695 = .ok (.iload 4, 2) := by decide +kernel
theorem dL_law__2697 : decode cL_law_ 2697 = .ok (.iconst 1, 1) := by decide +kernel
theorem dL_law__2698 : decode cL_law_ 2698 = .ok (.iadd, 1) := by decide +kernel
theorem dL_law__2699 : decode cL_law_ 2699 = .ok (.iaload, 1) := by decide +kernel
theorem dL_law__2700 : decode cL_law_ 2700 = .ok (.aload_n 0, 1) := by decide +kernel
theorem dL_law__2701 : decode cL_law_ 2701 = .ok (.iload 4, 2) := by decide +kernel
theorem dL_law__2703 : decode cL_law_ 2703 = .ok (.iconst 2, 1) := by decide +kernel
theorem dL_law__2704 : decode cL_law_ 2704 = .ok (.iadd, 1) := by decide +kernel
theorem dL_law__2705 : decode cL_law_ 2705 = .ok (.iaload, 1) := by decide +kernel
theorem dL_law__2706 : decode cL_law_ 2706 = .ok (.ifCond .eq 7, 3) := by decide +kernel
theorem dL_law__2709 : decode cL_law_ 2709 = .ok (.iconst 1, 1) := by decide +kernel
theorem dL_law__2710 : decode cL_law_ 2710 = .ok (.goto 4, 3) := by decide +kernel
theorem dL_law__2713 : decode cL_law_ 2713 = .ok (.iconst 0, 1) := by decide +kernel
theorem dL_law__2714 : decode cL_law_ 2714 = .ok (.invokevirtual 305, 3) := by decide +kernel
theorem dL_law__2717 : decode cL_law_ 2717 = .ok (.istore 6, 2) := by decide +kernel
theorem dL_law__2719 : decode cL_law_ 2719 = .ok (.aload_n 2, 1) := by decide +kernel
theorem dL_law__2720 : decode cL_law_ 2720 = .ok (.invokevirtual 158, 3) := by decide +kernel
theorem dL_law__2723 : decode cL_law_ 2723 = .ok (.iload 5, 2) := by decide +kernel
theorem dL_law__2725 : decode cL_law_ 2725 = .ok (.if_icmp .eq 5, 3) := by decide +kernel
theorem dL_law__2728 : decode cL_law_ 2728 = .ok (.iconst 0, 1) := by decide +kernel
theorem dL_law__2729 : decode cL_law_ 2729 = .ok (.ireturn, 1) := by decide +kernel
theorem dL_law__2730 : decode cL_law_ 2730 = .ok (.iload 5, 2) := by decide +kernel
theorem dL_law__2732 : decode cL_law_ 2732 = .ok (.ifCond .ne 15, 3) := by decide +kernel
theorem dL_law__2735 : decode cL_law_ 2735 = .ok (.aload_n 3, 1) := by decide +kernel
theorem dL_law__2736 : decode cL_law_ 2736 = .ok (.iconst 0, 1) := by decide +kernel
theorem dL_law__2737 : decode cL_law_ 2737 = .ok (.laload, 1) := by decide +kernel
theorem dL_law__2738 : decode cL_law_ 2738 = .ok (.iload 6, 2) := by decide +kernel
theorem dL_law__2740 : decode cL_law_ 2740 = .ok (.i2l, 1) := by decide +kernel
theorem dL_law__2741 : decode cL_law_ 2741 = .ok (.lcmp, 1) := by decide +kernel
theorem dL_law__2742 : decode cL_law_ 2742 = .ok (.ifCond .eq 5, 3) := by decide +kernel
theorem dL_law__2745 : decode cL_law_ 2745 = .ok (.iconst 0, 1) := by decide +kernel
theorem dL_law__2746 : decode cL_law_ 2746 = .ok (.ireturn, 1) := by decide +kernel
theorem dL_law__2747 : decode cL_law_ 2747 = .ok (.goto 326, 3) := by decide +kernel
theorem dL_law__2750 : decode cL_law_ 2750 = .ok (.aload_n 1, 1) := by decide +kernel
theorem dL_law__2751 : decode cL_law_ 2751 = .ok (.aload_n 0, 1) := by decide +kernel
theorem dL_law__2752 : decode cL_law_ 2752 = .ok (.iload 4, 2) := by decide +kernel
theorem dL_law__2754 : decode cL_law_ 2754 = .ok (.iconst 1, 1) := by decide +kernel
theorem dL_law__2755 : decode cL_law_ 2755 = .ok (.iadd, 1) := by decide +kernel
theorem dL_law__2756 : decode cL_law_ 2756 = .ok (.iaload, 1) := by decide +kernel
theorem dL_law__2757 : decode cL_law_ 2757 = .ok (.aload_n 0, 1) := by decide +kernel
theorem dL_law__2758 : decode cL_law_ 2758 = .ok (.iload 4, 2) := by decide +kernel
theorem dL_law__2760 : decode cL_law_ 2760 = .ok (.iconst 2, 1) := by decide +kernel
theorem dL_law__2761 : decode cL_law_ 2761 = .ok (.iadd, 1) := by decide +kernel
theorem dL_law__2762 : decode cL_law_ 2762 = .ok (.iaload, 1) := by decide +kernel
theorem dL_law__2763 : decode cL_law_ 2763 = .ok (.ifCond .eq 7, 3) := by decide +kernel
theorem dL_law__2766 : decode cL_law_ 2766 = .ok (.iconst 1, 1) := by decide +kernel
theorem dL_law__2767 : decode cL_law_ 2767 = .ok (.goto 4, 3) := by decide +kernel
theorem dL_law__2770 : decode cL_law_ 2770 = .ok (.iconst 0, 1) := by decide +kernel
theorem dL_law__2771 : decode cL_law_ 2771 = .ok (.aload_n 3, 1) := by decide +kernel
theorem dL_law__2772 : decode cL_law_ 2772 = .ok (.invokestatic 306, 3) := by decide +kernel
theorem dL_law__2775 : decode cL_law_ 2775 = .ok (.istore 5, 2) := by decide +kernel
theorem dL_law__2777 : decode cL_law_ 2777 = .ok (.aload_n 2, 1) := by decide +kernel
theorem dL_law__2778 : decode cL_law_ 2778 = .ok (.aload_n 0, 1) := by decide +kernel
theorem dL_law__2779 : decode cL_law_ 2779 = .ok (.iload 4, 2) := by decide +kernel
theorem dL_law__2781 : decode cL_law_ 2781 = .ok (.iconst 1, 1) := by decide +kernel
theorem dL_law__2782 : decode cL_law_ 2782 = .ok (.iadd, 1) := by decide +kernel
theorem dL_law__2783 : decode cL_law_ 2783 = .ok (.iaload, 1) := by decide +kernel
theorem dL_law__2784 : decode cL_law_ 2784 = .ok (.aload_n 0, 1) := by decide +kernel
theorem dL_law__2785 : decode cL_law_ 2785 = .ok (.iload 4, 2) := by decide +kernel
theorem dL_law__2787 : decode cL_law_ 2787 = .ok (.iconst 2, 1) := by decide +kernel
theorem dL_law__2788 : decode cL_law_ 2788 = .ok (.iadd, 1) := by decide +kernel
theorem dL_law__2789 : decode cL_law_ 2789 = .ok (.iaload, 1) := by decide +kernel
theorem dL_law__2790 : decode cL_law_ 2790 = .ok (.ifCond .eq 7, 3) := by decide +kernel
theorem dL_law__2793 : decode cL_law_ 2793 = .ok (.iconst 1, 1) := by decide +kernel
theorem dL_law__2794 : decode cL_law_ 2794 = .ok (.goto 4, 3) := by decide +kernel
theorem dL_law__2797 : decode cL_law_ 2797 = .ok (.iconst 0, 1) := by decide +kernel
theorem dL_law__2798 : decode cL_law_ 2798 = .ok (.invokevirtual 308, 3) := by decide +kernel
theorem dL_law__2801 : decode cL_law_ 2801 = .ok (.istore 6, 2) := by decide +kernel
theorem dL_law__2803 : decode cL_law_ 2803 = .ok (.aload_n 2, 1) := by decide +kernel
theorem dL_law__2804 : decode cL_law_ 2804 = .ok (.invokevirtual 158, 3) := by decide +kernel
theorem dL_law__2807 : decode cL_law_ 2807 = .ok (.iload 5, 2) := by decide +kernel
theorem dL_law__2809 : decode cL_law_ 2809 = .ok (.if_icmp .eq 5, 3) := by decide +kernel
theorem dL_law__2812 : decode cL_law_ 2812 = .ok (.iconst 0, 1) := by decide +kernel
theorem dL_law__2813 : decode cL_law_ 2813 = .ok (.ireturn, 1) := by decide +kernel
theorem dL_law__2814 : decode cL_law_ 2814 = .ok (.iload 5, 2) := by decide +kernel
theorem dL_law__2816 : decode cL_law_ 2816 = .ok (.ifCond .ne 15, 3) := by decide +kernel
theorem dL_law__2819 : decode cL_law_ 2819 = .ok (.aload_n 3, 1) := by decide +kernel
theorem dL_law__2820 : decode cL_law_ 2820 = .ok (.iconst 0, 1) := by decide +kernel
theorem dL_law__2821 : decode cL_law_ 2821 = .ok (.laload, 1) := by decide +kernel
theorem dL_law__2822 : decode cL_law_ 2822 = .ok (.iload 6, 2) := by decide +kernel
theorem dL_law__2824 : decode cL_law_ 2824 = .ok (.i2l, 1) := by decide +kernel
theorem dL_law__2825 : decode cL_law_ 2825 = .ok (.lcmp, 1) := by decide +kernel
theorem dL_law__2826 : decode cL_law_ 2826 = .ok (.ifCond .eq 5, 3) := by decide +kernel
theorem dL_law__2829 : decode cL_law_ 2829 = .ok (.iconst 0, 1) := by decide +kernel
theorem dL_law__2830 : decode cL_law_ 2830 = .ok (.ireturn, 1) := by decide +kernel
theorem dL_law__2831 : decode cL_law_ 2831 = .ok (.goto 242, 3) := by decide +kernel
theorem dL_law__2834 : decode cL_law_ 2834 = .ok (.aload_n 1, 1) := by decide +kernel
theorem dL_law__2835 : decode cL_law_ 2835 = .ok (.aload_n 0, 1) := by decide +kernel
theorem dL_law__2836 : decode cL_law_ 2836 = .ok (.iload 4, 2) := by decide +kernel
theorem dL_law__2838 : decode cL_law_ 2838 = .ok (.iconst 1, 1) := by decide +kernel
theorem dL_law__2839 : decode cL_law_ 2839 = .ok (.iadd, 1) := by decide +kernel
theorem dL_law__2840 : decode cL_law_ 2840 = .ok (.iaload, 1) := by decide +kernel
theorem dL_law__2841 : decode cL_law_ 2841 = .ok (.aload_n 0, 1) := by decide +kernel
theorem dL_law__2842 : decode cL_law_ 2842 = .ok (.iload 4, 2) := by decide +kernel
theorem dL_law__2844 : decode cL_law_ 2844 = .ok (.iconst 2, 1) := by decide +kernel
theorem dL_law__2845 : decode cL_law_ 2845 = .ok (.iadd, 1) := by decide +kernel
theorem dL_law__2846 : decode cL_law_ 2846 = .ok (.iaload, 1) := by decide +kernel
theorem dL_law__2847 : decode cL_law_ 2847 = .ok (.ifCond .eq 7, 3) := by decide +kernel
theorem dL_law__2850 : decode cL_law_ 2850 = .ok (.iconst 1, 1) := by decide +kernel
theorem dL_law__2851 : decode cL_law_ 2851 = .ok (.goto 4, 3) := by decide +kernel
theorem dL_law__2854 : decode cL_law_ 2854 = .ok (.iconst 0, 1) := by decide +kernel
theorem dL_law__2855 : decode cL_law_ 2855 = .ok (.aload_n 3, 1) := by decide +kernel
theorem dL_law__2856 : decode cL_law_ 2856 = .ok (.invokestatic 309, 3) := by decide +kernel
theorem dL_law__2859 : decode cL_law_ 2859 = .ok (.istore 5, 2) := by decide +kernel
theorem dL_law__2861 : decode cL_law_ 2861 = .ok (.aload_n 2, 1) := by decide +kernel
theorem dL_law__2862 : decode cL_law_ 2862 = .ok (.aload_n 0, 1) := by decide +kernel
theorem dL_law__2863 : decode cL_law_ 2863 = .ok (.iload 4, 2) := by decide +kernel
theorem dL_law__2865 : decode cL_law_ 2865 = .ok (.iconst 1, 1) := by decide +kernel
theorem dL_law__2866 : decode cL_law_ 2866 = .ok (.iadd, 1) := by decide +kernel
theorem dL_law__2867 : decode cL_law_ 2867 = .ok (.iaload, 1) := by decide +kernel
theorem dL_law__2868 : decode cL_law_ 2868 = .ok (.aload_n 0, 1) := by decide +kernel
theorem dL_law__2869 : decode cL_law_ 2869 = .ok (.iload 4, 2) := by decide +kernel
theorem dL_law__2871 : decode cL_law_ 2871 = .ok (.iconst 2, 1) := by decide +kernel
theorem dL_law__2872 : decode cL_law_ 2872 = .ok (.iadd, 1) := by decide +kernel
theorem dL_law__2873 : decode cL_law_ 2873 = .ok (.iaload, 1) := by decide +kernel
theorem dL_law__2874 : decode cL_law_ 2874 = .ok (.ifCond .eq 7, 3) := by decide +kernel
theorem dL_law__2877 : decode cL_law_ 2877 = .ok (.iconst 1, 1) := by decide +kernel
theorem dL_law__2878 : decode cL_law_ 2878 = .ok (.goto 4, 3) := by decide +kernel
theorem dL_law__2881 : decode cL_law_ 2881 = .ok (.iconst 0, 1) := by decide +kernel
theorem dL_law__2882 : decode cL_law_ 2882 = .ok (.invokevirtual 311, 3) := by decide +kernel
theorem dL_law__2885 : decode cL_law_ 2885 = .ok (.istore 6, 2) := by decide +kernel
theorem dL_law__2887 : decode cL_law_ 2887 = .ok (.aload_n 2, 1) := by decide +kernel
theorem dL_law__2888 : decode cL_law_ 2888 = .ok (.invokevirtual 158, 3) := by decide +kernel
theorem dL_law__2891 : decode cL_law_ 2891 = .ok (.iload 5, 2) := by decide +kernel
theorem dL_law__2893 : decode cL_law_ 2893 = .ok (.if_icmp .eq 5, 3) := by decide +kernel
theorem dL_law__2896 : decode cL_law_ 2896 = .ok (.iconst 0, 1) := by decide +kernel
theorem dL_law__2897 : decode cL_law_ 2897 = .ok (.ireturn, 1) := by decide +kernel
theorem dL_law__2898 : decode cL_law_ 2898 = .ok (.iload 5, 2) := by decide +kernel
theorem dL_law__2900 : decode cL_law_ 2900 = .ok (.ifCond .ne 15, 3) := by decide +kernel
theorem dL_law__2903 : decode cL_law_ 2903 = .ok (.aload_n 3, 1) := by decide +kernel
theorem dL_law__2904 : decode cL_law_ 2904 = .ok (.iconst 0, 1) := by decide +kernel
theorem dL_law__2905 : decode cL_law_ 2905 = .ok (.laload, 1) := by decide +kernel
theorem dL_law__2906 : decode cL_law_ 2906 = .ok (.iload 6, 2) := by decide +kernel
theorem dL_law__2908 : decode cL_law_ 2908 = .ok (.i2l, 1) := by decide +kernel
theorem dL_law__2909 : decode cL_law_ 2909 = .ok (.lcmp, 1) := by decide +kernel
theorem dL_law__2910 : decode cL_law_ 2910 = .ok (.ifCond .eq 5, 3) := by decide +kernel
theorem dL_law__2913 : decode cL_law_ 2913 = .ok (.iconst 0, 1) := by decide +kernel
theorem dL_law__2914 : decode cL_law_ 2914 = .ok (.ireturn, 1) := by decide +kernel
theorem dL_law__2915 : decode cL_law_ 2915 = .ok (.goto 158, 3) := by decide +kernel
theorem dL_law__2918 : decode cL_law_ 2918 = .ok (.aload_n 1, 1) := by decide +kernel
theorem dL_law__2919 : decode cL_law_ 2919 = .ok (.aload_n 0, 1) := by decide +kernel
theorem dL_law__2920 : decode cL_law_ 2920 = .ok (.iload 4, 2) := by decide +kernel
theorem dL_law__2922 : decode cL_law_ 2922 = .ok (.iconst 1, 1) := by decide +kernel
theorem dL_law__2923 : decode cL_law_ 2923 = .ok (.iadd, 1) := by decide +kernel
theorem dL_law__2924 : decode cL_law_ 2924 = .ok (.iaload, 1) := by decide +kernel
theorem dL_law__2925 : decode cL_law_ 2925 = .ok (.aload_n 0, 1) := by decide +kernel
theorem dL_law__2926 : decode cL_law_ 2926 = .ok (.iload 4, 2) := by decide +kernel
theorem dL_law__2928 : decode cL_law_ 2928 = .ok (.iconst 2, 1) := by decide +kernel
theorem dL_law__2929 : decode cL_law_ 2929 = .ok (.iadd, 1) := by decide +kernel
theorem dL_law__2930 : decode cL_law_ 2930 = .ok (.iaload, 1) := by decide +kernel
theorem dL_law__2931 : decode cL_law_ 2931 = .ok (.aload_n 3, 1) := by decide +kernel
theorem dL_law__2932 : decode cL_law_ 2932 = .ok (.invokestatic 312, 3) := by decide +kernel
theorem dL_law__2935 : decode cL_law_ 2935 = .ok (.istore 5, 2) := by decide +kernel
theorem dL_law__2937 : decode cL_law_ 2937 = .ok (.aload_n 2, 1) := by decide +kernel
theorem dL_law__2938 : decode cL_law_ 2938 = .ok (.aload_n 0, 1) := by decide +kernel
theorem dL_law__2939 : decode cL_law_ 2939 = .ok (.iload 4, 2) := by decide +kernel
theorem dL_law__2941 : decode cL_law_ 2941 = .ok (.iconst 1, 1) := by decide +kernel
theorem dL_law__2942 : decode cL_law_ 2942 = .ok (.iadd, 1) := by decide +kernel
theorem dL_law__2943 : decode cL_law_ 2943 = .ok (.iaload, 1) := by decide +kernel
theorem dL_law__2944 : decode cL_law_ 2944 = .ok (.aload_n 0, 1) := by decide +kernel
theorem dL_law__2945 : decode cL_law_ 2945 = .ok (.iload 4, 2) := by decide +kernel
theorem dL_law__2947 : decode cL_law_ 2947 = .ok (.iconst 2, 1) := by decide +kernel
theorem dL_law__2948 : decode cL_law_ 2948 = .ok (.iadd, 1) := by decide +kernel
theorem dL_law__2949 : decode cL_law_ 2949 = .ok (.iaload, 1) := by decide +kernel
theorem dL_law__2950 : decode cL_law_ 2950 = .ok (.invokevirtual 314, 3) := by decide +kernel
theorem dL_law__2953 : decode cL_law_ 2953 = .ok (.istore 6, 2) := by decide +kernel
theorem dL_law__2955 : decode cL_law_ 2955 = .ok (.aload_n 2, 1) := by decide +kernel
theorem dL_law__2956 : decode cL_law_ 2956 = .ok (.invokevirtual 158, 3) := by decide +kernel
theorem dL_law__2959 : decode cL_law_ 2959 = .ok (.iload 5, 2) := by decide +kernel
theorem dL_law__2961 : decode cL_law_ 2961 = .ok (.if_icmp .eq 5, 3) := by decide +kernel
theorem dL_law__2964 : decode cL_law_ 2964 = .ok (.iconst 0, 1) := by decide +kernel
theorem dL_law__2965 : decode cL_law_ 2965 = .ok (.ireturn, 1) := by decide +kernel
theorem dL_law__2966 : decode cL_law_ 2966 = .ok (.iload 5, 2) := by decide +kernel
theorem dL_law__2968 : decode cL_law_ 2968 = .ok (.ifCond .ne 15, 3) := by decide +kernel
theorem dL_law__2971 : decode cL_law_ 2971 = .ok (.aload_n 3, 1) := by decide +kernel
theorem dL_law__2972 : decode cL_law_ 2972 = .ok (.iconst 0, 1) := by decide +kernel
theorem dL_law__2973 : decode cL_law_ 2973 = .ok (.laload, 1) := by decide +kernel
theorem dL_law__2974 : decode cL_law_ 2974 = .ok (.iload 6, 2) := by decide +kernel
theorem dL_law__2976 : decode cL_law_ 2976 = .ok (.i2l, 1) := by decide +kernel
theorem dL_law__2977 : decode cL_law_ 2977 = .ok (.lcmp, 1) := by decide +kernel
theorem dL_law__2978 : decode cL_law_ 2978 = .ok (.ifCond .eq 5, 3) := by decide +kernel
theorem dL_law__2981 : decode cL_law_ 2981 = .ok (.iconst 0, 1) := by decide +kernel
theorem dL_law__2982 : decode cL_law_ 2982 = .ok (.ireturn, 1) := by decide +kernel
theorem dL_law__2983 : decode cL_law_ 2983 = .ok (.goto 90, 3) := by decide +kernel
theorem dL_law__2986 : decode cL_law_ 2986 = .ok (.aload_n 1, 1) := by decide +kernel
theorem dL_law__2987 : decode cL_law_ 2987 = .ok (.aload_n 0, 1) := by decide +kernel
theorem dL_law__2988 : decode cL_law_ 2988 = .ok (.iload 4, 2) := by decide +kernel
theorem dL_law__2990 : decode cL_law_ 2990 = .ok (.iconst 1, 1) := by decide +kernel
theorem dL_law__2991 : decode cL_law_ 2991 = .ok (.iadd, 1) := by decide +kernel
theorem dL_law__2992 : decode cL_law_ 2992 = .ok (.iaload, 1) := by decide +kernel
theorem dL_law__2993 : decode cL_law_ 2993 = .ok (.invokevirtual 315, 3) := by decide +kernel
theorem dL_law__2996 : decode cL_law_ 2996 = .ok (.aload_n 2, 1) := by decide +kernel
theorem dL_law__2997 : decode cL_law_ 2997 = .ok (.aload_n 0, 1) := by decide +kernel
theorem dL_law__2998 : decode cL_law_ 2998 = .ok (.iload 4, 2) := by decide +kernel
theorem dL_law__3000 : decode cL_law_ 3000 = .ok (.iconst 1, 1) := by decide +kernel
theorem dL_law__3001 : decode cL_law_ 3001 = .ok (.iadd, 1) := by decide +kernel
theorem dL_law__3002 : decode cL_law_ 3002 = .ok (.iaload, 1) := by decide +kernel
theorem dL_law__3003 : decode cL_law_ 3003 = .ok (.invokevirtual 318, 3) := by decide +kernel
theorem dL_law__3006 : decode cL_law_ 3006 = .ok (.if_icmp .eq 67, 3) := by decide +kernel
theorem dL_law__3009 : decode cL_law_ 3009 = .ok (.iconst 0, 1) := by decide +kernel
theorem dL_law__3010 : decode cL_law_ 3010 = .ok (.ireturn, 1) := by decide +kernel
theorem dL_law__3011 : decode cL_law_ 3011 = .ok (.aload_n 1, 1) := by decide +kernel
theorem dL_law__3012 : decode cL_law_ 3012 = .ok (.invokevirtual 319, 3) := by decide +kernel
theorem dL_law__3015 : decode cL_law_ 3015 = .ok (.aload_n 2, 1) := by decide +kernel
theorem dL_law__3016 : decode cL_law_ 3016 = .ok (.invokevirtual 323, 3) := by decide +kernel
theorem dL_law__3019 : decode cL_law_ 3019 = .ok (.if_icmp .eq 54, 3) := by decide +kernel
theorem dL_law__3022 : decode cL_law_ 3022 = .ok (.iconst 0, 1) := by decide +kernel
theorem dL_law__3023 : decode cL_law_ 3023 = .ok (.ireturn, 1) := by decide +kernel
theorem dL_law__3024 : decode cL_law_ 3024 = .ok (.aload_n 1, 1) := by decide +kernel
theorem dL_law__3025 : decode cL_law_ 3025 = .ok (.invokevirtual 324, 3) := by decide +kernel
theorem dL_law__3028 : decode cL_law_ 3028 = .ok (.aload_n 2, 1) := by decide +kernel
theorem dL_law__3029 : decode cL_law_ 3029 = .ok (.invokevirtual 327, 3) := by decide +kernel
theorem dL_law__3032 : decode cL_law_ 3032 = .ok (.goto 41, 3) := by decide +kernel
theorem dL_law__3035 : decode cL_law_ 3035 = .ok (.aload_n 1, 1) := by decide +kernel
theorem dL_law__3036 : decode cL_law_ 3036 = .ok (.invokevirtual 328, 3) := by decide +kernel
theorem dL_law__3039 : decode cL_law_ 3039 = .ok (.aload_n 2, 1) := by decide +kernel
theorem dL_law__3040 : decode cL_law_ 3040 = .ok (.invokevirtual 331, 3) := by decide +kernel
theorem dL_law__3043 : decode cL_law_ 3043 = .ok (.if_icmp .eq 30, 3) := by decide +kernel
