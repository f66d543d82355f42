theorem dL_law_2501 : decode cL_law 2501 = .ok (.iconst 0, 1) := by decide +kernel
theorem dL_law_2502 : decode cL_law 2502 = .ok (.ireturn, 1) := by decide +kernel
theorem dL_law_2503 : decode cL_law 2503 = .ok (.aload_n 1, 1) := by decide +kernel
theorem dL_law_2504 : decode cL_law 2504 = .ok (.invokevirtual 315, 3) := by decide +kernel
theorem dL_law_2507 : decode cL_law 2507 = .ok (.dstore 5, 2) := by decide +kernel
theorem dL_law_2509 : decode cL_law 2509 = .ok (.aload_n 2, 1) := by decide +kernel
theorem dL_law_2510 : decode cL_law 2510 = .ok (.invokevirtual 319, 3) := by decide +kernel
theorem dL_law_2513 : decode cL_law 2513 = .ok (.dstore 7, 2) := by decide +kernel
theorem dL_law_2515 : decode cL_law 2515 = .ok (.dload 5, 2) := by decide +kernel
theorem dL_law_2517 : decode cL_law 2517 = .ok (.dload 7, 2) := by decide +kernel
theorem dL_law_2519 : decode cL_law 2519 = .ok (.dcmp .l, 1) := by decide +kernel
theorem dL_law_2520 : decode cL_law 2520 = .ok (.ifCond .eq 21, 3) := by decide +kernel
theorem dL_law_2523 : decode cL_law 2523 = .ok (.dload 5, 2) := by decide +kernel
theorem dL_law_2525 : decode cL_law 2525 = .ok (.dload 5, 2) := by decide +kernel
theorem dL_law_2527 : decode cL_law 2527 = .ok (.dcmp .l, 1) := by decide +kernel
theorem dL_law_2528 : decode cL_law 2528 = .ok (.ifCond .eq 11, 3) := by decide +kernel
theorem dL_law_2531 : decode cL_law 2531 = .ok (.dload 7, 2) := by decide +kernel
theorem dL_law_2533 : decode cL_law 2533 = .ok (.dload 7, 2) := by decide +kernel
theorem dL_law_2535 : decode cL_law 2535 = .ok (.dcmp .l, 1) := by decide +kernel
theorem dL_law_2536 : decode cL_law 2536 = .ok (.ifCond .ne 5, 3) := by decide +kernel
theorem dL_law_2539 : decode cL_law 2539 = .ok (.iconst 0, 1) := by decide +kernel
theorem dL_law_2540 : decode cL_law 2540 = .ok (.ireturn, 1) := by decide +kernel
theorem dL_law_2541 : decode cL_law 2541 = .ok (.goto 17, 3) := by decide +kernel
theorem dL_law_2544 : decode cL_law 2544 = .ok (.aload_n 1, 1) := by decide +kernel
theorem dL_law_2545 : decode cL_law 2545 = .ok (.invokevirtual 320, 3) := by decide +kernel
theorem dL_law_2548 : decode cL_law 2548 = .ok (.aload_n 2, 1) := by decide +kernel
theorem dL_law_2549 : decode cL_law 2549 = .ok (.invokevirtual 324, 3) := by decide +kernel
theorem dL_law_2552 : decode cL_law 2552 = .ok (.lcmp, 1) := by decide +kernel
theorem dL_law_2553 : decode cL_law 2553 = .ok (.ifCond .eq 5, 3) := by decide +kernel
theorem dL_law_2556 : decode cL_law 2556 = .ok (.iconst 0, 1) := by decide +kernel
theorem dL_law_2557 : decode cL_law 2557 = .ok (.ireturn, 1) := by decide +kernel
theorem dL_law_2558 : decode cL_law 2558 = .ok (.iinc 4 4, 3) := by decide +kernel
theorem dL_law_2561 : decode cL_law 2561 = .ok (.goto (-2538), 3) := by decide +kernel
theorem dL_law_2564 : decode cL_law 2564 = .ok (.iconst 1, 1) := by decide +kernel
theorem dL_law_2565 : decode cL_law 2565 = .ok (.ireturn, 1) := by decide +kernel
