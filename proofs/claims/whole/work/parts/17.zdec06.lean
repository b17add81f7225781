theorem dL_law_2392 : decode cL_law 2392 = .ok (.iconst 1, 1) := by decide +kernel
theorem dL_law_2393 : decode cL_law 2393 = .ok (.iadd, 1) := by decide +kernel
theorem dL_law_2394 : decode cL_law 2394 = .ok (.iaload, 1) := by decide +kernel
theorem dL_law_2395 : decode cL_law 2395 = .ok (.invokevirtual 233, 3) := by decide +kernel
theorem dL_law_2398 : decode cL_law 2398 = .ok (.aload_n 2, 1) := by decide +kernel
theorem dL_law_2399 : decode cL_law 2399 = .ok (.aload_n 0, 1) := by decide +kernel
theorem dL_law_2400 : decode cL_law 2400 = .ok (.iload_n 3, 1) := by decide +kernel
theorem dL_law_2401 : decode cL_law 2401 = .ok (.iconst 1, 1) := by decide +kernel
theorem dL_law_2402 : decode cL_law 2402 = .ok (.iadd, 1) := by decide +kernel
theorem dL_law_2403 : decode cL_law 2403 = .ok (.iaload, 1) := by decide +kernel
theorem dL_law_2404 : decode cL_law 2404 = .ok (.invokevirtual 236, 3) := by decide +kernel
theorem dL_law_2407 : decode cL_law 2407 = .ok (.if_icmp .eq 19, 3) := by decide +kernel
theorem dL_law_2410 : decode cL_law 2410 = .ok (.iconst 0, 1) := by decide +kernel
theorem dL_law_2411 : decode cL_law 2411 = .ok (.ireturn, 1) := by decide +kernel
theorem dL_law_2412 : decode cL_law 2412 = .ok (.aload_n 1, 1) := by decide +kernel
theorem dL_law_2413 : decode cL_law 2413 = .ok (.invokevirtual 237, 3) := by decide +kernel
theorem dL_law_2416 : decode cL_law 2416 = .ok (.aload_n 2, 1) := by decide +kernel
theorem dL_law_2417 : decode cL_law 2417 = .ok (.invokevirtual 240, 3) := by decide +kernel
theorem dL_law_2420 : decode cL_law 2420 = .ok (.lcmp, 1) := by decide +kernel
theorem dL_law_2421 : decode cL_law 2421 = .ok (.ifCond .eq 5, 3) := by decide +kernel
theorem dL_law_2424 : decode cL_law 2424 = .ok (.iconst 0, 1) := by decide +kernel
theorem dL_law_2425 : decode cL_law 2425 = .ok (.ireturn, 1) := by decide +kernel
theorem dL_law_2426 : decode cL_law 2426 = .ok (.iinc 3 7, 3) := by decide +kernel
theorem dL_law_2429 : decode cL_law 2429 = .ok (.goto (-2411), 3) := by decide +kernel
theorem dL_law_2432 : decode cL_law 2432 = .ok (.iconst 1, 1) := by decide +kernel
theorem dL_law_2433 : decode cL_law 2433 = .ok (.ireturn, 1) := by decide +kernel
