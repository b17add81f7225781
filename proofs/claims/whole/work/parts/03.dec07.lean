theorem dX3_standsAt_2 : decode cX3_standsAt 2 = .ok (.iload_n 3, 1) := by decide +kernel
theorem dX3_standsAt_3 : decode cX3_standsAt 3 = .ok (.aload_n 1, 1) := by decide +kernel
theorem dX3_standsAt_4 : decode cX3_standsAt 4 = .ok (.invokevirtual 55, 3) := by decide +kernel
theorem dX3_standsAt_7 : decode cX3_standsAt 7 = .ok (.if_icmp .ge 27, 3) := by decide +kernel
theorem dX3_standsAt_10 : decode cX3_standsAt 10 = .ok (.aload_n 0, 1) := by decide +kernel
theorem dX3_standsAt_11 : decode cX3_standsAt 11 = .ok (.getfield 9, 3) := by decide +kernel
theorem dX3_standsAt_14 : decode cX3_standsAt 14 = .ok (.iload_n 2, 1) := by decide +kernel
theorem dX3_standsAt_15 : decode cX3_standsAt 15 = .ok (.iload_n 3, 1) := by decide +kernel
theorem dX3_standsAt_16 : decode cX3_standsAt 16 = .ok (.iadd, 1) := by decide +kernel
theorem dX3_standsAt_17 : decode cX3_standsAt 17 = .ok (.caload, 1) := by decide +kernel
theorem dX3_standsAt_18 : decode cX3_standsAt 18 = .ok (.aload_n 1, 1) := by decide +kernel
theorem dX3_standsAt_19 : decode cX3_standsAt 19 = .ok (.iload_n 3, 1) := by decide +kernel
theorem dX3_standsAt_20 : decode cX3_standsAt 20 = .ok (.invokevirtual 64, 3) := by decide +kernel
theorem dX3_standsAt_23 : decode cX3_standsAt 23 = .ok (.if_icmp .eq 5, 3) := by decide +kernel
theorem dX3_standsAt_26 : decode cX3_standsAt 26 = .ok (.iconst 0, 1) := by decide +kernel
theorem dX3_standsAt_27 : decode cX3_standsAt 27 = .ok (.ireturn, 1) := by decide +kernel
theorem dX3_standsAt_28 : decode cX3_standsAt 28 = .ok (.iinc 3 1, 3) := by decide +kernel
theorem dX3_standsAt_31 : decode cX3_standsAt 31 = .ok (.goto (-29), 3) := by decide +kernel
theorem dX3_standsAt_34 : decode cX3_standsAt 34 = .ok (.iconst 1, 1) := by decide +kernel
theorem dX3_standsAt_35 : decode cX3_standsAt 35 = .ok (.ireturn, 1) := by decide +kernel
theorem dX3_numberIn_0 : decode cX3_numberIn 0 = .ok (.iconst 0, 1) := by decide +kernel
theorem dX3_numberIn_1 : decode cX3_numberIn 1 = .ok (.istore_n 3, 1) := by decide +kernel
theorem dX3_numberIn_2 : decode cX3_numberIn 2 = .ok (.iload_n 1, 1) := by decide +kernel
theorem dX3_numberIn_3 : decode cX3_numberIn 3 = .ok (.istore 4, 2) := by decide +kernel
theorem dX3_numberIn_5 : decode cX3_numberIn 5 = .ok (.iload 4, 2) := by decide +kernel
theorem dX3_numberIn_7 : decode cX3_numberIn 7 = .ok (.iload_n 2, 1) := by decide +kernel
theorem dX3_numberIn_8 : decode cX3_numberIn 8 = .ok (.if_icmp .ge 25, 3) := by decide +kernel
theorem dX3_numberIn_11 : decode cX3_numberIn 11 = .ok (.bipush 10, 2) := by decide +kernel
theorem dX3_numberIn_13 : decode cX3_numberIn 13 = .ok (.iload_n 3, 1) := by decide +kernel
theorem dX3_numberIn_14 : decode cX3_numberIn 14 = .ok (.imul, 1) := by decide +kernel
theorem dX3_numberIn_15 : decode cX3_numberIn 15 = .ok (.aload_n 0, 1) := by decide +kernel
theorem dX3_numberIn_16 : decode cX3_numberIn 16 = .ok (.getfield 9, 3) := by decide +kernel
theorem dX3_numberIn_19 : decode cX3_numberIn 19 = .ok (.iload 4, 2) := by decide +kernel
theorem dX3_numberIn_21 : decode cX3_numberIn 21 = .ok (.caload, 1) := by decide +kernel
theorem dX3_numberIn_22 : decode cX3_numberIn 22 = .ok (.iadd, 1) := by decide +kernel
theorem dX3_numberIn_23 : decode cX3_numberIn 23 = .ok (.bipush 48, 2) := by decide +kernel
theorem dX3_numberIn_25 : decode cX3_numberIn 25 = .ok (.isub, 1) := by decide +kernel
theorem dX3_numberIn_26 : decode cX3_numberIn 26 = .ok (.istore_n 3, 1) := by decide +kernel
theorem dX3_numberIn_27 : decode cX3_numberIn 27 = .ok (.iinc 4 1, 3) := by decide +kernel
theorem dX3_numberIn_30 : decode cX3_numberIn 30 = .ok (.goto (-25), 3) := by decide +kernel
theorem dX3_numberIn_33 : decode cX3_numberIn 33 = .ok (.iload_n 3, 1) := by decide +kernel
theorem dX3_numberIn_34 : decode cX3_numberIn 34 = .ok (.ireturn, 1) := by decide +kernel
theorem dX3_endOfSpaces_0 : decode cX3_endOfSpaces 0 = .ok (.aload_n 0, 1) := by decide +kernel
theorem dX3_endOfSpaces_1 : decode cX3_endOfSpaces 1 = .ok (.iload_n 1, 1) := by decide +kernel
theorem dX3_endOfSpaces_2 : decode cX3_endOfSpaces 2 = .ok (.bipush 32, 2) := by decide +kernel
theorem dX3_endOfSpaces_4 : decode cX3_endOfSpaces 4 = .ok (.bipush 32, 2) := by decide +kernel
theorem dX3_endOfSpaces_6 : decode cX3_endOfSpaces 6 = .ok (.invokevirtual 68, 3) := by decide +kernel
theorem dX3_endOfSpaces_9 : decode cX3_endOfSpaces 9 = .ok (.ireturn, 1) := by decide +kernel
theorem dX3_endOfLetters_0 : decode cX3_endOfLetters 0 = .ok (.aload_n 0, 1) := by decide +kernel
theorem dX3_endOfLetters_1 : decode cX3_endOfLetters 1 = .ok (.iload_n 1, 1) := by decide +kernel
theorem dX3_endOfLetters_2 : decode cX3_endOfLetters 2 = .ok (.bipush 97, 2) := by decide +kernel
theorem dX3_endOfLetters_4 : decode cX3_endOfLetters 4 = .ok (.bipush 122, 2) := by decide +kernel
theorem dX3_endOfLetters_6 : decode cX3_endOfLetters 6 = .ok (.invokevirtual 68, 3) := by decide +kernel
theorem dX3_endOfLetters_9 : decode cX3_endOfLetters 9 = .ok (.ireturn, 1) := by decide +kernel
theorem dX3_endOfDigits_0 : decode cX3_endOfDigits 0 = .ok (.aload_n 0, 1) := by decide +kernel
theorem dX3_endOfDigits_1 : decode cX3_endOfDigits 1 = .ok (.iload_n 1, 1) := by decide +kernel
theorem dX3_endOfDigits_2 : decode cX3_endOfDigits 2 = .ok (.bipush 48, 2) := by decide +kernel
theorem dX3_endOfDigits_4 : decode cX3_endOfDigits 4 = .ok (.bipush 57, 2) := by decide +kernel
theorem dX3_endOfDigits_6 : decode cX3_endOfDigits 6 = .ok (.invokevirtual 68, 3) := by decide +kernel
theorem dX3_endOfDigits_9 : decode cX3_endOfDigits 9 = .ok (.ireturn, 1) := by decide +kernel
theorem dX3_endOfRun_0 : decode cX3_endOfRun 0 = .ok (.iload_n 1, 1) := by decide +kernel
theorem dX3_endOfRun_1 : decode cX3_endOfRun 1 = .ok (.istore 4, 2) := by decide +kernel
theorem dX3_endOfRun_3 : decode cX3_endOfRun 3 = .ok (.iload 4, 2) := by decide +kernel
theorem dX3_endOfRun_5 : decode cX3_endOfRun 5 = .ok (.aload_n 0, 1) := by decide +kernel
theorem dX3_endOfRun_6 : decode cX3_endOfRun 6 = .ok (.getfield 15, 3) := by decide +kernel
theorem dX3_endOfRun_9 : decode cX3_endOfRun 9 = .ok (.if_icmp .ge 31, 3) := by decide +kernel
theorem dX3_endOfRun_12 : decode cX3_endOfRun 12 = .ok (.aload_n 0, 1) := by decide +kernel
theorem dX3_endOfRun_13 : decode cX3_endOfRun 13 = .ok (.getfield 9, 3) := by decide +kernel
theorem dX3_endOfRun_16 : decode cX3_endOfRun 16 = .ok (.iload 4, 2) := by decide +kernel
theorem dX3_endOfRun_18 : decode cX3_endOfRun 18 = .ok (.caload, 1) := by decide +kernel
theorem dX3_endOfRun_19 : decode cX3_endOfRun 19 = .ok (.iload_n 2, 1) := by decide +kernel
theorem dX3_endOfRun_20 : decode cX3_endOfRun 20 = .ok (.if_icmp .lt 20, 3) := by decide +kernel
theorem dX3_endOfRun_23 : decode cX3_endOfRun 23 = .ok (.aload_n 0, 1) := by decide +kernel
theorem dX3_endOfRun_24 : decode cX3_endOfRun 24 = .ok (.getfield 9, 3) := by decide +kernel
theorem dX3_endOfRun_27 : decode cX3_endOfRun 27 = .ok (.iload 4, 2) := by decide +kernel
theorem dX3_endOfRun_29 : decode cX3_endOfRun 29 = .ok (.caload, 1) := by decide +kernel
theorem dX3_endOfRun_30 : decode cX3_endOfRun 30 = .ok (.iload_n 3, 1) := by decide +kernel
theorem dX3_endOfRun_31 : decode cX3_endOfRun 31 = .ok (.if_icmp .gt 9, 3) := by decide +kernel
theorem dX3_endOfRun_34 : decode cX3_endOfRun 34 = .ok (.iinc 4 1, 3) := by decide +kernel
theorem dX3_endOfRun_37 : decode cX3_endOfRun 37 = .ok (.goto (-34), 3) := by decide +kernel
theorem dX3_endOfRun_40 : decode cX3_endOfRun 40 = .ok (.iload 4, 2) := by decide +kernel
theorem dX3_endOfRun_42 : decode cX3_endOfRun 42 = .ok (.ireturn, 1) := by decide +kernel
theorem dX4_init_0 : decode cX4_init 0 = .ok (.aload_n 0, 1) := by decide +kernel
theorem dX4_init_1 : decode cX4_init 1 = .ok (.invokespecial 3, 3) := by decide +kernel
theorem dX4_init_4 : decode cX4_init 4 = .ok (.aload_n 0, 1) := by decide +kernel
theorem dX4_init_5 : decode cX4_init 5 = .ok (.new 9, 3) := by decide +kernel
theorem dX4_init_8 : decode cX4_init 8 = .ok (.dup, 1) := by decide +kernel
theorem dX4_init_9 : decode cX4_init 9 = .ok (.bipush (-9), 2) := by decide +kernel
theorem dX4_init_11 : decode cX4_init 11 = .ok (.invokespecial 11, 3) := by decide +kernel
theorem dX4_init_14 : decode cX4_init 14 = .ok (.putfield 14, 3) := by decide +kernel
theorem dX4_init_17 : decode cX4_init 17 = .ok (.aload_n 0, 1) := by decide +kernel
theorem dX4_init_18 : decode cX4_init 18 = .ok (.bipush 72, 2) := by decide +kernel
theorem dX4_init_20 : decode cX4_init 20 = .ok (.newarray .int, 2) := by decide +kernel
theorem dX4_init_22 : decode cX4_init 22 = .ok (.putfield 20, 3) := by decide +kernel
theorem dX4_init_25 : decode cX4_init 25 = .ok (.aload_n 0, 1) := by decide +kernel
theorem dX4_init_26 : decode cX4_init 26 = .ok (.bipush 72, 2) := by decide +kernel
theorem dX4_init_28 : decode cX4_init 28 = .ok (.newarray .int, 2) := by decide +kernel
theorem dX4_init_30 : decode cX4_init 30 = .ok (.putfield 24, 3) := by decide +kernel
theorem dX4_init_33 : decode cX4_init 33 = .ok (.aload_n 0, 1) := by decide +kernel
theorem dX4_init_34 : decode cX4_init 34 = .ok (.aload_n 1, 1) := by decide +kernel
theorem dX4_init_35 : decode cX4_init 35 = .ok (.putfield 27, 3) := by decide +kernel
theorem dX4_init_38 : decode cX4_init 38 = .ok (.aload_n 0, 1) := by decide +kernel
theorem dX4_init_39 : decode cX4_init 39 = .ok (.aload_n 2, 1) := by decide +kernel
theorem dX4_init_40 : decode cX4_init 40 = .ok (.putfield 31, 3) := by decide +kernel
theorem dX4_init_43 : decode cX4_init 43 = .ok (.return_, 1) := by decide +kernel
theorem dX4_regionOf_0 : decode cX4_regionOf 0 = .ok (.aload_n 0, 1) := by decide +kernel
theorem dX4_regionOf_1 : decode cX4_regionOf 1 = .ok (.getfield 27, 3) := by decide +kernel
theorem dX4_regionOf_4 : decode cX4_regionOf 4 = .ok (.iload_n 1, 1) := by decide +kernel
theorem dX4_regionOf_5 : decode cX4_regionOf 5 = .ok (.iload_n 2, 1) := by decide +kernel
theorem dX4_regionOf_6 : decode cX4_regionOf 6 = .ok (.invokevirtual 35, 3) := by decide +kernel
theorem dX4_regionOf_9 : decode cX4_regionOf 9 = .ok (.astore 4, 2) := by decide +kernel
theorem dX4_regionOf_11 : decode cX4_regionOf 11 = .ok (.aload 4, 2) := by decide +kernel
theorem dX4_regionOf_13 : decode cX4_regionOf 13 = .ok (.ifnonnull 13, 3) := by decide +kernel
theorem dX4_regionOf_16 : decode cX4_regionOf 16 = .ok (.aload_n 0, 1) := by decide +kernel
theorem dX4_regionOf_17 : decode cX4_regionOf 17 = .ok (.getfield 27, 3) := by decide +kernel
theorem dX4_regionOf_20 : decode cX4_regionOf 20 = .ok (.iload_n 1, 1) := by decide +kernel
theorem dX4_regionOf_21 : decode cX4_regionOf 21 = .ok (.iload_n 2, 1) := by decide +kernel
theorem dX4_regionOf_22 : decode cX4_regionOf 22 = .ok (.invokevirtual 41, 3) := by decide +kernel
theorem dX4_regionOf_25 : decode cX4_regionOf 25 = .ok (.ireturn, 1) := by decide +kernel
theorem dX4_regionOf_26 : decode cX4_regionOf 26 = .ok (.aload 4, 2) := by decide +kernel
theorem dX4_regionOf_28 : decode cX4_regionOf 28 = .ok (.iload_n 3, 1) := by decide +kernel
theorem dX4_regionOf_29 : decode cX4_regionOf 29 = .ok (.invokevirtual 45, 3) := by decide +kernel
theorem dX4_regionOf_32 : decode cX4_regionOf 32 = .ok (.ifCond .ne 6, 3) := by decide +kernel
theorem dX4_regionOf_35 : decode cX4_regionOf 35 = .ok (.bipush (-6), 2) := by decide +kernel
theorem dX4_regionOf_37 : decode cX4_regionOf 37 = .ok (.ireturn, 1) := by decide +kernel
theorem dX4_regionOf_38 : decode cX4_regionOf 38 = .ok (.aload_n 0, 1) := by decide +kernel
theorem dX4_regionOf_39 : decode cX4_regionOf 39 = .ok (.getfield 24, 3) := by decide +kernel
theorem dX4_regionOf_42 : decode cX4_regionOf 42 = .ok (.iconst 0, 1) := by decide +kernel
theorem dX4_regionOf_43 : decode cX4_regionOf 43 = .ok (.invokestatic 49, 3) := by decide +kernel
theorem dX4_regionOf_46 : decode cX4_regionOf 46 = .ok (.aload_n 0, 1) := by decide +kernel
theorem dX4_regionOf_47 : decode cX4_regionOf 47 = .ok (.iload_n 1, 1) := by decide +kernel
theorem dX4_regionOf_48 : decode cX4_regionOf 48 = .ok (.iload_n 2, 1) := by decide +kernel
theorem dX4_regionOf_49 : decode cX4_regionOf 49 = .ok (.iload_n 3, 1) := by decide +kernel
theorem dX4_regionOf_50 : decode cX4_regionOf 50 = .ok (.invokevirtual 55, 3) := by decide +kernel
theorem dX4_regionOf_53 : decode cX4_regionOf 53 = .ok (.aload_n 0, 1) := by decide +kernel
theorem dX4_regionOf_54 : decode cX4_regionOf 54 = .ok (.getfield 20, 3) := by decide +kernel
theorem dX4_regionOf_57 : decode cX4_regionOf 57 = .ok (.iconst 0, 1) := by decide +kernel
theorem dX4_regionOf_58 : decode cX4_regionOf 58 = .ok (.iaload, 1) := by decide +kernel
theorem dX4_regionOf_59 : decode cX4_regionOf 59 = .ok (.istore 5, 2) := by decide +kernel
theorem dX4_regionOf_61 : decode cX4_regionOf 61 = .ok (.iconst 1, 1) := by decide +kernel
theorem dX4_regionOf_62 : decode cX4_regionOf 62 = .ok (.istore 6, 2) := by decide +kernel
theorem dX4_regionOf_64 : decode cX4_regionOf 64 = .ok (.iload 6, 2) := by decide +kernel
theorem dX4_regionOf_66 : decode cX4_regionOf 66 = .ok (.aload_n 0, 1) := by decide +kernel
theorem dX4_regionOf_67 : decode cX4_regionOf 67 = .ok (.getfield 59, 3) := by decide +kernel
theorem dX4_regionOf_70 : decode cX4_regionOf 70 = .ok (.if_icmp .ge 23, 3) := by decide +kernel
theorem dX4_regionOf_73 : decode cX4_regionOf 73 = .ok (.iload 5, 2) := by decide +kernel
theorem dX4_regionOf_75 : decode cX4_regionOf 75 = .ok (.aload_n 0, 1) := by decide +kernel
theorem dX4_regionOf_76 : decode cX4_regionOf 76 = .ok (.getfield 20, 3) := by decide +kernel
theorem dX4_regionOf_79 : decode cX4_regionOf 79 = .ok (.iload 6, 2) := by decide +kernel
theorem dX4_regionOf_81 : decode cX4_regionOf 81 = .ok (.iaload, 1) := by decide +kernel
theorem dX4_regionOf_82 : decode cX4_regionOf 82 = .ok (.invokestatic 63, 3) := by decide +kernel
theorem dX4_regionOf_85 : decode cX4_regionOf 85 = .ok (.istore 5, 2) := by decide +kernel
theorem dX4_regionOf_87 : decode cX4_regionOf 87 = .ok (.iinc 6 1, 3) := by decide +kernel
theorem dX4_regionOf_90 : decode cX4_regionOf 90 = .ok (.goto (-26), 3) := by decide +kernel
theorem dX4_regionOf_93 : decode cX4_regionOf 93 = .ok (.aload_n 0, 1) := by decide +kernel
theorem dX4_regionOf_94 : decode cX4_regionOf 94 = .ok (.getfield 31, 3) := by decide +kernel
theorem dX4_regionOf_97 : decode cX4_regionOf 97 = .ok (.bipush 100, 2) := by decide +kernel
theorem dX4_regionOf_99 : decode cX4_regionOf 99 = .ok (.iload 5, 2) := by decide +kernel
theorem dX4_regionOf_101 : decode cX4_regionOf 101 = .ok (.bipush 12, 2) := by decide +kernel
theorem dX4_regionOf_103 : decode cX4_regionOf 103 = .ok (.idiv, 1) := by decide +kernel
theorem dX4_regionOf_104 : decode cX4_regionOf 104 = .ok (.imul, 1) := by decide +kernel
theorem dX4_regionOf_105 : decode cX4_regionOf 105 = .ok (.iload 5, 2) := by decide +kernel
theorem dX4_regionOf_107 : decode cX4_regionOf 107 = .ok (.bipush 12, 2) := by decide +kernel
theorem dX4_regionOf_109 : decode cX4_regionOf 109 = .ok (.irem, 1) := by decide +kernel
theorem dX4_regionOf_110 : decode cX4_regionOf 110 = .ok (.iadd, 1) := by decide +kernel
theorem dX4_regionOf_111 : decode cX4_regionOf 111 = .ok (.i2l, 1) := by decide +kernel
theorem dX4_regionOf_112 : decode cX4_regionOf 112 = .ok (.putfield 68, 3) := by decide +kernel
theorem dX4_regionOf_115 : decode cX4_regionOf 115 = .ok (.aload_n 0, 1) := by decide +kernel
theorem dX4_regionOf_116 : decode cX4_regionOf 116 = .ok (.getfield 59, 3) := by decide +kernel
theorem dX4_regionOf_119 : decode cX4_regionOf 119 = .ok (.ireturn, 1) := by decide +kernel
theorem dX4_spread_0 : decode cX4_spread 0 = .ok (.aload_n 0, 1) := by decide +kernel
theorem dX4_spread_1 : decode cX4_spread 1 = .ok (.iconst 0, 1) := by decide +kernel
theorem dX4_spread_2 : decode cX4_spread 2 = .ok (.putfield 59, 3) := by decide +kernel
theorem dX4_spread_5 : decode cX4_spread 5 = .ok (.aload_n 0, 1) := by decide +kernel
theorem dX4_spread_6 : decode cX4_spread 6 = .ok (.iload_n 2, 1) := by decide +kernel
theorem dX4_spread_7 : decode cX4_spread 7 = .ok (.iload_n 3, 1) := by decide +kernel
theorem dX4_spread_8 : decode cX4_spread 8 = .ok (.invokevirtual 74, 3) := by decide +kernel
theorem dX4_spread_11 : decode cX4_spread 11 = .ok (.iconst 0, 1) := by decide +kernel
theorem dX4_spread_12 : decode cX4_spread 12 = .ok (.istore 4, 2) := by decide +kernel
theorem dX4_spread_14 : decode cX4_spread 14 = .ok (.iload 4, 2) := by decide +kernel
theorem dX4_spread_16 : decode cX4_spread 16 = .ok (.aload_n 0, 1) := by decide +kernel
theorem dX4_spread_17 : decode cX4_spread 17 = .ok (.getfield 20, 3) := by decide +kernel
theorem dX4_spread_20 : decode cX4_spread 20 = .ok (.arraylength, 1) := by decide +kernel
theorem dX4_spread_21 : decode cX4_spread 21 = .ok (.if_icmp .ge 114, 3) := by decide +kernel
theorem dX4_spread_24 : decode cX4_spread 24 = .ok (.iload 4, 2) := by decide +kernel
theorem dX4_spread_26 : decode cX4_spread 26 = .ok (.aload_n 0, 1) := by decide +kernel
theorem dX4_spread_27 : decode cX4_spread 27 = .ok (.getfield 59, 3) := by decide +kernel
theorem dX4_spread_30 : decode cX4_spread 30 = .ok (.if_icmp .ge 105, 3) := by decide +kernel
theorem dX4_spread_33 : decode cX4_spread 33 = .ok (.aload_n 0, 1) := by decide +kernel
theorem dX4_spread_34 : decode cX4_spread 34 = .ok (.getfield 20, 3) := by decide +kernel
theorem dX4_spread_37 : decode cX4_spread 37 = .ok (.iload 4, 2) := by decide +kernel
theorem dX4_spread_39 : decode cX4_spread 39 = .ok (.iaload, 1) := by decide +kernel
theorem dX4_spread_40 : decode cX4_spread 40 = .ok (.bipush 12, 2) := by decide +kernel
theorem dX4_spread_42 : decode cX4_spread 42 = .ok (.idiv, 1) := by decide +kernel
theorem dX4_spread_43 : decode cX4_spread 43 = .ok (.istore 5, 2) := by decide +kernel
theorem dX4_spread_45 : decode cX4_spread 45 = .ok (.aload_n 0, 1) := by decide +kernel
theorem dX4_spread_46 : decode cX4_spread 46 = .ok (.getfield 20, 3) := by decide +kernel
theorem dX4_spread_49 : decode cX4_spread 49 = .ok (.iload 4, 2) := by decide +kernel
theorem dX4_spread_51 : decode cX4_spread 51 = .ok (.iaload, 1) := by decide +kernel
theorem dX4_spread_52 : decode cX4_spread 52 = .ok (.bipush 12, 2) := by decide +kernel
theorem dX4_spread_54 : decode cX4_spread 54 = .ok (.irem, 1) := by decide +kernel
theorem dX4_spread_55 : decode cX4_spread 55 = .ok (.istore 6, 2) := by decide +kernel
theorem dX4_spread_57 : decode cX4_spread 57 = .ok (.aload_n 0, 1) := by decide +kernel
theorem dX4_spread_58 : decode cX4_spread 58 = .ok (.iload_n 1, 1) := by decide +kernel
theorem dX4_spread_59 : decode cX4_spread 59 = .ok (.aload_n 0, 1) := by decide +kernel
theorem dX4_spread_60 : decode cX4_spread 60 = .ok (.getfield 20, 3) := by decide +kernel
theorem dX4_spread_63 : decode cX4_spread 63 = .ok (.iload 4, 2) := by decide +kernel
theorem dX4_spread_65 : decode cX4_spread 65 = .ok (.iaload, 1) := by decide +kernel
theorem dX4_spread_66 : decode cX4_spread 66 = .ok (.iload 5, 2) := by decide +kernel
theorem dX4_spread_68 : decode cX4_spread 68 = .ok (.iload 6, 2) := by decide +kernel
theorem dX4_spread_70 : decode cX4_spread 70 = .ok (.iconst 1, 1) := by decide +kernel
theorem dX4_spread_71 : decode cX4_spread 71 = .ok (.isub, 1) := by decide +kernel
theorem dX4_spread_72 : decode cX4_spread 72 = .ok (.invokevirtual 78, 3) := by decide +kernel
theorem dX4_spread_75 : decode cX4_spread 75 = .ok (.aload_n 0, 1) := by decide +kernel
theorem dX4_spread_76 : decode cX4_spread 76 = .ok (.iload_n 1, 1) := by decide +kernel
theorem dX4_spread_77 : decode cX4_spread 77 = .ok (.aload_n 0, 1) := by decide +kernel
theorem dX4_spread_78 : decode cX4_spread 78 = .ok (.getfield 20, 3) := by decide +kernel
theorem dX4_spread_81 : decode cX4_spread 81 = .ok (.iload 4, 2) := by decide +kernel
theorem dX4_spread_83 : decode cX4_spread 83 = .ok (.iaload, 1) := by decide +kernel
theorem dX4_spread_84 : decode cX4_spread 84 = .ok (.iload 5, 2) := by decide +kernel
theorem dX4_spread_86 : decode cX4_spread 86 = .ok (.iload 6, 2) := by decide +kernel
theorem dX4_spread_88 : decode cX4_spread 88 = .ok (.iconst 1, 1) := by decide +kernel
theorem dX4_spread_89 : decode cX4_spread 89 = .ok (.iadd, 1) := by decide +kernel
theorem dX4_spread_90 : decode cX4_spread 90 = .ok (.invokevirtual 78, 3) := by decide +kernel
theorem dX4_spread_93 : decode cX4_spread 93 = .ok (.aload_n 0, 1) := by decide +kernel
theorem dX4_spread_94 : decode cX4_spread 94 = .ok (.iload_n 1, 1) := by decide +kernel
theorem dX4_spread_95 : decode cX4_spread 95 = .ok (.aload_n 0, 1) := by decide +kernel
theorem dX4_spread_96 : decode cX4_spread 96 = .ok (.getfield 20, 3) := by decide +kernel
theorem dX4_spread_99 : decode cX4_spread 99 = .ok (.iload 4, 2) := by decide +kernel
theorem dX4_spread_101 : decode cX4_spread 101 = .ok (.iaload, 1) := by decide +kernel
theorem dX4_spread_102 : decode cX4_spread 102 = .ok (.iload 5, 2) := by decide +kernel
theorem dX4_spread_104 : decode cX4_spread 104 = .ok (.iconst 1, 1) := by decide +kernel
theorem dX4_spread_105 : decode cX4_spread 105 = .ok (.isub, 1) := by decide +kernel
theorem dX4_spread_106 : decode cX4_spread 106 = .ok (.iload 6, 2) := by decide +kernel
theorem dX4_spread_108 : decode cX4_spread 108 = .ok (.invokevirtual 78, 3) := by decide +kernel
theorem dX4_spread_111 : decode cX4_spread 111 = .ok (.aload_n 0, 1) := by decide +kernel
theorem dX4_spread_112 : decode cX4_spread 112 = .ok (.iload_n 1, 1) := by decide +kernel
theorem dX4_spread_113 : decode cX4_spread 113 = .ok (.aload_n 0, 1) := by decide +kernel
theorem dX4_spread_114 : decode cX4_spread 114 = .ok (.getfield 20, 3) := by decide +kernel
theorem dX4_spread_117 : decode cX4_spread 117 = .ok (.iload 4, 2) := by decide +kernel
theorem dX4_spread_119 : decode cX4_spread 119 = .ok (.iaload, 1) := by decide +kernel
theorem dX4_spread_120 : decode cX4_spread 120 = .ok (.iload 5, 2) := by decide +kernel
theorem dX4_spread_122 : decode cX4_spread 122 = .ok (.iconst 1, 1) := by decide +kernel
theorem dX4_spread_123 : decode cX4_spread 123 = .ok (.iadd, 1) := by decide +kernel
theorem dX4_spread_124 : decode cX4_spread 124 = .ok (.iload 6, 2) := by decide +kernel
theorem dX4_spread_126 : decode cX4_spread 126 = .ok (.invokevirtual 78, 3) := by decide +kernel
theorem dX4_spread_129 : decode cX4_spread 129 = .ok (.iinc 4 1, 3) := by decide +kernel
theorem dX4_spread_132 : decode cX4_spread 132 = .ok (.goto (-118), 3) := by decide +kernel
theorem dX4_spread_135 : decode cX4_spread 135 = .ok (.return_, 1) := by decide +kernel
theorem dX4_reach_0 : decode cX4_reach 0 = .ok (.aload_n 0, 1) := by decide +kernel
theorem dX4_reach_1 : decode cX4_reach 1 = .ok (.getfield 24, 3) := by decide +kernel
theorem dX4_reach_4 : decode cX4_reach 4 = .ok (.iload_n 1, 1) := by decide +kernel
theorem dX4_reach_5 : decode cX4_reach 5 = .ok (.bipush 12, 2) := by decide +kernel
theorem dX4_reach_7 : decode cX4_reach 7 = .ok (.imul, 1) := by decide +kernel
theorem dX4_reach_8 : decode cX4_reach 8 = .ok (.iload_n 2, 1) := by decide +kernel
theorem dX4_reach_9 : decode cX4_reach 9 = .ok (.iadd, 1) := by decide +kernel
theorem dX4_reach_10 : decode cX4_reach 10 = .ok (.iconst 1, 1) := by decide +kernel
theorem dX4_reach_11 : decode cX4_reach 11 = .ok (.iastore, 1) := by decide +kernel
theorem dX4_reach_12 : decode cX4_reach 12 = .ok (.aload_n 0, 1) := by decide +kernel
theorem dX4_reach_13 : decode cX4_reach 13 = .ok (.getfield 20, 3) := by decide +kernel
theorem dX4_reach_16 : decode cX4_reach 16 = .ok (.aload_n 0, 1) := by decide +kernel
theorem dX4_reach_17 : decode cX4_reach 17 = .ok (.getfield 59, 3) := by decide +kernel
theorem dX4_reach_20 : decode cX4_reach 20 = .ok (.iload_n 1, 1) := by decide +kernel
theorem dX4_reach_21 : decode cX4_reach 21 = .ok (.bipush 12, 2) := by decide +kernel
theorem dX4_reach_23 : decode cX4_reach 23 = .ok (.imul, 1) := by decide +kernel
theorem dX4_reach_24 : decode cX4_reach 24 = .ok (.iload_n 2, 1) := by decide +kernel
theorem dX4_reach_25 : decode cX4_reach 25 = .ok (.iadd, 1) := by decide +kernel
theorem dX4_reach_26 : decode cX4_reach 26 = .ok (.iastore, 1) := by decide +kernel
theorem dX4_reach_27 : decode cX4_reach 27 = .ok (.aload_n 0, 1) := by decide +kernel
theorem dX4_reach_28 : decode cX4_reach 28 = .ok (.dup, 1) := by decide +kernel
theorem dX4_reach_29 : decode cX4_reach 29 = .ok (.getfield 59, 3) := by decide +kernel
theorem dX4_reach_32 : decode cX4_reach 32 = .ok (.iconst 1, 1) := by decide +kernel
theorem dX4_reach_33 : decode cX4_reach 33 = .ok (.iadd, 1) := by decide +kernel
theorem dX4_reach_34 : decode cX4_reach 34 = .ok (.putfield 59, 3) := by decide +kernel
theorem dX4_reach_37 : decode cX4_reach 37 = .ok (.return_, 1) := by decide +kernel
theorem dX4_tryStep_0 : decode cX4_tryStep 0 = .ok (.aload_n 0, 1) := by decide +kernel
theorem dX4_tryStep_1 : decode cX4_tryStep 1 = .ok (.getfield 27, 3) := by decide +kernel
theorem dX4_tryStep_4 : decode cX4_tryStep 4 = .ok (.iload_n 1, 1) := by decide +kernel
theorem dX4_tryStep_5 : decode cX4_tryStep 5 = .ok (.iload_n 2, 1) := by decide +kernel
theorem dX4_tryStep_6 : decode cX4_tryStep 6 = .ok (.bipush 12, 2) := by decide +kernel
theorem dX4_tryStep_8 : decode cX4_tryStep 8 = .ok (.idiv, 1) := by decide +kernel
theorem dX4_tryStep_9 : decode cX4_tryStep 9 = .ok (.invokevirtual 35, 3) := by decide +kernel
theorem dX4_tryStep_12 : decode cX4_tryStep 12 = .ok (.astore 5, 2) := by decide +kernel
theorem dX4_tryStep_14 : decode cX4_tryStep 14 = .ok (.aload_n 0, 1) := by decide +kernel
theorem dX4_tryStep_15 : decode cX4_tryStep 15 = .ok (.getfield 27, 3) := by decide +kernel
theorem dX4_tryStep_18 : decode cX4_tryStep 18 = .ok (.iload_n 1, 1) := by decide +kernel
theorem dX4_tryStep_19 : decode cX4_tryStep 19 = .ok (.iload_n 3, 1) := by decide +kernel
theorem dX4_tryStep_20 : decode cX4_tryStep 20 = .ok (.invokevirtual 35, 3) := by decide +kernel
theorem dX4_tryStep_23 : decode cX4_tryStep 23 = .ok (.astore 6, 2) := by decide +kernel
theorem dX4_tryStep_25 : decode cX4_tryStep 25 = .ok (.aload 5, 2) := by decide +kernel
theorem dX4_tryStep_27 : decode cX4_tryStep 27 = .ok (.ifnull 34, 3) := by decide +kernel
theorem dX4_tryStep_30 : decode cX4_tryStep 30 = .ok (.aload 6, 2) := by decide +kernel
theorem dX4_tryStep_32 : decode cX4_tryStep 32 = .ok (.ifnull 29, 3) := by decide +kernel
theorem dX4_tryStep_35 : decode cX4_tryStep 35 = .ok (.aload 6, 2) := by decide +kernel
theorem dX4_tryStep_37 : decode cX4_tryStep 37 = .ok (.iload 4, 2) := by decide +kernel
theorem dX4_tryStep_39 : decode cX4_tryStep 39 = .ok (.invokevirtual 45, 3) := by decide +kernel
theorem dX4_tryStep_42 : decode cX4_tryStep 42 = .ok (.ifCond .eq 19, 3) := by decide +kernel
theorem dX4_tryStep_45 : decode cX4_tryStep 45 = .ok (.aload_n 0, 1) := by decide +kernel
theorem dX4_tryStep_46 : decode cX4_tryStep 46 = .ok (.getfield 24, 3) := by decide +kernel
theorem dX4_tryStep_49 : decode cX4_tryStep 49 = .ok (.iload_n 3, 1) := by decide +kernel
theorem dX4_tryStep_50 : decode cX4_tryStep 50 = .ok (.bipush 12, 2) := by decide +kernel
theorem dX4_tryStep_52 : decode cX4_tryStep 52 = .ok (.imul, 1) := by decide +kernel
theorem dX4_tryStep_53 : decode cX4_tryStep 53 = .ok (.iload 4, 2) := by decide +kernel
theorem dX4_tryStep_55 : decode cX4_tryStep 55 = .ok (.iadd, 1) := by decide +kernel
theorem dX4_tryStep_56 : decode cX4_tryStep 56 = .ok (.iaload, 1) := by decide +kernel
theorem dX4_tryStep_57 : decode cX4_tryStep 57 = .ok (.iconst 1, 1) := by decide +kernel
theorem dX4_tryStep_58 : decode cX4_tryStep 58 = .ok (.if_icmp .ne 4, 3) := by decide +kernel
theorem dX4_tryStep_61 : decode cX4_tryStep 61 = .ok (.return_, 1) := by decide +kernel
theorem dX4_tryStep_62 : decode cX4_tryStep 62 = .ok (.aload 5, 2) := by decide +kernel
theorem dX4_tryStep_64 : decode cX4_tryStep 64 = .ok (.iload_n 2, 1) := by decide +kernel
theorem dX4_tryStep_65 : decode cX4_tryStep 65 = .ok (.bipush 12, 2) := by decide +kernel
theorem dX4_tryStep_67 : decode cX4_tryStep 67 = .ok (.irem, 1) := by decide +kernel
theorem dX4_tryStep_68 : decode cX4_tryStep 68 = .ok (.aload 6, 2) := by decide +kernel
theorem dX4_tryStep_70 : decode cX4_tryStep 70 = .ok (.iload 4, 2) := by decide +kernel
theorem dX4_tryStep_72 : decode cX4_tryStep 72 = .ok (.invokevirtual 82, 3) := by decide +kernel
theorem dX4_tryStep_75 : decode cX4_tryStep 75 = .ok (.ifCond .eq 10, 3) := by decide +kernel
theorem dX4_tryStep_78 : decode cX4_tryStep 78 = .ok (.aload_n 0, 1) := by decide +kernel
theorem dX4_tryStep_79 : decode cX4_tryStep 79 = .ok (.iload_n 3, 1) := by decide +kernel
theorem dX4_tryStep_80 : decode cX4_tryStep 80 = .ok (.iload 4, 2) := by decide +kernel
theorem dX4_tryStep_82 : decode cX4_tryStep 82 = .ok (.invokevirtual 74, 3) := by decide +kernel
theorem dX4_tryStep_85 : decode cX4_tryStep 85 = .ok (.return_, 1) := by decide +kernel
theorem dX4_countRegions_0 : decode cX4_countRegions 0 = .ok (.aload_n 0, 1) := by decide +kernel
theorem dX4_countRegions_1 : decode cX4_countRegions 1 = .ok (.getfield 27, 3) := by decide +kernel
theorem dX4_countRegions_4 : decode cX4_countRegions 4 = .ok (.iload_n 1, 1) := by decide +kernel
theorem dX4_countRegions_5 : decode cX4_countRegions 5 = .ok (.invokevirtual 86, 3) := by decide +kernel
theorem dX4_countRegions_8 : decode cX4_countRegions 8 = .ok (.istore_n 2, 1) := by decide +kernel
theorem dX4_countRegions_9 : decode cX4_countRegions 9 = .ok (.iload_n 2, 1) := by decide +kernel
theorem dX4_countRegions_10 : decode cX4_countRegions 10 = .ok (.ifCond .ge 5, 3) := by decide +kernel
theorem dX4_countRegions_13 : decode cX4_countRegions 13 = .ok (.iload_n 2, 1) := by decide +kernel
theorem dX4_countRegions_14 : decode cX4_countRegions 14 = .ok (.ireturn, 1) := by decide +kernel
theorem dX4_countRegions_15 : decode cX4_countRegions 15 = .ok (.aload_n 0, 1) := by decide +kernel
theorem dX4_countRegions_16 : decode cX4_countRegions 16 = .ok (.getfield 24, 3) := by decide +kernel
theorem dX4_countRegions_19 : decode cX4_countRegions 19 = .ok (.iconst 0, 1) := by decide +kernel
theorem dX4_countRegions_20 : decode cX4_countRegions 20 = .ok (.invokestatic 49, 3) := by decide +kernel
theorem dX4_countRegions_23 : decode cX4_countRegions 23 = .ok (.iconst 0, 1) := by decide +kernel
theorem dX4_countRegions_24 : decode cX4_countRegions 24 = .ok (.istore_n 3, 1) := by decide +kernel
theorem dX4_countRegions_25 : decode cX4_countRegions 25 = .ok (.iconst 0, 1) := by decide +kernel
theorem dX4_countRegions_26 : decode cX4_countRegions 26 = .ok (.istore 4, 2) := by decide +kernel
theorem dX4_countRegions_28 : decode cX4_countRegions 28 = .ok (.iconst 0, 1) := by decide +kernel
theorem dX4_countRegions_29 : decode cX4_countRegions 29 = .ok (.istore 5, 2) := by decide +kernel
theorem dX4_countRegions_31 : decode cX4_countRegions 31 = .ok (.iload 5, 2) := by decide +kernel
theorem dX4_countRegions_33 : decode cX4_countRegions 33 = .ok (.aload_n 0, 1) := by decide +kernel
theorem dX4_countRegions_34 : decode cX4_countRegions 34 = .ok (.getfield 27, 3) := by decide +kernel
theorem dX4_countRegions_37 : decode cX4_countRegions 37 = .ok (.getfield 90, 3) := by decide +kernel
theorem dX4_countRegions_40 : decode cX4_countRegions 40 = .ok (.iload_n 1, 1) := by decide +kernel
theorem dX4_countRegions_41 : decode cX4_countRegions 41 = .ok (.iaload, 1) := by decide +kernel
theorem dX4_countRegions_42 : decode cX4_countRegions 42 = .ok (.if_icmp .ge 76, 3) := by decide +kernel
theorem dX4_countRegions_45 : decode cX4_countRegions 45 = .ok (.aload_n 0, 1) := by decide +kernel
theorem dX4_countRegions_46 : decode cX4_countRegions 46 = .ok (.getfield 27, 3) := by decide +kernel
theorem dX4_countRegions_49 : decode cX4_countRegions 49 = .ok (.iload_n 1, 1) := by decide +kernel
theorem dX4_countRegions_50 : decode cX4_countRegions 50 = .ok (.iload 5, 2) := by decide +kernel
theorem dX4_countRegions_52 : decode cX4_countRegions 52 = .ok (.invokevirtual 93, 3) := by decide +kernel
theorem dX4_countRegions_55 : decode cX4_countRegions 55 = .ok (.istore 6, 2) := by decide +kernel
theorem dX4_countRegions_57 : decode cX4_countRegions 57 = .ok (.iconst 0, 1) := by decide +kernel
theorem dX4_countRegions_58 : decode cX4_countRegions 58 = .ok (.istore 7, 2) := by decide +kernel
theorem dX4_countRegions_60 : decode cX4_countRegions 60 = .ok (.iload 7, 2) := by decide +kernel
theorem dX4_countRegions_62 : decode cX4_countRegions 62 = .ok (.iload 6, 2) := by decide +kernel
theorem dX4_countRegions_64 : decode cX4_countRegions 64 = .ok (.if_icmp .ge 48, 3) := by decide +kernel
theorem dX4_countRegions_67 : decode cX4_countRegions 67 = .ok (.aload_n 0, 1) := by decide +kernel
theorem dX4_countRegions_68 : decode cX4_countRegions 68 = .ok (.getfield 24, 3) := by decide +kernel
theorem dX4_countRegions_71 : decode cX4_countRegions 71 = .ok (.iload 5, 2) := by decide +kernel
theorem dX4_countRegions_73 : decode cX4_countRegions 73 = .ok (.bipush 12, 2) := by decide +kernel
theorem dX4_countRegions_75 : decode cX4_countRegions 75 = .ok (.imul, 1) := by decide +kernel
theorem dX4_countRegions_76 : decode cX4_countRegions 76 = .ok (.iload 7, 2) := by decide +kernel
theorem dX4_countRegions_78 : decode cX4_countRegions 78 = .ok (.iadd, 1) := by decide +kernel
theorem dX4_countRegions_79 : decode cX4_countRegions 79 = .ok (.iaload, 1) := by decide +kernel
theorem dX4_countRegions_80 : decode cX4_countRegions 80 = .ok (.ifCond .ne 26, 3) := by decide +kernel
theorem dX4_countRegions_83 : decode cX4_countRegions 83 = .ok (.aload_n 0, 1) := by decide +kernel
theorem dX4_countRegions_84 : decode cX4_countRegions 84 = .ok (.iload_n 1, 1) := by decide +kernel
theorem dX4_countRegions_85 : decode cX4_countRegions 85 = .ok (.iload 5, 2) := by decide +kernel
theorem dX4_countRegions_87 : decode cX4_countRegions 87 = .ok (.iload 7, 2) := by decide +kernel
theorem dX4_countRegions_89 : decode cX4_countRegions 89 = .ok (.invokevirtual 55, 3) := by decide +kernel
theorem dX4_countRegions_92 : decode cX4_countRegions 92 = .ok (.iinc 3 1, 3) := by decide +kernel
theorem dX4_countRegions_95 : decode cX4_countRegions 95 = .ok (.iload 4, 2) := by decide +kernel
theorem dX4_countRegions_97 : decode cX4_countRegions 97 = .ok (.aload_n 0, 1) := by decide +kernel
theorem dX4_countRegions_98 : decode cX4_countRegions 98 = .ok (.getfield 59, 3) := by decide +kernel
theorem dX4_countRegions_101 : decode cX4_countRegions 101 = .ok (.invokestatic 96, 3) := by decide +kernel
theorem dX4_countRegions_104 : decode cX4_countRegions 104 = .ok (.istore 4, 2) := by decide +kernel
theorem dX4_countRegions_106 : decode cX4_countRegions 106 = .ok (.iinc 7 1, 3) := by decide +kernel
theorem dX4_countRegions_109 : decode cX4_countRegions 109 = .ok (.goto (-49), 3) := by decide +kernel
theorem dX4_countRegions_112 : decode cX4_countRegions 112 = .ok (.iinc 5 1, 3) := by decide +kernel
theorem dX4_countRegions_115 : decode cX4_countRegions 115 = .ok (.goto (-84), 3) := by decide +kernel
theorem dX4_countRegions_118 : decode cX4_countRegions 118 = .ok (.aload_n 0, 1) := by decide +kernel
theorem dX4_countRegions_119 : decode cX4_countRegions 119 = .ok (.getfield 31, 3) := by decide +kernel
theorem dX4_countRegions_122 : decode cX4_countRegions 122 = .ok (.iload 4, 2) := by decide +kernel
theorem dX4_countRegions_124 : decode cX4_countRegions 124 = .ok (.i2l, 1) := by decide +kernel
theorem dX4_countRegions_125 : decode cX4_countRegions 125 = .ok (.putfield 68, 3) := by decide +kernel
theorem dX4_countRegions_128 : decode cX4_countRegions 128 = .ok (.iload_n 3, 1) := by decide +kernel
theorem dX4_countRegions_129 : decode cX4_countRegions 129 = .ok (.ireturn, 1) := by decide +kernel
theorem dX4_paintRegion_0 : decode cX4_paintRegion 0 = .ok (.iload_n 1, 1) := by decide +kernel
theorem dX4_paintRegion_1 : decode cX4_paintRegion 1 = .ok (.invokestatic 99, 3) := by decide +kernel
theorem dX4_paintRegion_4 : decode cX4_paintRegion 4 = .ok (.ifCond .eq 11, 3) := by decide +kernel
theorem dX4_paintRegion_7 : decode cX4_paintRegion 7 = .ok (.iload 4, 2) := by decide +kernel
theorem dX4_paintRegion_9 : decode cX4_paintRegion 9 = .ok (.invokestatic 102, 3) := by decide +kernel
theorem dX4_paintRegion_12 : decode cX4_paintRegion 12 = .ok (.ifCond .ne 5, 3) := by decide +kernel
theorem dX4_paintRegion_15 : decode cX4_paintRegion 15 = .ok (.iconst (-1), 1) := by decide +kernel
theorem dX4_paintRegion_16 : decode cX4_paintRegion 16 = .ok (.ireturn, 1) := by decide +kernel
theorem dX4_paintRegion_17 : decode cX4_paintRegion 17 = .ok (.aload_n 0, 1) := by decide +kernel
theorem dX4_paintRegion_18 : decode cX4_paintRegion 18 = .ok (.getfield 27, 3) := by decide +kernel
theorem dX4_paintRegion_21 : decode cX4_paintRegion 21 = .ok (.iload_n 1, 1) := by decide +kernel
theorem dX4_paintRegion_22 : decode cX4_paintRegion 22 = .ok (.iload_n 2, 1) := by decide +kernel
theorem dX4_paintRegion_23 : decode cX4_paintRegion 23 = .ok (.invokevirtual 35, 3) := by decide +kernel
theorem dX4_paintRegion_26 : decode cX4_paintRegion 26 = .ok (.astore 7, 2) := by decide +kernel
theorem dX4_paintRegion_28 : decode cX4_paintRegion 28 = .ok (.aload 7, 2) := by decide +kernel
theorem dX4_paintRegion_30 : decode cX4_paintRegion 30 = .ok (.ifnonnull 13, 3) := by decide +kernel
theorem dX4_paintRegion_33 : decode cX4_paintRegion 33 = .ok (.aload_n 0, 1) := by decide +kernel
theorem dX4_paintRegion_34 : decode cX4_paintRegion 34 = .ok (.getfield 27, 3) := by decide +kernel
theorem dX4_paintRegion_37 : decode cX4_paintRegion 37 = .ok (.iload_n 1, 1) := by decide +kernel
theorem dX4_paintRegion_38 : decode cX4_paintRegion 38 = .ok (.iload_n 2, 1) := by decide +kernel
theorem dX4_paintRegion_39 : decode cX4_paintRegion 39 = .ok (.invokevirtual 41, 3) := by decide +kernel
theorem dX4_paintRegion_42 : decode cX4_paintRegion 42 = .ok (.ireturn, 1) := by decide +kernel
theorem dX4_paintRegion_43 : decode cX4_paintRegion 43 = .ok (.aload 7, 2) := by decide +kernel
theorem dX4_paintRegion_45 : decode cX4_paintRegion 45 = .ok (.iload_n 3, 1) := by decide +kernel
theorem dX4_paintRegion_46 : decode cX4_paintRegion 46 = .ok (.invokevirtual 45, 3) := by decide +kernel
theorem dX4_paintRegion_49 : decode cX4_paintRegion 49 = .ok (.ifCond .ne 6, 3) := by decide +kernel
theorem dX4_paintRegion_52 : decode cX4_paintRegion 52 = .ok (.bipush (-6), 2) := by decide +kernel
theorem dX4_paintRegion_54 : decode cX4_paintRegion 54 = .ok (.ireturn, 1) := by decide +kernel
theorem dX4_paintRegion_55 : decode cX4_paintRegion 55 = .ok (.aload_n 0, 1) := by decide +kernel
theorem dX4_paintRegion_56 : decode cX4_paintRegion 56 = .ok (.getfield 24, 3) := by decide +kernel
theorem dX4_paintRegion_59 : decode cX4_paintRegion 59 = .ok (.iconst 0, 1) := by decide +kernel
theorem dX4_paintRegion_60 : decode cX4_paintRegion 60 = .ok (.invokestatic 49, 3) := by decide +kernel
theorem dX4_paintRegion_63 : decode cX4_paintRegion 63 = .ok (.aload_n 0, 1) := by decide +kernel
theorem dX4_paintRegion_64 : decode cX4_paintRegion 64 = .ok (.iload_n 1, 1) := by decide +kernel
theorem dX4_paintRegion_65 : decode cX4_paintRegion 65 = .ok (.iload_n 2, 1) := by decide +kernel
theorem dX4_paintRegion_66 : decode cX4_paintRegion 66 = .ok (.iload_n 3, 1) := by decide +kernel
theorem dX4_paintRegion_67 : decode cX4_paintRegion 67 = .ok (.invokevirtual 55, 3) := by decide +kernel
theorem dX4_paintRegion_70 : decode cX4_paintRegion 70 = .ok (.aload_n 0, 1) := by decide +kernel
theorem dX4_paintRegion_71 : decode cX4_paintRegion 71 = .ok (.getfield 14, 3) := by decide +kernel
theorem dX4_paintRegion_74 : decode cX4_paintRegion 74 = .ok (.iload 4, 2) := by decide +kernel
theorem dX4_paintRegion_76 : decode cX4_paintRegion 76 = .ok (.lload 5, 2) := by decide +kernel
theorem dX4_paintRegion_78 : decode cX4_paintRegion 78 = .ok (.invokevirtual 105, 3) := by decide +kernel
theorem dX4_paintRegion_81 : decode cX4_paintRegion 81 = .ok (.iconst 0, 1) := by decide +kernel
theorem dX4_paintRegion_82 : decode cX4_paintRegion 82 = .ok (.istore 8, 2) := by decide +kernel
theorem dX4_paintRegion_84 : decode cX4_paintRegion 84 = .ok (.iconst 0, 1) := by decide +kernel
theorem dX4_paintRegion_85 : decode cX4_paintRegion 85 = .ok (.istore 9, 2) := by decide +kernel
theorem dX4_paintRegion_87 : decode cX4_paintRegion 87 = .ok (.iload 9, 2) := by decide +kernel
theorem dX4_paintRegion_89 : decode cX4_paintRegion 89 = .ok (.aload_n 0, 1) := by decide +kernel
theorem dX4_paintRegion_90 : decode cX4_paintRegion 90 = .ok (.getfield 59, 3) := by decide +kernel
theorem dX4_paintRegion_93 : decode cX4_paintRegion 93 = .ok (.if_icmp .ge 67, 3) := by decide +kernel
theorem dX4_paintRegion_96 : decode cX4_paintRegion 96 = .ok (.aload_n 0, 1) := by decide +kernel
theorem dX4_paintRegion_97 : decode cX4_paintRegion 97 = .ok (.getfield 27, 3) := by decide +kernel
theorem dX4_paintRegion_100 : decode cX4_paintRegion 100 = .ok (.iload_n 1, 1) := by decide +kernel
theorem dX4_paintRegion_101 : decode cX4_paintRegion 101 = .ok (.aload_n 0, 1) := by decide +kernel
theorem dX4_paintRegion_102 : decode cX4_paintRegion 102 = .ok (.getfield 20, 3) := by decide +kernel
theorem dX4_paintRegion_105 : decode cX4_paintRegion 105 = .ok (.iload 9, 2) := by decide +kernel
theorem dX4_paintRegion_107 : decode cX4_paintRegion 107 = .ok (.iaload, 1) := by decide +kernel
theorem dX4_paintRegion_108 : decode cX4_paintRegion 108 = .ok (.bipush 12, 2) := by decide +kernel
theorem dX4_paintRegion_110 : decode cX4_paintRegion 110 = .ok (.idiv, 1) := by decide +kernel
theorem dX4_paintRegion_111 : decode cX4_paintRegion 111 = .ok (.invokevirtual 35, 3) := by decide +kernel
theorem dX4_paintRegion_114 : decode cX4_paintRegion 114 = .ok (.astore 10, 2) := by decide +kernel
theorem dX4_paintRegion_116 : decode cX4_paintRegion 116 = .ok (.iload 8, 2) := by decide +kernel
theorem dX4_paintRegion_118 : decode cX4_paintRegion 118 = .ok (.aload 10, 2) := by decide +kernel
theorem dX4_paintRegion_120 : decode cX4_paintRegion 120 = .ok (.ifnull 30, 3) := by decide +kernel
theorem dX4_paintRegion_123 : decode cX4_paintRegion 123 = .ok (.aload 10, 2) := by decide +kernel
theorem dX4_paintRegion_125 : decode cX4_paintRegion 125 = .ok (.aload_n 0, 1) := by decide +kernel
theorem dX4_paintRegion_126 : decode cX4_paintRegion 126 = .ok (.getfield 20, 3) := by decide +kernel
theorem dX4_paintRegion_129 : decode cX4_paintRegion 129 = .ok (.iload 9, 2) := by decide +kernel
theorem dX4_paintRegion_131 : decode cX4_paintRegion 131 = .ok (.iaload, 1) := by decide +kernel
theorem dX4_paintRegion_132 : decode cX4_paintRegion 132 = .ok (.bipush 12, 2) := by decide +kernel
theorem dX4_paintRegion_134 : decode cX4_paintRegion 134 = .ok (.irem, 1) := by decide +kernel
theorem dX4_paintRegion_135 : decode cX4_paintRegion 135 = .ok (.aload_n 0, 1) := by decide +kernel
theorem dX4_paintRegion_136 : decode cX4_paintRegion 136 = .ok (.getfield 14, 3) := by decide +kernel
theorem dX4_paintRegion_139 : decode cX4_paintRegion 139 = .ok (.iconst 0, 1) := by decide +kernel
theorem dX4_paintRegion_140 : decode cX4_paintRegion 140 = .ok (.invokevirtual 109, 3) := by decide +kernel
theorem dX4_paintRegion_143 : decode cX4_paintRegion 143 = .ok (.ifCond .eq 7, 3) := by decide +kernel
theorem dX4_paintRegion_146 : decode cX4_paintRegion 146 = .ok (.iconst 1, 1) := by decide +kernel
theorem dX4_paintRegion_147 : decode cX4_paintRegion 147 = .ok (.goto 4, 3) := by decide +kernel
theorem dX4_paintRegion_150 : decode cX4_paintRegion 150 = .ok (.iconst 0, 1) := by decide +kernel
theorem dX4_paintRegion_151 : decode cX4_paintRegion 151 = .ok (.iadd, 1) := by decide +kernel
theorem dX4_paintRegion_152 : decode cX4_paintRegion 152 = .ok (.istore 8, 2) := by decide +kernel
theorem dX4_paintRegion_154 : decode cX4_paintRegion 154 = .ok (.iinc 9 1, 3) := by decide +kernel
theorem dX4_paintRegion_157 : decode cX4_paintRegion 157 = .ok (.goto (-70), 3) := by decide +kernel
theorem dX4_paintRegion_160 : decode cX4_paintRegion 160 = .ok (.iload 8, 2) := by decide +kernel
theorem dX4_paintRegion_162 : decode cX4_paintRegion 162 = .ok (.ireturn, 1) := by decide +kernel
theorem dX5_init_0 : decode cX5_init 0 = .ok (.aload_n 0, 1) := by decide +kernel
theorem dX5_init_1 : decode cX5_init 1 = .ok (.invokespecial 3, 3) := by decide +kernel
theorem dX5_init_4 : decode cX5_init 4 = .ok (.aload_n 0, 1) := by decide +kernel
theorem dX5_init_5 : decode cX5_init 5 = .ok (.bipush 8, 2) := by decide +kernel
theorem dX5_init_7 : decode cX5_init 7 = .ok (.putfield 9, 3) := by decide +kernel
theorem dX5_init_10 : decode cX5_init 10 = .ok (.aload_n 0, 1) := by decide +kernel
theorem dX5_init_11 : decode cX5_init 11 = .ok (.iconst 0, 1) := by decide +kernel
theorem dX5_init_12 : decode cX5_init 12 = .ok (.putfield 15, 3) := by decide +kernel
theorem dX5_init_15 : decode cX5_init 15 = .ok (.aload_n 0, 1) := by decide +kernel
theorem dX5_init_16 : decode cX5_init 16 = .ok (.bipush 12, 2) := by decide +kernel
theorem dX5_init_18 : decode cX5_init 18 = .ok (.newarray .int, 2) := by decide +kernel
theorem dX5_init_20 : decode cX5_init 20 = .ok (.putfield 18, 3) := by decide +kernel
theorem dX5_init_23 : decode cX5_init 23 = .ok (.aload_n 0, 1) := by decide +kernel
theorem dX5_init_24 : decode cX5_init 24 = .ok (.bipush 12, 2) := by decide +kernel
theorem dX5_init_26 : decode cX5_init 26 = .ok (.newarray .long, 2) := by decide +kernel
theorem dX5_init_28 : decode cX5_init 28 = .ok (.putfield 22, 3) := by decide +kernel
theorem dX5_init_31 : decode cX5_init 31 = .ok (.aload_n 0, 1) := by decide +kernel
theorem dX5_init_32 : decode cX5_init 32 = .ok (.bipush 12, 2) := by decide +kernel
theorem dX5_init_34 : decode cX5_init 34 = .ok (.newarray .double, 2) := by decide +kernel
theorem dX5_init_36 : decode cX5_init 36 = .ok (.putfield 26, 3) := by decide +kernel
theorem dX5_init_39 : decode cX5_init 39 = .ok (.aload_n 0, 1) := by decide +kernel
theorem dX5_init_40 : decode cX5_init 40 = .ok (.iload_n 1, 1) := by decide +kernel
theorem dX5_init_41 : decode cX5_init 41 = .ok (.putfield 30, 3) := by decide +kernel
theorem dX5_init_44 : decode cX5_init 44 = .ok (.return_, 1) := by decide +kernel
theorem dX5_begin_0 : decode cX5_begin 0 = .ok (.aload_n 0, 1) := by decide +kernel
theorem dX5_begin_1 : decode cX5_begin 1 = .ok (.iload_n 1, 1) := by decide +kernel
theorem dX5_begin_2 : decode cX5_begin 2 = .ok (.putfield 9, 3) := by decide +kernel
theorem dX5_begin_5 : decode cX5_begin 5 = .ok (.aload_n 0, 1) := by decide +kernel
theorem dX5_begin_6 : decode cX5_begin 6 = .ok (.iload_n 2, 1) := by decide +kernel
theorem dX5_begin_7 : decode cX5_begin 7 = .ok (.putfield 15, 3) := by decide +kernel
theorem dX5_begin_10 : decode cX5_begin 10 = .ok (.aload_n 0, 1) := by decide +kernel
theorem dX5_begin_11 : decode cX5_begin 11 = .ok (.getfield 18, 3) := by decide +kernel
theorem dX5_begin_14 : decode cX5_begin 14 = .ok (.iload_n 1, 1) := by decide +kernel
theorem dX5_begin_15 : decode cX5_begin 15 = .ok (.bipush 8, 2) := by decide +kernel
theorem dX5_begin_17 : decode cX5_begin 17 = .ok (.if_icmp .ge 7, 3) := by decide +kernel
theorem dX5_begin_20 : decode cX5_begin 20 = .ok (.iload_n 1, 1) := by decide +kernel
theorem dX5_begin_21 : decode cX5_begin 21 = .ok (.goto 5, 3) := by decide +kernel
theorem dX5_begin_24 : decode cX5_begin 24 = .ok (.bipush 11, 2) := by decide +kernel
theorem dX5_begin_26 : decode cX5_begin 26 = .ok (.invokestatic 33, 3) := by decide +kernel
theorem dX5_begin_29 : decode cX5_begin 29 = .ok (.aload_n 0, 1) := by decide +kernel
theorem dX5_begin_30 : decode cX5_begin 30 = .ok (.getfield 22, 3) := by decide +kernel
theorem dX5_begin_33 : decode cX5_begin 33 = .ok (.lconst 0, 1) := by decide +kernel
theorem dX5_begin_34 : decode cX5_begin 34 = .ok (.invokestatic 39, 3) := by decide +kernel
theorem dX5_begin_37 : decode cX5_begin 37 = .ok (.aload_n 0, 1) := by decide +kernel
theorem dX5_begin_38 : decode cX5_begin 38 = .ok (.getfield 26, 3) := by decide +kernel
theorem dX5_begin_41 : decode cX5_begin 41 = .ok (.dconst 0, 1) := by decide +kernel
theorem dX5_begin_42 : decode cX5_begin 42 = .ok (.invokestatic 42, 3) := by decide +kernel
theorem dX5_begin_45 : decode cX5_begin 45 = .ok (.return_, 1) := by decide +kernel
theorem dX5_copyFrom_0 : decode cX5_copyFrom 0 = .ok (.aload_n 0, 1) := by decide +kernel
theorem dX5_copyFrom_1 : decode cX5_copyFrom 1 = .ok (.aload_n 1, 1) := by decide +kernel
theorem dX5_copyFrom_2 : decode cX5_copyFrom 2 = .ok (.getfield 9, 3) := by decide +kernel
theorem dX5_copyFrom_5 : decode cX5_copyFrom 5 = .ok (.putfield 9, 3) := by decide +kernel
theorem dX5_copyFrom_8 : decode cX5_copyFrom 8 = .ok (.aload_n 0, 1) := by decide +kernel
theorem dX5_copyFrom_9 : decode cX5_copyFrom 9 = .ok (.aload_n 1, 1) := by decide +kernel
theorem dX5_copyFrom_10 : decode cX5_copyFrom 10 = .ok (.getfield 15, 3) := by decide +kernel
theorem dX5_copyFrom_13 : decode cX5_copyFrom 13 = .ok (.putfield 15, 3) := by decide +kernel
theorem dX5_copyFrom_16 : decode cX5_copyFrom 16 = .ok (.aload_n 1, 1) := by decide +kernel
theorem dX5_copyFrom_17 : decode cX5_copyFrom 17 = .ok (.getfield 18, 3) := by decide +kernel
theorem dX5_copyFrom_20 : decode cX5_copyFrom 20 = .ok (.iconst 0, 1) := by decide +kernel
theorem dX5_copyFrom_21 : decode cX5_copyFrom 21 = .ok (.aload_n 0, 1) := by decide +kernel
theorem dX5_copyFrom_22 : decode cX5_copyFrom 22 = .ok (.getfield 18, 3) := by decide +kernel
theorem dX5_copyFrom_25 : decode cX5_copyFrom 25 = .ok (.iconst 0, 1) := by decide +kernel
theorem dX5_copyFrom_26 : decode cX5_copyFrom 26 = .ok (.bipush 12, 2) := by decide +kernel
theorem dX5_copyFrom_28 : decode cX5_copyFrom 28 = .ok (.invokestatic 45, 3) := by decide +kernel
theorem dX5_copyFrom_31 : decode cX5_copyFrom 31 = .ok (.aload_n 1, 1) := by decide +kernel
theorem dX5_copyFrom_32 : decode cX5_copyFrom 32 = .ok (.getfield 22, 3) := by decide +kernel
theorem dX5_copyFrom_35 : decode cX5_copyFrom 35 = .ok (.iconst 0, 1) := by decide +kernel
theorem dX5_copyFrom_36 : decode cX5_copyFrom 36 = .ok (.aload_n 0, 1) := by decide +kernel
theorem dX5_copyFrom_37 : decode cX5_copyFrom 37 = .ok (.getfield 22, 3) := by decide +kernel
theorem dX5_copyFrom_40 : decode cX5_copyFrom 40 = .ok (.iconst 0, 1) := by decide +kernel
theorem dX5_copyFrom_41 : decode cX5_copyFrom 41 = .ok (.bipush 12, 2) := by decide +kernel
theorem dX5_copyFrom_43 : decode cX5_copyFrom 43 = .ok (.invokestatic 45, 3) := by decide +kernel
theorem dX5_copyFrom_46 : decode cX5_copyFrom 46 = .ok (.aload_n 1, 1) := by decide +kernel
theorem dX5_copyFrom_47 : decode cX5_copyFrom 47 = .ok (.getfield 26, 3) := by decide +kernel
theorem dX5_copyFrom_50 : decode cX5_copyFrom 50 = .ok (.iconst 0, 1) := by decide +kernel
theorem dX5_copyFrom_51 : decode cX5_copyFrom 51 = .ok (.aload_n 0, 1) := by decide +kernel
theorem dX5_copyFrom_52 : decode cX5_copyFrom 52 = .ok (.getfield 26, 3) := by decide +kernel
theorem dX5_copyFrom_55 : decode cX5_copyFrom 55 = .ok (.iconst 0, 1) := by decide +kernel
theorem dX5_copyFrom_56 : decode cX5_copyFrom 56 = .ok (.bipush 12, 2) := by decide +kernel
theorem dX5_copyFrom_58 : decode cX5_copyFrom 58 = .ok (.invokestatic 45, 3) := by decide +kernel
theorem dX5_copyFrom_61 : decode cX5_copyFrom 61 = .ok (.return_, 1) := by decide +kernel
theorem dX5_hasCell_0 : decode cX5_hasCell 0 = .ok (.iload_n 1, 1) := by decide +kernel
theorem dX5_hasCell_1 : decode cX5_hasCell 1 = .ok (.ifCond .lt 15, 3) := by decide +kernel
theorem dX5_hasCell_4 : decode cX5_hasCell 4 = .ok (.iload_n 1, 1) := by decide +kernel
theorem dX5_hasCell_5 : decode cX5_hasCell 5 = .ok (.aload_n 0, 1) := by decide +kernel
theorem dX5_hasCell_6 : decode cX5_hasCell 6 = .ok (.getfield 15, 3) := by decide +kernel
theorem dX5_hasCell_9 : decode cX5_hasCell 9 = .ok (.if_icmp .ge 7, 3) := by decide +kernel
theorem dX5_hasCell_12 : decode cX5_hasCell 12 = .ok (.iconst 1, 1) := by decide +kernel
theorem dX5_hasCell_13 : decode cX5_hasCell 13 = .ok (.goto 4, 3) := by decide +kernel
theorem dX5_hasCell_16 : decode cX5_hasCell 16 = .ok (.iconst 0, 1) := by decide +kernel
theorem dX5_hasCell_17 : decode cX5_hasCell 17 = .ok (.ireturn, 1) := by decide +kernel
theorem dX5_become_0 : decode cX5_become 0 = .ok (.aload_n 0, 1) := by decide +kernel
theorem dX5_become_1 : decode cX5_become 1 = .ok (.bipush 8, 2) := by decide +kernel
theorem dX5_become_3 : decode cX5_become 3 = .ok (.iconst 1, 1) := by decide +kernel
theorem dX5_become_4 : decode cX5_become 4 = .ok (.invokevirtual 51, 3) := by decide +kernel
theorem dX5_become_7 : decode cX5_become 7 = .ok (.aload_n 0, 1) := by decide +kernel
theorem dX5_become_8 : decode cX5_become 8 = .ok (.getfield 18, 3) := by decide +kernel
theorem dX5_become_11 : decode cX5_become 11 = .ok (.iconst 0, 1) := by decide +kernel
theorem dX5_become_12 : decode cX5_become 12 = .ok (.iload_n 1, 1) := by decide +kernel
theorem dX5_become_13 : decode cX5_become 13 = .ok (.iastore, 1) := by decide +kernel
theorem dX5_become_14 : decode cX5_become 14 = .ok (.iload_n 1, 1) := by decide +kernel
theorem dX5_become_15 : decode cX5_become 15 = .ok (.iconst 5, 1) := by decide +kernel
theorem dX5_become_16 : decode cX5_become 16 = .ok (.if_icmp .gt 17, 3) := by decide +kernel
theorem dX5_become_19 : decode cX5_become 19 = .ok (.aload_n 0, 1) := by decide +kernel
theorem dX5_become_20 : decode cX5_become 20 = .ok (.getfield 22, 3) := by decide +kernel
theorem dX5_become_23 : decode cX5_become 23 = .ok (.iconst 0, 1) := by decide +kernel
theorem dX5_become_24 : decode cX5_become 24 = .ok (.iload_n 1, 1) := by decide +kernel
theorem dX5_become_25 : decode cX5_become 25 = .ok (.lload_n 2, 1) := by decide +kernel
theorem dX5_become_26 : decode cX5_become 26 = .ok (.invokestatic 55, 3) := by decide +kernel
theorem dX5_become_29 : decode cX5_become 29 = .ok (.lastore, 1) := by decide +kernel
theorem dX5_become_30 : decode cX5_become 30 = .ok (.goto 62, 3) := by decide +kernel
theorem dX5_become_33 : decode cX5_become 33 = .ok (.iload_n 1, 1) := by decide +kernel
theorem dX5_become_34 : decode cX5_become 34 = .ok (.bipush 6, 2) := by decide +kernel
theorem dX5_become_36 : decode cX5_become 36 = .ok (.if_icmp .ne 18, 3) := by decide +kernel
theorem dX5_become_39 : decode cX5_become 39 = .ok (.aload_n 0, 1) := by decide +kernel
theorem dX5_become_40 : decode cX5_become 40 = .ok (.getfield 26, 3) := by decide +kernel
theorem dX5_become_43 : decode cX5_become 43 = .ok (.iconst 0, 1) := by decide +kernel
theorem dX5_become_44 : decode cX5_become 44 = .ok (.lload_n 2, 1) := by decide +kernel
theorem dX5_become_45 : decode cX5_become 45 = .ok (.l2f, 1) := by decide +kernel
theorem dX5_become_46 : decode cX5_become 46 = .ok (.ldc 59, 2) := by decide +kernel
theorem dX5_become_48 : decode cX5_become 48 = .ok (.fdiv, 1) := by decide +kernel
theorem dX5_become_49 : decode cX5_become 49 = .ok (.f2d, 1) := by decide +kernel
theorem dX5_become_50 : decode cX5_become 50 = .ok (.dastore, 1) := by decide +kernel
theorem dX5_become_51 : decode cX5_become 51 = .ok (.goto 41, 3) := by decide +kernel
theorem dX5_become_54 : decode cX5_become 54 = .ok (.iload_n 1, 1) := by decide +kernel
theorem dX5_become_55 : decode cX5_become 55 = .ok (.bipush 7, 2) := by decide +kernel
theorem dX5_become_57 : decode cX5_become 57 = .ok (.if_icmp .ne 18, 3) := by decide +kernel
theorem dX5_become_60 : decode cX5_become 60 = .ok (.aload_n 0, 1) := by decide +kernel
theorem dX5_become_61 : decode cX5_become 61 = .ok (.getfield 26, 3) := by decide +kernel
theorem dX5_become_64 : decode cX5_become 64 = .ok (.iconst 0, 1) := by decide +kernel
theorem dX5_become_65 : decode cX5_become 65 = .ok (.lload_n 2, 1) := by decide +kernel
theorem dX5_become_66 : decode cX5_become 66 = .ok (.l2d, 1) := by decide +kernel
theorem dX5_become_67 : decode cX5_become 67 = .ok (.ldc2_w 60, 3) := by decide +kernel
theorem dX5_become_70 : decode cX5_become 70 = .ok (.ddiv, 1) := by decide +kernel
theorem dX5_become_71 : decode cX5_become 71 = .ok (.dastore, 1) := by decide +kernel
theorem dX5_become_72 : decode cX5_become 72 = .ok (.goto 20, 3) := by decide +kernel
theorem dX5_become_75 : decode cX5_become 75 = .ok (.iload_n 1, 1) := by decide +kernel
theorem dX5_become_76 : decode cX5_become 76 = .ok (.bipush 11, 2) := by decide +kernel
theorem dX5_become_78 : decode cX5_become 78 = .ok (.if_icmp .ge 14, 3) := by decide +kernel
theorem dX5_become_81 : decode cX5_become 81 = .ok (.aload_n 0, 1) := by decide +kernel
theorem dX5_become_82 : decode cX5_become 82 = .ok (.getfield 22, 3) := by decide +kernel
theorem dX5_become_85 : decode cX5_become 85 = .ok (.iconst 0, 1) := by decide +kernel
theorem dX5_become_86 : decode cX5_become 86 = .ok (.lload_n 2, 1) := by decide +kernel
theorem dX5_become_87 : decode cX5_become 87 = .ok (.ldc2_w 62, 3) := by decide +kernel
theorem dX5_become_90 : decode cX5_become 90 = .ok (.land, 1) := by decide +kernel
theorem dX5_become_91 : decode cX5_become 91 = .ok (.lastore, 1) := by decide +kernel
theorem dX5_become_92 : decode cX5_become 92 = .ok (.return_, 1) := by decide +kernel
theorem dX5_accept_0 : decode cX5_accept 0 = .ok (.aload_n 2, 1) := by decide +kernel
theorem dX5_accept_1 : decode cX5_accept 1 = .ok (.getfield 18, 3) := by decide +kernel
theorem dX5_accept_4 : decode cX5_accept 4 = .ok (.iload_n 3, 1) := by decide +kernel
theorem dX5_accept_5 : decode cX5_accept 5 = .ok (.iaload, 1) := by decide +kernel
theorem dX5_accept_6 : decode cX5_accept 6 = .ok (.istore 4, 2) := by decide +kernel
theorem dX5_accept_8 : decode cX5_accept 8 = .ok (.aload_n 0, 1) := by decide +kernel
theorem dX5_accept_9 : decode cX5_accept 9 = .ok (.getfield 9, 3) := by decide +kernel
theorem dX5_accept_12 : decode cX5_accept 12 = .ok (.iload 4, 2) := by decide +kernel
theorem dX5_accept_14 : decode cX5_accept 14 = .ok (.invokestatic 64, 3) := by decide +kernel
theorem dX5_accept_17 : decode cX5_accept 17 = .ok (.ifCond .ne 5, 3) := by decide +kernel
theorem dX5_accept_20 : decode cX5_accept 20 = .ok (.iconst 0, 1) := by decide +kernel
theorem dX5_accept_21 : decode cX5_accept 21 = .ok (.ireturn, 1) := by decide +kernel
theorem dX5_accept_22 : decode cX5_accept 22 = .ok (.aload_n 0, 1) := by decide +kernel
theorem dX5_accept_23 : decode cX5_accept 23 = .ok (.getfield 18, 3) := by decide +kernel
theorem dX5_accept_26 : decode cX5_accept 26 = .ok (.iload_n 1, 1) := by decide +kernel
theorem dX5_accept_27 : decode cX5_accept 27 = .ok (.aload_n 0, 1) := by decide +kernel
theorem dX5_accept_28 : decode cX5_accept 28 = .ok (.getfield 9, 3) := by decide +kernel
theorem dX5_accept_31 : decode cX5_accept 31 = .ok (.invokestatic 68, 3) := by decide +kernel
theorem dX5_accept_34 : decode cX5_accept 34 = .ok (.ifCond .eq 10, 3) := by decide +kernel
theorem dX5_accept_37 : decode cX5_accept 37 = .ok (.aload_n 0, 1) := by decide +kernel
theorem dX5_accept_38 : decode cX5_accept 38 = .ok (.getfield 9, 3) := by decide +kernel
theorem dX5_accept_41 : decode cX5_accept 41 = .ok (.goto 5, 3) := by decide +kernel
theorem dX5_accept_44 : decode cX5_accept 44 = .ok (.iload 4, 2) := by decide +kernel
theorem dX5_accept_46 : decode cX5_accept 46 = .ok (.iastore, 1) := by decide +kernel
theorem dX5_accept_47 : decode cX5_accept 47 = .ok (.aload_n 0, 1) := by decide +kernel
theorem dX5_accept_48 : decode cX5_accept 48 = .ok (.getfield 9, 3) := by decide +kernel
theorem dX5_accept_51 : decode cX5_accept 51 = .ok (.invokestatic 72, 3) := by decide +kernel
theorem dX5_accept_54 : decode cX5_accept 54 = .ok (.ifCond .eq 35, 3) := by decide +kernel
theorem dX5_accept_57 : decode cX5_accept 57 = .ok (.aload_n 0, 1) := by decide +kernel
theorem dX5_accept_58 : decode cX5_accept 58 = .ok (.getfield 26, 3) := by decide +kernel
theorem dX5_accept_61 : decode cX5_accept 61 = .ok (.iload_n 1, 1) := by decide +kernel
theorem dX5_accept_62 : decode cX5_accept 62 = .ok (.aload_n 0, 1) := by decide +kernel
theorem dX5_accept_63 : decode cX5_accept 63 = .ok (.getfield 9, 3) := by decide +kernel
theorem dX5_accept_66 : decode cX5_accept 66 = .ok (.bipush 6, 2) := by decide +kernel
theorem dX5_accept_68 : decode cX5_accept 68 = .ok (.if_icmp .ne 12, 3) := by decide +kernel
theorem dX5_accept_71 : decode cX5_accept 71 = .ok (.aload_n 2, 1) := by decide +kernel
theorem dX5_accept_72 : decode cX5_accept 72 = .ok (.iload_n 3, 1) := by decide +kernel
theorem dX5_accept_73 : decode cX5_accept 73 = .ok (.invokevirtual 75, 3) := by decide +kernel
theorem dX5_accept_76 : decode cX5_accept 76 = .ok (.f2d, 1) := by decide +kernel
theorem dX5_accept_77 : decode cX5_accept 77 = .ok (.goto 8, 3) := by decide +kernel
theorem dX5_accept_80 : decode cX5_accept 80 = .ok (.aload_n 2, 1) := by decide +kernel
theorem dX5_accept_81 : decode cX5_accept 81 = .ok (.iload_n 3, 1) := by decide +kernel
theorem dX5_accept_82 : decode cX5_accept 82 = .ok (.invokevirtual 79, 3) := by decide +kernel
theorem dX5_accept_85 : decode cX5_accept 85 = .ok (.dastore, 1) := by decide +kernel
theorem dX5_accept_86 : decode cX5_accept 86 = .ok (.goto 27, 3) := by decide +kernel
theorem dX5_accept_89 : decode cX5_accept 89 = .ok (.aload_n 0, 1) := by decide +kernel
theorem dX5_accept_90 : decode cX5_accept 90 = .ok (.getfield 22, 3) := by decide +kernel
theorem dX5_accept_93 : decode cX5_accept 93 = .ok (.iload_n 1, 1) := by decide +kernel
theorem dX5_accept_94 : decode cX5_accept 94 = .ok (.aload_n 2, 1) := by decide +kernel
theorem dX5_accept_95 : decode cX5_accept 95 = .ok (.getfield 22, 3) := by decide +kernel
theorem dX5_accept_98 : decode cX5_accept 98 = .ok (.iload_n 3, 1) := by decide +kernel
theorem dX5_accept_99 : decode cX5_accept 99 = .ok (.laload, 1) := by decide +kernel
theorem dX5_accept_100 : decode cX5_accept 100 = .ok (.lastore, 1) := by decide +kernel
theorem dX5_accept_101 : decode cX5_accept 101 = .ok (.aload_n 0, 1) := by decide +kernel
theorem dX5_accept_102 : decode cX5_accept 102 = .ok (.getfield 26, 3) := by decide +kernel
theorem dX5_accept_105 : decode cX5_accept 105 = .ok (.iload_n 1, 1) := by decide +kernel
theorem dX5_accept_106 : decode cX5_accept 106 = .ok (.aload_n 2, 1) := by decide +kernel
theorem dX5_accept_107 : decode cX5_accept 107 = .ok (.getfield 26, 3) := by decide +kernel
theorem dX5_accept_110 : decode cX5_accept 110 = .ok (.iload_n 3, 1) := by decide +kernel
theorem dX5_accept_111 : decode cX5_accept 111 = .ok (.daload, 1) := by decide +kernel
theorem dX5_accept_112 : decode cX5_accept 112 = .ok (.dastore, 1) := by decide +kernel
theorem dX5_accept_113 : decode cX5_accept 113 = .ok (.iconst 1, 1) := by decide +kernel
theorem dX5_accept_114 : decode cX5_accept 114 = .ok (.ireturn, 1) := by decide +kernel
theorem dX5_floatAt_0 : decode cX5_floatAt 0 = .ok (.aload_n 0, 1) := by decide +kernel
theorem dX5_floatAt_1 : decode cX5_floatAt 1 = .ok (.getfield 18, 3) := by decide +kernel
theorem dX5_floatAt_4 : decode cX5_floatAt 4 = .ok (.iload_n 1, 1) := by decide +kernel
theorem dX5_floatAt_5 : decode cX5_floatAt 5 = .ok (.iaload, 1) := by decide +kernel
theorem dX5_floatAt_6 : decode cX5_floatAt 6 = .ok (.invokestatic 72, 3) := by decide +kernel
theorem dX5_floatAt_9 : decode cX5_floatAt 9 = .ok (.ifCond .eq 13, 3) := by decide +kernel
theorem dX5_floatAt_12 : decode cX5_floatAt 12 = .ok (.aload_n 0, 1) := by decide +kernel
theorem dX5_floatAt_13 : decode cX5_floatAt 13 = .ok (.getfield 26, 3) := by decide +kernel
theorem dX5_floatAt_16 : decode cX5_floatAt 16 = .ok (.iload_n 1, 1) := by decide +kernel
theorem dX5_floatAt_17 : decode cX5_floatAt 17 = .ok (.daload, 1) := by decide +kernel
theorem dX5_floatAt_18 : decode cX5_floatAt 18 = .ok (.d2f, 1) := by decide +kernel
theorem dX5_floatAt_19 : decode cX5_floatAt 19 = .ok (.goto 10, 3) := by decide +kernel
theorem dX5_floatAt_22 : decode cX5_floatAt 22 = .ok (.aload_n 0, 1) := by decide +kernel
theorem dX5_floatAt_23 : decode cX5_floatAt 23 = .ok (.getfield 22, 3) := by decide +kernel
theorem dX5_floatAt_26 : decode cX5_floatAt 26 = .ok (.iload_n 1, 1) := by decide +kernel
theorem dX5_floatAt_27 : decode cX5_floatAt 27 = .ok (.laload, 1) := by decide +kernel
theorem dX5_floatAt_28 : decode cX5_floatAt 28 = .ok (.l2f, 1) := by decide +kernel
theorem dX5_floatAt_29 : decode cX5_floatAt 29 = .ok (.freturn, 1) := by decide +kernel
theorem dX5_doubleAt_0 : decode cX5_doubleAt 0 = .ok (.aload_n 0, 1) := by decide +kernel
theorem dX5_doubleAt_1 : decode cX5_doubleAt 1 = .ok (.getfield 18, 3) := by decide +kernel
theorem dX5_doubleAt_4 : decode cX5_doubleAt 4 = .ok (.iload_n 1, 1) := by decide +kernel
theorem dX5_doubleAt_5 : decode cX5_doubleAt 5 = .ok (.iaload, 1) := by decide +kernel
theorem dX5_doubleAt_6 : decode cX5_doubleAt 6 = .ok (.invokestatic 72, 3) := by decide +kernel
theorem dX5_doubleAt_9 : decode cX5_doubleAt 9 = .ok (.ifCond .eq 12, 3) := by decide +kernel
theorem dX5_doubleAt_12 : decode cX5_doubleAt 12 = .ok (.aload_n 0, 1) := by decide +kernel
theorem dX5_doubleAt_13 : decode cX5_doubleAt 13 = .ok (.getfield 26, 3) := by decide +kernel
theorem dX5_doubleAt_16 : decode cX5_doubleAt 16 = .ok (.iload_n 1, 1) := by decide +kernel
theorem dX5_doubleAt_17 : decode cX5_doubleAt 17 = .ok (.daload, 1) := by decide +kernel
theorem dX5_doubleAt_18 : decode cX5_doubleAt 18 = .ok (.goto 10, 3) := by decide +kernel
theorem dX5_doubleAt_21 : decode cX5_doubleAt 21 = .ok (.aload_n 0, 1) := by decide +kernel
theorem dX5_doubleAt_22 : decode cX5_doubleAt 22 = .ok (.getfield 22, 3) := by decide +kernel
theorem dX5_doubleAt_25 : decode cX5_doubleAt 25 = .ok (.iload_n 1, 1) := by decide +kernel
theorem dX5_doubleAt_26 : decode cX5_doubleAt 26 = .ok (.laload, 1) := by decide +kernel
theorem dX5_doubleAt_27 : decode cX5_doubleAt 27 = .ok (.l2d, 1) := by decide +kernel
theorem dX5_doubleAt_28 : decode cX5_doubleAt 28 = .ok (.dreturn, 1) := by decide +kernel
theorem dX5_codeAt_0 : decode cX5_codeAt 0 = .ok (.aload_n 0, 1) := by decide +kernel
theorem dX5_codeAt_1 : decode cX5_codeAt 1 = .ok (.getfield 18, 3) := by decide +kernel
theorem dX5_codeAt_4 : decode cX5_codeAt 4 = .ok (.iload_n 1, 1) := by decide +kernel
theorem dX5_codeAt_5 : decode cX5_codeAt 5 = .ok (.iaload, 1) := by decide +kernel
theorem dX5_codeAt_6 : decode cX5_codeAt 6 = .ok (.invokestatic 72, 3) := by decide +kernel
theorem dX5_codeAt_9 : decode cX5_codeAt 9 = .ok (.ifCond .eq 15, 3) := by decide +kernel
theorem dX5_codeAt_12 : decode cX5_codeAt 12 = .ok (.aload_n 0, 1) := by decide +kernel
theorem dX5_codeAt_13 : decode cX5_codeAt 13 = .ok (.getfield 26, 3) := by decide +kernel
theorem dX5_codeAt_16 : decode cX5_codeAt 16 = .ok (.iload_n 1, 1) := by decide +kernel
theorem dX5_codeAt_17 : decode cX5_codeAt 17 = .ok (.daload, 1) := by decide +kernel
theorem dX5_codeAt_18 : decode cX5_codeAt 18 = .ok (.invokestatic 83, 3) := by decide +kernel
theorem dX5_codeAt_21 : decode cX5_codeAt 21 = .ok (.goto 9, 3) := by decide +kernel
theorem dX5_codeAt_24 : decode cX5_codeAt 24 = .ok (.aload_n 0, 1) := by decide +kernel
theorem dX5_codeAt_25 : decode cX5_codeAt 25 = .ok (.getfield 22, 3) := by decide +kernel
theorem dX5_codeAt_28 : decode cX5_codeAt 28 = .ok (.iload_n 1, 1) := by decide +kernel
theorem dX5_codeAt_29 : decode cX5_codeAt 29 = .ok (.laload, 1) := by decide +kernel
theorem dX5_codeAt_30 : decode cX5_codeAt 30 = .ok (.lreturn, 1) := by decide +kernel
theorem dX5_matches_0 : decode cX5_matches 0 = .ok (.aload_n 0, 1) := by decide +kernel
theorem dX5_matches_1 : decode cX5_matches 1 = .ok (.getfield 18, 3) := by decide +kernel
theorem dX5_matches_4 : decode cX5_matches 4 = .ok (.iload_n 1, 1) := by decide +kernel
theorem dX5_matches_5 : decode cX5_matches 5 = .ok (.iaload, 1) := by decide +kernel
theorem dX5_matches_6 : decode cX5_matches 6 = .ok (.istore 4, 2) := by decide +kernel
theorem dX5_matches_8 : decode cX5_matches 8 = .ok (.aload_n 2, 1) := by decide +kernel
theorem dX5_matches_9 : decode cX5_matches 9 = .ok (.getfield 18, 3) := by decide +kernel
theorem dX5_matches_12 : decode cX5_matches 12 = .ok (.iload_n 3, 1) := by decide +kernel
theorem dX5_matches_13 : decode cX5_matches 13 = .ok (.iaload, 1) := by decide +kernel
theorem dX5_matches_14 : decode cX5_matches 14 = .ok (.istore 5, 2) := by decide +kernel
theorem dX5_matches_16 : decode cX5_matches 16 = .ok (.iload 4, 2) := by decide +kernel
theorem dX5_matches_18 : decode cX5_matches 18 = .ok (.invokestatic 87, 3) := by decide +kernel
theorem dX5_matches_21 : decode cX5_matches 21 = .ok (.ifCond .eq 69, 3) := by decide +kernel
theorem dX5_matches_24 : decode cX5_matches 24 = .ok (.iload 5, 2) := by decide +kernel
theorem dX5_matches_26 : decode cX5_matches 26 = .ok (.invokestatic 87, 3) := by decide +kernel
theorem dX5_matches_29 : decode cX5_matches 29 = .ok (.ifCond .eq 61, 3) := by decide +kernel
theorem dX5_matches_32 : decode cX5_matches 32 = .ok (.iload 4, 2) := by decide +kernel
theorem dX5_matches_34 : decode cX5_matches 34 = .ok (.invokestatic 72, 3) := by decide +kernel
theorem dX5_matches_37 : decode cX5_matches 37 = .ok (.ifCond .ne 11, 3) := by decide +kernel
theorem dX5_matches_40 : decode cX5_matches 40 = .ok (.iload 5, 2) := by decide +kernel
theorem dX5_matches_42 : decode cX5_matches 42 = .ok (.invokestatic 72, 3) := by decide +kernel
theorem dX5_matches_45 : decode cX5_matches 45 = .ok (.ifCond .eq 23, 3) := by decide +kernel
theorem dX5_matches_48 : decode cX5_matches 48 = .ok (.aload_n 0, 1) := by decide +kernel
theorem dX5_matches_49 : decode cX5_matches 49 = .ok (.iload_n 1, 1) := by decide +kernel
theorem dX5_matches_50 : decode cX5_matches 50 = .ok (.invokevirtual 79, 3) := by decide +kernel
theorem dX5_matches_53 : decode cX5_matches 53 = .ok (.aload_n 2, 1) := by decide +kernel
theorem dX5_matches_54 : decode cX5_matches 54 = .ok (.iload_n 3, 1) := by decide +kernel
theorem dX5_matches_55 : decode cX5_matches 55 = .ok (.invokevirtual 79, 3) := by decide +kernel
theorem dX5_matches_58 : decode cX5_matches 58 = .ok (.dcmp .l, 1) := by decide +kernel
theorem dX5_matches_59 : decode cX5_matches 59 = .ok (.ifCond .ne 7, 3) := by decide +kernel
theorem dX5_matches_62 : decode cX5_matches 62 = .ok (.iconst 1, 1) := by decide +kernel
theorem dX5_matches_63 : decode cX5_matches 63 = .ok (.goto 4, 3) := by decide +kernel
theorem dX5_matches_66 : decode cX5_matches 66 = .ok (.iconst 0, 1) := by decide +kernel
theorem dX5_matches_67 : decode cX5_matches 67 = .ok (.ireturn, 1) := by decide +kernel
theorem dX5_matches_68 : decode cX5_matches 68 = .ok (.aload_n 0, 1) := by decide +kernel
theorem dX5_matches_69 : decode cX5_matches 69 = .ok (.getfield 22, 3) := by decide +kernel
theorem dX5_matches_72 : decode cX5_matches 72 = .ok (.iload_n 1, 1) := by decide +kernel
theorem dX5_matches_73 : decode cX5_matches 73 = .ok (.laload, 1) := by decide +kernel
theorem dX5_matches_74 : decode cX5_matches 74 = .ok (.aload_n 2, 1) := by decide +kernel
theorem dX5_matches_75 : decode cX5_matches 75 = .ok (.getfield 22, 3) := by decide +kernel
theorem dX5_matches_78 : decode cX5_matches 78 = .ok (.iload_n 3, 1) := by decide +kernel
theorem dX5_matches_79 : decode cX5_matches 79 = .ok (.laload, 1) := by decide +kernel
theorem dX5_matches_80 : decode cX5_matches 80 = .ok (.lcmp, 1) := by decide +kernel
theorem dX5_matches_81 : decode cX5_matches 81 = .ok (.ifCond .ne 7, 3) := by decide +kernel
theorem dX5_matches_84 : decode cX5_matches 84 = .ok (.iconst 1, 1) := by decide +kernel
theorem dX5_matches_85 : decode cX5_matches 85 = .ok (.goto 4, 3) := by decide +kernel
theorem dX5_matches_88 : decode cX5_matches 88 = .ok (.iconst 0, 1) := by decide +kernel
theorem dX5_matches_89 : decode cX5_matches 89 = .ok (.ireturn, 1) := by decide +kernel
theorem dX5_matches_90 : decode cX5_matches 90 = .ok (.iload 4, 2) := by decide +kernel
theorem dX5_matches_92 : decode cX5_matches 92 = .ok (.iload 5, 2) := by decide +kernel
theorem dX5_matches_94 : decode cX5_matches 94 = .ok (.if_icmp .ne 23, 3) := by decide +kernel
theorem dX5_matches_97 : decode cX5_matches 97 = .ok (.aload_n 0, 1) := by decide +kernel
theorem dX5_matches_98 : decode cX5_matches 98 = .ok (.getfield 22, 3) := by decide +kernel
theorem dX5_matches_101 : decode cX5_matches 101 = .ok (.iload_n 1, 1) := by decide +kernel
theorem dX5_matches_102 : decode cX5_matches 102 = .ok (.laload, 1) := by decide +kernel
theorem dX5_matches_103 : decode cX5_matches 103 = .ok (.aload_n 2, 1) := by decide +kernel
theorem dX5_matches_104 : decode cX5_matches 104 = .ok (.getfield 22, 3) := by decide +kernel
theorem dX5_matches_107 : decode cX5_matches 107 = .ok (.iload_n 3, 1) := by decide +kernel
theorem dX5_matches_108 : decode cX5_matches 108 = .ok (.laload, 1) := by decide +kernel
theorem dX5_matches_109 : decode cX5_matches 109 = .ok (.lcmp, 1) := by decide +kernel
theorem dX5_matches_110 : decode cX5_matches 110 = .ok (.ifCond .ne 7, 3) := by decide +kernel
theorem dX5_matches_113 : decode cX5_matches 113 = .ok (.iconst 1, 1) := by decide +kernel
theorem dX5_matches_114 : decode cX5_matches 114 = .ok (.goto 4, 3) := by decide +kernel
theorem dX5_matches_117 : decode cX5_matches 117 = .ok (.iconst 0, 1) := by decide +kernel
theorem dX5_matches_118 : decode cX5_matches 118 = .ok (.ireturn, 1) := by decide +kernel
theorem dX5_exceeds_0 : decode cX5_exceeds 0 = .ok (.aload_n 0, 1) := by decide +kernel
theorem dX5_exceeds_1 : decode cX5_exceeds 1 = .ok (.getfield 18, 3) := by decide +kernel
theorem dX5_exceeds_4 : decode cX5_exceeds 4 = .ok (.iload_n 1, 1) := by decide +kernel
theorem dX5_exceeds_5 : decode cX5_exceeds 5 = .ok (.iaload, 1) := by decide +kernel
theorem dX5_exceeds_6 : decode cX5_exceeds 6 = .ok (.invokestatic 72, 3) := by decide +kernel
theorem dX5_exceeds_9 : decode cX5_exceeds 9 = .ok (.ifCond .eq 27, 3) := by decide +kernel
theorem dX5_exceeds_12 : decode cX5_exceeds 12 = .ok (.aload_n 0, 1) := by decide +kernel
theorem dX5_exceeds_13 : decode cX5_exceeds 13 = .ok (.getfield 26, 3) := by decide +kernel
theorem dX5_exceeds_16 : decode cX5_exceeds 16 = .ok (.iload_n 1, 1) := by decide +kernel
theorem dX5_exceeds_17 : decode cX5_exceeds 17 = .ok (.daload, 1) := by decide +kernel
theorem dX5_exceeds_18 : decode cX5_exceeds 18 = .ok (.aload_n 2, 1) := by decide +kernel
theorem dX5_exceeds_19 : decode cX5_exceeds 19 = .ok (.getfield 26, 3) := by decide +kernel
theorem dX5_exceeds_22 : decode cX5_exceeds 22 = .ok (.iload_n 3, 1) := by decide +kernel
theorem dX5_exceeds_23 : decode cX5_exceeds 23 = .ok (.daload, 1) := by decide +kernel
theorem dX5_exceeds_24 : decode cX5_exceeds 24 = .ok (.dcmp .l, 1) := by decide +kernel
theorem dX5_exceeds_25 : decode cX5_exceeds 25 = .ok (.ifCond .le 7, 3) := by decide +kernel
theorem dX5_exceeds_28 : decode cX5_exceeds 28 = .ok (.iconst 1, 1) := by decide +kernel
theorem dX5_exceeds_29 : decode cX5_exceeds 29 = .ok (.goto 28, 3) := by decide +kernel
theorem dX5_exceeds_32 : decode cX5_exceeds 32 = .ok (.iconst 0, 1) := by decide +kernel
theorem dX5_exceeds_33 : decode cX5_exceeds 33 = .ok (.goto 24, 3) := by decide +kernel
theorem dX5_exceeds_36 : decode cX5_exceeds 36 = .ok (.aload_n 0, 1) := by decide +kernel
theorem dX5_exceeds_37 : decode cX5_exceeds 37 = .ok (.getfield 22, 3) := by decide +kernel
theorem dX5_exceeds_40 : decode cX5_exceeds 40 = .ok (.iload_n 1, 1) := by decide +kernel
theorem dX5_exceeds_41 : decode cX5_exceeds 41 = .ok (.laload, 1) := by decide +kernel
theorem dX5_exceeds_42 : decode cX5_exceeds 42 = .ok (.aload_n 2, 1) := by decide +kernel
theorem dX5_exceeds_43 : decode cX5_exceeds 43 = .ok (.getfield 22, 3) := by decide +kernel
theorem dX5_exceeds_46 : decode cX5_exceeds 46 = .ok (.iload_n 3, 1) := by decide +kernel
theorem dX5_exceeds_47 : decode cX5_exceeds 47 = .ok (.laload, 1) := by decide +kernel
theorem dX5_exceeds_48 : decode cX5_exceeds 48 = .ok (.lcmp, 1) := by decide +kernel
theorem dX5_exceeds_49 : decode cX5_exceeds 49 = .ok (.ifCond .le 7, 3) := by decide +kernel
theorem dX5_exceeds_52 : decode cX5_exceeds 52 = .ok (.iconst 1, 1) := by decide +kernel
theorem dX5_exceeds_53 : decode cX5_exceeds 53 = .ok (.goto 4, 3) := by decide +kernel
theorem dX5_exceeds_56 : decode cX5_exceeds 56 = .ok (.iconst 0, 1) := by decide +kernel
theorem dX5_exceeds_57 : decode cX5_exceeds 57 = .ok (.ireturn, 1) := by decide +kernel
theorem dX5_cellsReadAs_0 : decode cX5_cellsReadAs 0 = .ok (.aload_n 0, 1) := by decide +kernel
theorem dX5_cellsReadAs_1 : decode cX5_cellsReadAs 1 = .ok (.getfield 15, 3) := by decide +kernel
theorem dX5_cellsReadAs_4 : decode cX5_cellsReadAs 4 = .ok (.ifCond .eq 14, 3) := by decide +kernel
theorem dX5_cellsReadAs_7 : decode cX5_cellsReadAs 7 = .ok (.aload_n 0, 1) := by decide +kernel
theorem dX5_cellsReadAs_8 : decode cX5_cellsReadAs 8 = .ok (.getfield 9, 3) := by decide +kernel
theorem dX5_cellsReadAs_11 : decode cX5_cellsReadAs 11 = .ok (.iload_n 1, 1) := by decide +kernel
theorem dX5_cellsReadAs_12 : decode cX5_cellsReadAs 12 = .ok (.invokestatic 90, 3) := by decide +kernel
theorem dX5_cellsReadAs_15 : decode cX5_cellsReadAs 15 = .ok (.ifCond .eq 7, 3) := by decide +kernel
theorem dX5_cellsReadAs_18 : decode cX5_cellsReadAs 18 = .ok (.iconst 1, 1) := by decide +kernel
theorem dX5_cellsReadAs_19 : decode cX5_cellsReadAs 19 = .ok (.goto 4, 3) := by decide +kernel
theorem dX5_cellsReadAs_22 : decode cX5_cellsReadAs 22 = .ok (.iconst 0, 1) := by decide +kernel
theorem dX5_cellsReadAs_23 : decode cX5_cellsReadAs 23 = .ok (.ireturn, 1) := by decide +kernel
theorem dX6_init_0 : decode cX6_init 0 = .ok (.aload_n 0, 1) := by decide +kernel
theorem dX6_init_1 : decode cX6_init 1 = .ok (.invokespecial 3, 3) := by decide +kernel
theorem dX6_init_4 : decode cX6_init 4 = .ok (.aload_n 0, 1) := by decide +kernel
theorem dX6_init_5 : decode cX6_init 5 = .ok (.new 9, 3) := by decide +kernel
theorem dX6_init_8 : decode cX6_init 8 = .ok (.dup, 1) := by decide +kernel
theorem dX6_init_9 : decode cX6_init 9 = .ok (.bipush (-9), 2) := by decide +kernel
theorem dX6_init_11 : decode cX6_init 11 = .ok (.invokespecial 11, 3) := by decide +kernel
theorem dX6_init_14 : decode cX6_init 14 = .ok (.putfield 14, 3) := by decide +kernel
theorem dX6_init_17 : decode cX6_init 17 = .ok (.aload_n 0, 1) := by decide +kernel
theorem dX6_init_18 : decode cX6_init 18 = .ok (.new 9, 3) := by decide +kernel
theorem dX6_init_21 : decode cX6_init 21 = .ok (.dup, 1) := by decide +kernel
theorem dX6_init_22 : decode cX6_init 22 = .ok (.bipush (-9), 2) := by decide +kernel
theorem dX6_init_24 : decode cX6_init 24 = .ok (.invokespecial 11, 3) := by decide +kernel
theorem dX6_init_27 : decode cX6_init 27 = .ok (.putfield 20, 3) := by decide +kernel
theorem dX6_init_30 : decode cX6_init 30 = .ok (.aload_n 0, 1) := by decide +kernel
theorem dX6_init_31 : decode cX6_init 31 = .ok (.aload_n 1, 1) := by decide +kernel
theorem dX6_init_32 : decode cX6_init 32 = .ok (.putfield 23, 3) := by decide +kernel
theorem dX6_init_35 : decode cX6_init 35 = .ok (.aload_n 0, 1) := by decide +kernel
theorem dX6_init_36 : decode cX6_init 36 = .ok (.aload_n 2, 1) := by decide +kernel
theorem dX6_init_37 : decode cX6_init 37 = .ok (.putfield 27, 3) := by decide +kernel
theorem dX6_init_40 : decode cX6_init 40 = .ok (.return_, 1) := by decide +kernel
theorem dX6_readCell_0 : decode cX6_readCell 0 = .ok (.iload_n 1, 1) := by decide +kernel
theorem dX6_readCell_1 : decode cX6_readCell 1 = .ok (.invokestatic 31, 3) := by decide +kernel
theorem dX6_readCell_4 : decode cX6_readCell 4 = .ok (.ifCond .eq 15, 3) := by decide +kernel
theorem dX6_readCell_7 : decode cX6_readCell 7 = .ok (.iload 4, 2) := by decide +kernel
theorem dX6_readCell_9 : decode cX6_readCell 9 = .ok (.ifCond .lt 10, 3) := by decide +kernel
theorem dX6_readCell_12 : decode cX6_readCell 12 = .ok (.iload 4, 2) := by decide +kernel
theorem dX6_readCell_14 : decode cX6_readCell 14 = .ok (.bipush 8, 2) := by decide +kernel
theorem dX6_readCell_16 : decode cX6_readCell 16 = .ok (.if_icmp .le 5, 3) := by decide +kernel
theorem dX6_readCell_19 : decode cX6_readCell 19 = .ok (.iconst (-1), 1) := by decide +kernel
theorem dX6_readCell_20 : decode cX6_readCell 20 = .ok (.ireturn, 1) := by decide +kernel
theorem dX6_readCell_21 : decode cX6_readCell 21 = .ok (.aload_n 0, 1) := by decide +kernel
theorem dX6_readCell_22 : decode cX6_readCell 22 = .ok (.getfield 23, 3) := by decide +kernel
theorem dX6_readCell_25 : decode cX6_readCell 25 = .ok (.iload_n 1, 1) := by decide +kernel
theorem dX6_readCell_26 : decode cX6_readCell 26 = .ok (.iload_n 2, 1) := by decide +kernel
theorem dX6_readCell_27 : decode cX6_readCell 27 = .ok (.invokevirtual 35, 3) := by decide +kernel
theorem dX6_readCell_30 : decode cX6_readCell 30 = .ok (.astore 5, 2) := by decide +kernel
theorem dX6_readCell_32 : decode cX6_readCell 32 = .ok (.aload 5, 2) := by decide +kernel
theorem dX6_readCell_34 : decode cX6_readCell 34 = .ok (.ifnonnull 13, 3) := by decide +kernel
theorem dX6_readCell_37 : decode cX6_readCell 37 = .ok (.aload_n 0, 1) := by decide +kernel
theorem dX6_readCell_38 : decode cX6_readCell 38 = .ok (.getfield 23, 3) := by decide +kernel
theorem dX6_readCell_41 : decode cX6_readCell 41 = .ok (.iload_n 1, 1) := by decide +kernel
theorem dX6_readCell_42 : decode cX6_readCell 42 = .ok (.iload_n 2, 1) := by decide +kernel
theorem dX6_readCell_43 : decode cX6_readCell 43 = .ok (.invokevirtual 41, 3) := by decide +kernel
theorem dX6_readCell_46 : decode cX6_readCell 46 = .ok (.ireturn, 1) := by decide +kernel
theorem dX6_readCell_47 : decode cX6_readCell 47 = .ok (.aload 5, 2) := by decide +kernel
theorem dX6_readCell_49 : decode cX6_readCell 49 = .ok (.iload_n 3, 1) := by decide +kernel
theorem dX6_readCell_50 : decode cX6_readCell 50 = .ok (.invokevirtual 45, 3) := by decide +kernel
theorem dX6_readCell_53 : decode cX6_readCell 53 = .ok (.ifCond .ne 6, 3) := by decide +kernel
theorem dX6_readCell_56 : decode cX6_readCell 56 = .ok (.bipush (-6), 2) := by decide +kernel
theorem dX6_readCell_58 : decode cX6_readCell 58 = .ok (.ireturn, 1) := by decide +kernel
theorem dX6_readCell_59 : decode cX6_readCell 59 = .ok (.iload 4, 2) := by decide +kernel
theorem dX6_readCell_61 : decode cX6_readCell 61 = .ok (.bipush 8, 2) := by decide +kernel
theorem dX6_readCell_63 : decode cX6_readCell 63 = .ok (.if_icmp .ge 19, 3) := by decide +kernel
theorem dX6_readCell_66 : decode cX6_readCell 66 = .ok (.aload 5, 2) := by decide +kernel
theorem dX6_readCell_68 : decode cX6_readCell 68 = .ok (.getfield 48, 3) := by decide +kernel
theorem dX6_readCell_71 : decode cX6_readCell 71 = .ok (.iload 4, 2) := by decide +kernel
theorem dX6_readCell_73 : decode cX6_readCell 73 = .ok (.invokestatic 52, 3) := by decide +kernel
theorem dX6_readCell_76 : decode cX6_readCell 76 = .ok (.ifCond .ne 6, 3) := by decide +kernel
theorem dX6_readCell_79 : decode cX6_readCell 79 = .ok (.bipush (-7), 2) := by decide +kernel
theorem dX6_readCell_81 : decode cX6_readCell 81 = .ok (.ireturn, 1) := by decide +kernel
theorem dX6_readCell_82 : decode cX6_readCell 82 = .ok (.aload_n 0, 1) := by decide +kernel
theorem dX6_readCell_83 : decode cX6_readCell 83 = .ok (.getfield 14, 3) := by decide +kernel
theorem dX6_readCell_86 : decode cX6_readCell 86 = .ok (.iload 4, 2) := by decide +kernel
theorem dX6_readCell_88 : decode cX6_readCell 88 = .ok (.iconst 1, 1) := by decide +kernel
theorem dX6_readCell_89 : decode cX6_readCell 89 = .ok (.invokevirtual 56, 3) := by decide +kernel
theorem dX6_readCell_92 : decode cX6_readCell 92 = .ok (.aload_n 0, 1) := by decide +kernel
theorem dX6_readCell_93 : decode cX6_readCell 93 = .ok (.getfield 14, 3) := by decide +kernel
theorem dX6_readCell_96 : decode cX6_readCell 96 = .ok (.iconst 0, 1) := by decide +kernel
theorem dX6_readCell_97 : decode cX6_readCell 97 = .ok (.aload 5, 2) := by decide +kernel
theorem dX6_readCell_99 : decode cX6_readCell 99 = .ok (.iload_n 3, 1) := by decide +kernel
theorem dX6_readCell_100 : decode cX6_readCell 100 = .ok (.invokevirtual 60, 3) := by decide +kernel
theorem dX6_readCell_103 : decode cX6_readCell 103 = .ok (.pop, 1) := by decide +kernel
theorem dX6_readCell_104 : decode cX6_readCell 104 = .ok (.aload_n 0, 1) := by decide +kernel
theorem dX6_readCell_105 : decode cX6_readCell 105 = .ok (.getfield 27, 3) := by decide +kernel
theorem dX6_readCell_108 : decode cX6_readCell 108 = .ok (.aload_n 0, 1) := by decide +kernel
theorem dX6_readCell_109 : decode cX6_readCell 109 = .ok (.getfield 14, 3) := by decide +kernel
theorem dX6_readCell_112 : decode cX6_readCell 112 = .ok (.iconst 0, 1) := by decide +kernel
theorem dX6_readCell_113 : decode cX6_readCell 113 = .ok (.invokevirtual 64, 3) := by decide +kernel
theorem dX6_readCell_116 : decode cX6_readCell 116 = .ok (.putfield 68, 3) := by decide +kernel
theorem dX6_readCell_119 : decode cX6_readCell 119 = .ok (.aload_n 0, 1) := by decide +kernel
theorem dX6_readCell_120 : decode cX6_readCell 120 = .ok (.getfield 14, 3) := by decide +kernel
theorem dX6_readCell_123 : decode cX6_readCell 123 = .ok (.getfield 74, 3) := by decide +kernel
theorem dX6_readCell_126 : decode cX6_readCell 126 = .ok (.iconst 0, 1) := by decide +kernel
theorem dX6_readCell_127 : decode cX6_readCell 127 = .ok (.iaload, 1) := by decide +kernel
theorem dX6_readCell_128 : decode cX6_readCell 128 = .ok (.ireturn, 1) := by decide +kernel
theorem dX6_writeCell_0 : decode cX6_writeCell 0 = .ok (.iload_n 1, 1) := by decide +kernel
theorem dX6_writeCell_1 : decode cX6_writeCell 1 = .ok (.invokestatic 31, 3) := by decide +kernel
theorem dX6_writeCell_4 : decode cX6_writeCell 4 = .ok (.ifCond .eq 11, 3) := by decide +kernel
theorem dX6_writeCell_7 : decode cX6_writeCell 7 = .ok (.iload 4, 2) := by decide +kernel
theorem dX6_writeCell_9 : decode cX6_writeCell 9 = .ok (.invokestatic 78, 3) := by decide +kernel
theorem dX6_writeCell_12 : decode cX6_writeCell 12 = .ok (.ifCond .ne 5, 3) := by decide +kernel
theorem dX6_writeCell_15 : decode cX6_writeCell 15 = .ok (.iconst (-1), 1) := by decide +kernel
theorem dX6_writeCell_16 : decode cX6_writeCell 16 = .ok (.ireturn, 1) := by decide +kernel
theorem dX6_writeCell_17 : decode cX6_writeCell 17 = .ok (.aload_n 0, 1) := by decide +kernel
theorem dX6_writeCell_18 : decode cX6_writeCell 18 = .ok (.getfield 23, 3) := by decide +kernel
theorem dX6_writeCell_21 : decode cX6_writeCell 21 = .ok (.iload_n 1, 1) := by decide +kernel
theorem dX6_writeCell_22 : decode cX6_writeCell 22 = .ok (.iload_n 2, 1) := by decide +kernel
theorem dX6_writeCell_23 : decode cX6_writeCell 23 = .ok (.invokevirtual 35, 3) := by decide +kernel
theorem dX6_writeCell_26 : decode cX6_writeCell 26 = .ok (.astore 7, 2) := by decide +kernel
theorem dX6_writeCell_28 : decode cX6_writeCell 28 = .ok (.aload 7, 2) := by decide +kernel
theorem dX6_writeCell_30 : decode cX6_writeCell 30 = .ok (.ifnull 26, 3) := by decide +kernel
theorem dX6_writeCell_33 : decode cX6_writeCell 33 = .ok (.aload 7, 2) := by decide +kernel
theorem dX6_writeCell_35 : decode cX6_writeCell 35 = .ok (.iload_n 3, 1) := by decide +kernel
theorem dX6_writeCell_36 : decode cX6_writeCell 36 = .ok (.invokevirtual 45, 3) := by decide +kernel
theorem dX6_writeCell_39 : decode cX6_writeCell 39 = .ok (.ifCond .eq 17, 3) := by decide +kernel
theorem dX6_writeCell_42 : decode cX6_writeCell 42 = .ok (.aload 7, 2) := by decide +kernel
theorem dX6_writeCell_44 : decode cX6_writeCell 44 = .ok (.getfield 48, 3) := by decide +kernel
theorem dX6_writeCell_47 : decode cX6_writeCell 47 = .ok (.invokestatic 78, 3) := by decide +kernel
theorem dX6_writeCell_50 : decode cX6_writeCell 50 = .ok (.ifCond .ne 6, 3) := by decide +kernel
theorem dX6_writeCell_53 : decode cX6_writeCell 53 = .ok (.bipush (-7), 2) := by decide +kernel
theorem dX6_writeCell_55 : decode cX6_writeCell 55 = .ok (.ireturn, 1) := by decide +kernel
theorem dX6_writeCell_56 : decode cX6_writeCell 56 = .ok (.aload_n 0, 1) := by decide +kernel
theorem dX6_writeCell_57 : decode cX6_writeCell 57 = .ok (.iload_n 1, 1) := by decide +kernel
theorem dX6_writeCell_58 : decode cX6_writeCell 58 = .ok (.iload_n 2, 1) := by decide +kernel
theorem dX6_writeCell_59 : decode cX6_writeCell 59 = .ok (.iload_n 3, 1) := by decide +kernel
theorem dX6_writeCell_60 : decode cX6_writeCell 60 = .ok (.iload 4, 2) := by decide +kernel
theorem dX6_writeCell_62 : decode cX6_writeCell 62 = .ok (.lload 5, 2) := by decide +kernel
theorem dX6_writeCell_64 : decode cX6_writeCell 64 = .ok (.invokevirtual 81, 3) := by decide +kernel
theorem dX6_writeCell_67 : decode cX6_writeCell 67 = .ok (.ireturn, 1) := by decide +kernel
theorem dX6_putCell_0 : decode cX6_putCell 0 = .ok (.iload_n 1, 1) := by decide +kernel
theorem dX6_putCell_1 : decode cX6_putCell 1 = .ok (.invokestatic 31, 3) := by decide +kernel
theorem dX6_putCell_4 : decode cX6_putCell 4 = .ok (.ifCond .eq 11, 3) := by decide +kernel
theorem dX6_putCell_7 : decode cX6_putCell 7 = .ok (.iload 4, 2) := by decide +kernel
theorem dX6_putCell_9 : decode cX6_putCell 9 = .ok (.invokestatic 85, 3) := by decide +kernel
theorem dX6_putCell_12 : decode cX6_putCell 12 = .ok (.ifCond .ne 5, 3) := by decide +kernel
theorem dX6_putCell_15 : decode cX6_putCell 15 = .ok (.iconst (-1), 1) := by decide +kernel
theorem dX6_putCell_16 : decode cX6_putCell 16 = .ok (.ireturn, 1) := by decide +kernel
theorem dX6_putCell_17 : decode cX6_putCell 17 = .ok (.aload_n 0, 1) := by decide +kernel
theorem dX6_putCell_18 : decode cX6_putCell 18 = .ok (.getfield 23, 3) := by decide +kernel
theorem dX6_putCell_21 : decode cX6_putCell 21 = .ok (.iload_n 1, 1) := by decide +kernel
theorem dX6_putCell_22 : decode cX6_putCell 22 = .ok (.iload_n 2, 1) := by decide +kernel
theorem dX6_putCell_23 : decode cX6_putCell 23 = .ok (.invokevirtual 35, 3) := by decide +kernel
theorem dX6_putCell_26 : decode cX6_putCell 26 = .ok (.astore 7, 2) := by decide +kernel
theorem dX6_putCell_28 : decode cX6_putCell 28 = .ok (.aload 7, 2) := by decide +kernel
theorem dX6_putCell_30 : decode cX6_putCell 30 = .ok (.ifnonnull 13, 3) := by decide +kernel
theorem dX6_putCell_33 : decode cX6_putCell 33 = .ok (.aload_n 0, 1) := by decide +kernel
theorem dX6_putCell_34 : decode cX6_putCell 34 = .ok (.getfield 23, 3) := by decide +kernel
theorem dX6_putCell_37 : decode cX6_putCell 37 = .ok (.iload_n 1, 1) := by decide +kernel
theorem dX6_putCell_38 : decode cX6_putCell 38 = .ok (.iload_n 2, 1) := by decide +kernel
theorem dX6_putCell_39 : decode cX6_putCell 39 = .ok (.invokevirtual 41, 3) := by decide +kernel
theorem dX6_putCell_42 : decode cX6_putCell 42 = .ok (.ireturn, 1) := by decide +kernel
theorem dX6_putCell_43 : decode cX6_putCell 43 = .ok (.aload 7, 2) := by decide +kernel
theorem dX6_putCell_45 : decode cX6_putCell 45 = .ok (.iload_n 3, 1) := by decide +kernel
theorem dX6_putCell_46 : decode cX6_putCell 46 = .ok (.invokevirtual 45, 3) := by decide +kernel
theorem dX6_putCell_49 : decode cX6_putCell 49 = .ok (.ifCond .ne 6, 3) := by decide +kernel
theorem dX6_putCell_52 : decode cX6_putCell 52 = .ok (.bipush (-6), 2) := by decide +kernel
theorem dX6_putCell_54 : decode cX6_putCell 54 = .ok (.ireturn, 1) := by decide +kernel
theorem dX6_putCell_55 : decode cX6_putCell 55 = .ok (.aload_n 0, 1) := by decide +kernel
theorem dX6_putCell_56 : decode cX6_putCell 56 = .ok (.getfield 14, 3) := by decide +kernel
theorem dX6_putCell_59 : decode cX6_putCell 59 = .ok (.iload 4, 2) := by decide +kernel
theorem dX6_putCell_61 : decode cX6_putCell 61 = .ok (.lload 5, 2) := by decide +kernel
theorem dX6_putCell_63 : decode cX6_putCell 63 = .ok (.invokevirtual 88, 3) := by decide +kernel
theorem dX6_putCell_66 : decode cX6_putCell 66 = .ok (.aload 7, 2) := by decide +kernel
theorem dX6_putCell_68 : decode cX6_putCell 68 = .ok (.iload_n 3, 1) := by decide +kernel
theorem dX6_putCell_69 : decode cX6_putCell 69 = .ok (.aload_n 0, 1) := by decide +kernel
theorem dX6_putCell_70 : decode cX6_putCell 70 = .ok (.getfield 14, 3) := by decide +kernel
theorem dX6_putCell_73 : decode cX6_putCell 73 = .ok (.iconst 0, 1) := by decide +kernel
theorem dX6_putCell_74 : decode cX6_putCell 74 = .ok (.invokevirtual 60, 3) := by decide +kernel
theorem dX6_putCell_77 : decode cX6_putCell 77 = .ok (.ifCond .eq 7, 3) := by decide +kernel
theorem dX6_putCell_80 : decode cX6_putCell 80 = .ok (.iconst 1, 1) := by decide +kernel
theorem dX6_putCell_81 : decode cX6_putCell 81 = .ok (.goto 5, 3) := by decide +kernel
theorem dX6_putCell_84 : decode cX6_putCell 84 = .ok (.bipush (-7), 2) := by decide +kernel
theorem dX6_putCell_86 : decode cX6_putCell 86 = .ok (.ireturn, 1) := by decide +kernel
theorem dX6_findValue_0 : decode cX6_findValue 0 = .ok (.iload_n 1, 1) := by decide +kernel
theorem dX6_findValue_1 : decode cX6_findValue 1 = .ok (.invokestatic 31, 3) := by decide +kernel
theorem dX6_findValue_4 : decode cX6_findValue 4 = .ok (.ifCond .eq 10, 3) := by decide +kernel
theorem dX6_findValue_7 : decode cX6_findValue 7 = .ok (.iload_n 3, 1) := by decide +kernel
theorem dX6_findValue_8 : decode cX6_findValue 8 = .ok (.invokestatic 85, 3) := by decide +kernel
theorem dX6_findValue_11 : decode cX6_findValue 11 = .ok (.ifCond .ne 5, 3) := by decide +kernel
theorem dX6_findValue_14 : decode cX6_findValue 14 = .ok (.iconst (-1), 1) := by decide +kernel
theorem dX6_findValue_15 : decode cX6_findValue 15 = .ok (.ireturn, 1) := by decide +kernel
theorem dX6_findValue_16 : decode cX6_findValue 16 = .ok (.aload_n 0, 1) := by decide +kernel
theorem dX6_findValue_17 : decode cX6_findValue 17 = .ok (.getfield 23, 3) := by decide +kernel
theorem dX6_findValue_20 : decode cX6_findValue 20 = .ok (.iload_n 1, 1) := by decide +kernel
theorem dX6_findValue_21 : decode cX6_findValue 21 = .ok (.iload_n 2, 1) := by decide +kernel
theorem dX6_findValue_22 : decode cX6_findValue 22 = .ok (.invokevirtual 35, 3) := by decide +kernel
theorem dX6_findValue_25 : decode cX6_findValue 25 = .ok (.astore 6, 2) := by decide +kernel
theorem dX6_findValue_27 : decode cX6_findValue 27 = .ok (.aload 6, 2) := by decide +kernel
theorem dX6_findValue_29 : decode cX6_findValue 29 = .ok (.ifnonnull 13, 3) := by decide +kernel
theorem dX6_findValue_32 : decode cX6_findValue 32 = .ok (.aload_n 0, 1) := by decide +kernel
theorem dX6_findValue_33 : decode cX6_findValue 33 = .ok (.getfield 23, 3) := by decide +kernel
theorem dX6_findValue_36 : decode cX6_findValue 36 = .ok (.iload_n 1, 1) := by decide +kernel
theorem dX6_findValue_37 : decode cX6_findValue 37 = .ok (.iload_n 2, 1) := by decide +kernel
theorem dX6_findValue_38 : decode cX6_findValue 38 = .ok (.invokevirtual 41, 3) := by decide +kernel
theorem dX6_findValue_41 : decode cX6_findValue 41 = .ok (.ireturn, 1) := by decide +kernel
theorem dX6_findValue_42 : decode cX6_findValue 42 = .ok (.aload_n 0, 1) := by decide +kernel
theorem dX6_findValue_43 : decode cX6_findValue 43 = .ok (.getfield 14, 3) := by decide +kernel
theorem dX6_findValue_46 : decode cX6_findValue 46 = .ok (.iload_n 3, 1) := by decide +kernel
theorem dX6_findValue_47 : decode cX6_findValue 47 = .ok (.lload 4, 2) := by decide +kernel
theorem dX6_findValue_49 : decode cX6_findValue 49 = .ok (.invokevirtual 88, 3) := by decide +kernel
theorem dX6_findValue_52 : decode cX6_findValue 52 = .ok (.iconst 0, 1) := by decide +kernel
theorem dX6_findValue_53 : decode cX6_findValue 53 = .ok (.istore 7, 2) := by decide +kernel
theorem dX6_findValue_55 : decode cX6_findValue 55 = .ok (.iload 7, 2) := by decide +kernel
theorem dX6_findValue_57 : decode cX6_findValue 57 = .ok (.aload 6, 2) := by decide +kernel
theorem dX6_findValue_59 : decode cX6_findValue 59 = .ok (.getfield 92, 3) := by decide +kernel
theorem dX6_findValue_62 : decode cX6_findValue 62 = .ok (.if_icmp .ge 27, 3) := by decide +kernel
theorem dX6_findValue_65 : decode cX6_findValue 65 = .ok (.aload 6, 2) := by decide +kernel
theorem dX6_findValue_67 : decode cX6_findValue 67 = .ok (.iload 7, 2) := by decide +kernel
theorem dX6_findValue_69 : decode cX6_findValue 69 = .ok (.aload_n 0, 1) := by decide +kernel
theorem dX6_findValue_70 : decode cX6_findValue 70 = .ok (.getfield 14, 3) := by decide +kernel
theorem dX6_findValue_73 : decode cX6_findValue 73 = .ok (.iconst 0, 1) := by decide +kernel
theorem dX6_findValue_74 : decode cX6_findValue 74 = .ok (.invokevirtual 95, 3) := by decide +kernel
theorem dX6_findValue_77 : decode cX6_findValue 77 = .ok (.ifCond .eq 6, 3) := by decide +kernel
theorem dX6_findValue_80 : decode cX6_findValue 80 = .ok (.iload 7, 2) := by decide +kernel
theorem dX6_findValue_82 : decode cX6_findValue 82 = .ok (.ireturn, 1) := by decide +kernel
theorem dX6_findValue_83 : decode cX6_findValue 83 = .ok (.iinc 7 1, 3) := by decide +kernel
theorem dX6_findValue_86 : decode cX6_findValue 86 = .ok (.goto (-31), 3) := by decide +kernel
theorem dX6_findValue_89 : decode cX6_findValue 89 = .ok (.bipush (-9), 2) := by decide +kernel
theorem dX6_findValue_91 : decode cX6_findValue 91 = .ok (.ireturn, 1) := by decide +kernel
theorem dX6_countMatches_0 : decode cX6_countMatches 0 = .ok (.iload_n 1, 1) := by decide +kernel
theorem dX6_countMatches_1 : decode cX6_countMatches 1 = .ok (.invokestatic 31, 3) := by decide +kernel
theorem dX6_countMatches_4 : decode cX6_countMatches 4 = .ok (.ifCond .eq 10, 3) := by decide +kernel
theorem dX6_countMatches_7 : decode cX6_countMatches 7 = .ok (.iload_n 3, 1) := by decide +kernel
theorem dX6_countMatches_8 : decode cX6_countMatches 8 = .ok (.invokestatic 31, 3) := by decide +kernel
theorem dX6_countMatches_11 : decode cX6_countMatches 11 = .ok (.ifCond .ne 5, 3) := by decide +kernel
theorem dX6_countMatches_14 : decode cX6_countMatches 14 = .ok (.iconst (-1), 1) := by decide +kernel
theorem dX6_countMatches_15 : decode cX6_countMatches 15 = .ok (.ireturn, 1) := by decide +kernel
theorem dX6_countMatches_16 : decode cX6_countMatches 16 = .ok (.aload_n 0, 1) := by decide +kernel
theorem dX6_countMatches_17 : decode cX6_countMatches 17 = .ok (.getfield 23, 3) := by decide +kernel
theorem dX6_countMatches_20 : decode cX6_countMatches 20 = .ok (.iload_n 1, 1) := by decide +kernel
theorem dX6_countMatches_21 : decode cX6_countMatches 21 = .ok (.iload_n 2, 1) := by decide +kernel
theorem dX6_countMatches_22 : decode cX6_countMatches 22 = .ok (.invokevirtual 35, 3) := by decide +kernel
theorem dX6_countMatches_25 : decode cX6_countMatches 25 = .ok (.astore 5, 2) := by decide +kernel
theorem dX6_countMatches_27 : decode cX6_countMatches 27 = .ok (.aload 5, 2) := by decide +kernel
theorem dX6_countMatches_29 : decode cX6_countMatches 29 = .ok (.ifnonnull 13, 3) := by decide +kernel
theorem dX6_countMatches_32 : decode cX6_countMatches 32 = .ok (.aload_n 0, 1) := by decide +kernel
theorem dX6_countMatches_33 : decode cX6_countMatches 33 = .ok (.getfield 23, 3) := by decide +kernel
theorem dX6_countMatches_36 : decode cX6_countMatches 36 = .ok (.iload_n 1, 1) := by decide +kernel
theorem dX6_countMatches_37 : decode cX6_countMatches 37 = .ok (.iload_n 2, 1) := by decide +kernel
theorem dX6_countMatches_38 : decode cX6_countMatches 38 = .ok (.invokevirtual 41, 3) := by decide +kernel
theorem dX6_countMatches_41 : decode cX6_countMatches 41 = .ok (.ireturn, 1) := by decide +kernel
theorem dX6_countMatches_42 : decode cX6_countMatches 42 = .ok (.aload_n 0, 1) := by decide +kernel
theorem dX6_countMatches_43 : decode cX6_countMatches 43 = .ok (.getfield 23, 3) := by decide +kernel
theorem dX6_countMatches_46 : decode cX6_countMatches 46 = .ok (.iload_n 3, 1) := by decide +kernel
theorem dX6_countMatches_47 : decode cX6_countMatches 47 = .ok (.iload 4, 2) := by decide +kernel
theorem dX6_countMatches_49 : decode cX6_countMatches 49 = .ok (.invokevirtual 35, 3) := by decide +kernel
theorem dX6_countMatches_52 : decode cX6_countMatches 52 = .ok (.astore 6, 2) := by decide +kernel
theorem dX6_countMatches_54 : decode cX6_countMatches 54 = .ok (.aload 6, 2) := by decide +kernel
theorem dX6_countMatches_56 : decode cX6_countMatches 56 = .ok (.ifnonnull 14, 3) := by decide +kernel
theorem dX6_countMatches_59 : decode cX6_countMatches 59 = .ok (.aload_n 0, 1) := by decide +kernel
theorem dX6_countMatches_60 : decode cX6_countMatches 60 = .ok (.getfield 23, 3) := by decide +kernel
theorem dX6_countMatches_63 : decode cX6_countMatches 63 = .ok (.iload_n 3, 1) := by decide +kernel
theorem dX6_countMatches_64 : decode cX6_countMatches 64 = .ok (.iload 4, 2) := by decide +kernel
theorem dX6_countMatches_66 : decode cX6_countMatches 66 = .ok (.invokevirtual 41, 3) := by decide +kernel
theorem dX6_countMatches_69 : decode cX6_countMatches 69 = .ok (.ireturn, 1) := by decide +kernel
theorem dX6_countMatches_70 : decode cX6_countMatches 70 = .ok (.iconst 0, 1) := by decide +kernel
theorem dX6_countMatches_71 : decode cX6_countMatches 71 = .ok (.istore 7, 2) := by decide +kernel
theorem dX6_countMatches_73 : decode cX6_countMatches 73 = .ok (.iconst 0, 1) := by decide +kernel
theorem dX6_countMatches_74 : decode cX6_countMatches 74 = .ok (.istore 8, 2) := by decide +kernel
theorem dX6_countMatches_76 : decode cX6_countMatches 76 = .ok (.iload 8, 2) := by decide +kernel
theorem dX6_countMatches_78 : decode cX6_countMatches 78 = .ok (.aload 5, 2) := by decide +kernel
theorem dX6_countMatches_80 : decode cX6_countMatches 80 = .ok (.getfield 92, 3) := by decide +kernel
theorem dX6_countMatches_83 : decode cX6_countMatches 83 = .ok (.if_icmp .ge 43, 3) := by decide +kernel
theorem dX6_countMatches_86 : decode cX6_countMatches 86 = .ok (.iload 8, 2) := by decide +kernel
theorem dX6_countMatches_88 : decode cX6_countMatches 88 = .ok (.aload 6, 2) := by decide +kernel
theorem dX6_countMatches_90 : decode cX6_countMatches 90 = .ok (.getfield 92, 3) := by decide +kernel
theorem dX6_countMatches_93 : decode cX6_countMatches 93 = .ok (.if_icmp .ge 33, 3) := by decide +kernel
theorem dX6_countMatches_96 : decode cX6_countMatches 96 = .ok (.iload 7, 2) := by decide +kernel
theorem dX6_countMatches_98 : decode cX6_countMatches 98 = .ok (.aload 5, 2) := by decide +kernel
theorem dX6_countMatches_100 : decode cX6_countMatches 100 = .ok (.iload 8, 2) := by decide +kernel
theorem dX6_countMatches_102 : decode cX6_countMatches 102 = .ok (.aload 6, 2) := by decide +kernel
theorem dX6_countMatches_104 : decode cX6_countMatches 104 = .ok (.iload 8, 2) := by decide +kernel
theorem dX6_countMatches_106 : decode cX6_countMatches 106 = .ok (.invokevirtual 95, 3) := by decide +kernel
theorem dX6_countMatches_109 : decode cX6_countMatches 109 = .ok (.ifCond .eq 7, 3) := by decide +kernel
theorem dX6_countMatches_112 : decode cX6_countMatches 112 = .ok (.iconst 1, 1) := by decide +kernel
theorem dX6_countMatches_113 : decode cX6_countMatches 113 = .ok (.goto 4, 3) := by decide +kernel
theorem dX6_countMatches_116 : decode cX6_countMatches 116 = .ok (.iconst 0, 1) := by decide +kernel
theorem dX6_countMatches_117 : decode cX6_countMatches 117 = .ok (.iadd, 1) := by decide +kernel
theorem dX6_countMatches_118 : decode cX6_countMatches 118 = .ok (.istore 7, 2) := by decide +kernel
theorem dX6_countMatches_120 : decode cX6_countMatches 120 = .ok (.iinc 8 1, 3) := by decide +kernel
theorem dX6_countMatches_123 : decode cX6_countMatches 123 = .ok (.goto (-47), 3) := by decide +kernel
theorem dX6_countMatches_126 : decode cX6_countMatches 126 = .ok (.iload 7, 2) := by decide +kernel
theorem dX6_countMatches_128 : decode cX6_countMatches 128 = .ok (.ireturn, 1) := by decide +kernel
theorem dX6_cutOut_0 : decode cX6_cutOut 0 = .ok (.iload_n 1, 1) := by decide +kernel
theorem dX6_cutOut_1 : decode cX6_cutOut 1 = .ok (.invokestatic 31, 3) := by decide +kernel
theorem dX6_cutOut_4 : decode cX6_cutOut 4 = .ok (.ifCond .eq 15, 3) := by decide +kernel
theorem dX6_cutOut_7 : decode cX6_cutOut 7 = .ok (.iload 4, 2) := by decide +kernel
theorem dX6_cutOut_9 : decode cX6_cutOut 9 = .ok (.ifCond .lt 10, 3) := by decide +kernel
theorem dX6_cutOut_12 : decode cX6_cutOut 12 = .ok (.iload 4, 2) := by decide +kernel
theorem dX6_cutOut_14 : decode cX6_cutOut 14 = .ok (.bipush 12, 2) := by decide +kernel
theorem dX6_cutOut_16 : decode cX6_cutOut 16 = .ok (.if_icmp .le 5, 3) := by decide +kernel
theorem dX6_cutOut_19 : decode cX6_cutOut 19 = .ok (.iconst (-1), 1) := by decide +kernel
theorem dX6_cutOut_20 : decode cX6_cutOut 20 = .ok (.ireturn, 1) := by decide +kernel
theorem dX6_cutOut_21 : decode cX6_cutOut 21 = .ok (.aload_n 0, 1) := by decide +kernel
theorem dX6_cutOut_22 : decode cX6_cutOut 22 = .ok (.getfield 23, 3) := by decide +kernel
theorem dX6_cutOut_25 : decode cX6_cutOut 25 = .ok (.iload_n 1, 1) := by decide +kernel
theorem dX6_cutOut_26 : decode cX6_cutOut 26 = .ok (.iload_n 2, 1) := by decide +kernel
theorem dX6_cutOut_27 : decode cX6_cutOut 27 = .ok (.invokevirtual 35, 3) := by decide +kernel
theorem dX6_cutOut_30 : decode cX6_cutOut 30 = .ok (.astore 6, 2) := by decide +kernel
theorem dX6_cutOut_32 : decode cX6_cutOut 32 = .ok (.aload 6, 2) := by decide +kernel
theorem dX6_cutOut_34 : decode cX6_cutOut 34 = .ok (.ifnonnull 13, 3) := by decide +kernel
theorem dX6_cutOut_37 : decode cX6_cutOut 37 = .ok (.aload_n 0, 1) := by decide +kernel
theorem dX6_cutOut_38 : decode cX6_cutOut 38 = .ok (.getfield 23, 3) := by decide +kernel
theorem dX6_cutOut_41 : decode cX6_cutOut 41 = .ok (.iload_n 1, 1) := by decide +kernel
theorem dX6_cutOut_42 : decode cX6_cutOut 42 = .ok (.iload_n 2, 1) := by decide +kernel
theorem dX6_cutOut_43 : decode cX6_cutOut 43 = .ok (.invokevirtual 41, 3) := by decide +kernel
theorem dX6_cutOut_46 : decode cX6_cutOut 46 = .ok (.ireturn, 1) := by decide +kernel
theorem dX6_cutOut_47 : decode cX6_cutOut 47 = .ok (.iload_n 3, 1) := by decide +kernel
theorem dX6_cutOut_48 : decode cX6_cutOut 48 = .ok (.ifCond .lt 15, 3) := by decide +kernel
theorem dX6_cutOut_51 : decode cX6_cutOut 51 = .ok (.iload_n 3, 1) := by decide +kernel
theorem dX6_cutOut_52 : decode cX6_cutOut 52 = .ok (.aload 6, 2) := by decide +kernel
theorem dX6_cutOut_54 : decode cX6_cutOut 54 = .ok (.getfield 92, 3) := by decide +kernel
theorem dX6_cutOut_57 : decode cX6_cutOut 57 = .ok (.iload 4, 2) := by decide +kernel
theorem dX6_cutOut_59 : decode cX6_cutOut 59 = .ok (.isub, 1) := by decide +kernel
theorem dX6_cutOut_60 : decode cX6_cutOut 60 = .ok (.if_icmp .le 6, 3) := by decide +kernel
theorem dX6_cutOut_63 : decode cX6_cutOut 63 = .ok (.bipush (-6), 2) := by decide +kernel
theorem dX6_cutOut_65 : decode cX6_cutOut 65 = .ok (.ireturn, 1) := by decide +kernel
theorem dX6_cutOut_66 : decode cX6_cutOut 66 = .ok (.aload_n 0, 1) := by decide +kernel
theorem dX6_cutOut_67 : decode cX6_cutOut 67 = .ok (.getfield 23, 3) := by decide +kernel
theorem dX6_cutOut_70 : decode cX6_cutOut 70 = .ok (.iload_n 1, 1) := by decide +kernel
theorem dX6_cutOut_71 : decode cX6_cutOut 71 = .ok (.iload 5, 2) := by decide +kernel
theorem dX6_cutOut_73 : decode cX6_cutOut 73 = .ok (.invokevirtual 98, 3) := by decide +kernel
theorem dX6_cutOut_76 : decode cX6_cutOut 76 = .ok (.ifCond .ne 6, 3) := by decide +kernel
theorem dX6_cutOut_79 : decode cX6_cutOut 79 = .ok (.bipush (-3), 2) := by decide +kernel
theorem dX6_cutOut_81 : decode cX6_cutOut 81 = .ok (.ireturn, 1) := by decide +kernel
theorem dX6_cutOut_82 : decode cX6_cutOut 82 = .ok (.aload_n 0, 1) := by decide +kernel
theorem dX6_cutOut_83 : decode cX6_cutOut 83 = .ok (.getfield 23, 3) := by decide +kernel
theorem dX6_cutOut_86 : decode cX6_cutOut 86 = .ok (.aload 6, 2) := by decide +kernel
theorem dX6_cutOut_88 : decode cX6_cutOut 88 = .ok (.getfield 48, 3) := by decide +kernel
theorem dX6_cutOut_91 : decode cX6_cutOut 91 = .ok (.iload 4, 2) := by decide +kernel
theorem dX6_cutOut_93 : decode cX6_cutOut 93 = .ok (.invokevirtual 101, 3) := by decide +kernel
theorem dX6_cutOut_96 : decode cX6_cutOut 96 = .ok (.astore 7, 2) := by decide +kernel
theorem dX6_cutOut_98 : decode cX6_cutOut 98 = .ok (.aload 7, 2) := by decide +kernel
theorem dX6_cutOut_100 : decode cX6_cutOut 100 = .ok (.iconst 0, 1) := by decide +kernel
theorem dX6_cutOut_101 : decode cX6_cutOut 101 = .ok (.aload 6, 2) := by decide +kernel
theorem dX6_cutOut_103 : decode cX6_cutOut 103 = .ok (.iload_n 3, 1) := by decide +kernel
theorem dX6_cutOut_104 : decode cX6_cutOut 104 = .ok (.iload 4, 2) := by decide +kernel
theorem dX6_cutOut_106 : decode cX6_cutOut 106 = .ok (.invokestatic 104, 3) := by decide +kernel
theorem dX6_cutOut_109 : decode cX6_cutOut 109 = .ok (.aload_n 0, 1) := by decide +kernel
theorem dX6_cutOut_110 : decode cX6_cutOut 110 = .ok (.getfield 23, 3) := by decide +kernel
theorem dX6_cutOut_113 : decode cX6_cutOut 113 = .ok (.iload_n 1, 1) := by decide +kernel
theorem dX6_cutOut_114 : decode cX6_cutOut 114 = .ok (.iload 5, 2) := by decide +kernel
theorem dX6_cutOut_116 : decode cX6_cutOut 116 = .ok (.aload 7, 2) := by decide +kernel
theorem dX6_cutOut_118 : decode cX6_cutOut 118 = .ok (.invokevirtual 108, 3) := by decide +kernel
theorem dX6_cutOut_121 : decode cX6_cutOut 121 = .ok (.iload 4, 2) := by decide +kernel
theorem dX6_cutOut_123 : decode cX6_cutOut 123 = .ok (.ireturn, 1) := by decide +kernel
theorem dX6_append_0 : decode cX6_append 0 = .ok (.iconst 0, 1) := by decide +kernel
theorem dX6_append_1 : decode cX6_append 1 = .ok (.istore 5, 2) := by decide +kernel
theorem dX6_append_3 : decode cX6_append 3 = .ok (.iload 5, 2) := by decide +kernel
theorem dX6_append_5 : decode cX6_append 5 = .ok (.iload 4, 2) := by decide +kernel
theorem dX6_append_7 : decode cX6_append 7 = .ok (.if_icmp .ge 23, 3) := by decide +kernel
theorem dX6_append_10 : decode cX6_append 10 = .ok (.aload_n 0, 1) := by decide +kernel
theorem dX6_append_11 : decode cX6_append 11 = .ok (.iload_n 1, 1) := by decide +kernel
theorem dX6_append_12 : decode cX6_append 12 = .ok (.iload 5, 2) := by decide +kernel
theorem dX6_append_14 : decode cX6_append 14 = .ok (.iadd, 1) := by decide +kernel
theorem dX6_append_15 : decode cX6_append 15 = .ok (.aload_n 2, 1) := by decide +kernel
theorem dX6_append_16 : decode cX6_append 16 = .ok (.iload_n 3, 1) := by decide +kernel
theorem dX6_append_17 : decode cX6_append 17 = .ok (.iload 5, 2) := by decide +kernel
theorem dX6_append_19 : decode cX6_append 19 = .ok (.iadd, 1) := by decide +kernel
theorem dX6_append_20 : decode cX6_append 20 = .ok (.invokevirtual 60, 3) := by decide +kernel
theorem dX6_append_23 : decode cX6_append 23 = .ok (.pop, 1) := by decide +kernel
theorem dX6_append_24 : decode cX6_append 24 = .ok (.iinc 5 1, 3) := by decide +kernel
theorem dX6_append_27 : decode cX6_append 27 = .ok (.goto (-24), 3) := by decide +kernel
theorem dX6_append_30 : decode cX6_append 30 = .ok (.return_, 1) := by decide +kernel
theorem dX6_castRow_0 : decode cX6_castRow 0 = .ok (.iload_n 1, 1) := by decide +kernel
theorem dX6_castRow_1 : decode cX6_castRow 1 = .ok (.invokestatic 31, 3) := by decide +kernel
theorem dX6_castRow_4 : decode cX6_castRow 4 = .ok (.ifCond .eq 10, 3) := by decide +kernel
theorem dX6_castRow_7 : decode cX6_castRow 7 = .ok (.iload_n 3, 1) := by decide +kernel
theorem dX6_castRow_8 : decode cX6_castRow 8 = .ok (.invokestatic 112, 3) := by decide +kernel
theorem dX6_castRow_11 : decode cX6_castRow 11 = .ok (.ifCond .ne 5, 3) := by decide +kernel
theorem dX6_castRow_14 : decode cX6_castRow 14 = .ok (.iconst (-1), 1) := by decide +kernel
theorem dX6_castRow_15 : decode cX6_castRow 15 = .ok (.ireturn, 1) := by decide +kernel
theorem dX6_castRow_16 : decode cX6_castRow 16 = .ok (.aload_n 0, 1) := by decide +kernel
theorem dX6_castRow_17 : decode cX6_castRow 17 = .ok (.getfield 23, 3) := by decide +kernel
theorem dX6_castRow_20 : decode cX6_castRow 20 = .ok (.iload_n 1, 1) := by decide +kernel
theorem dX6_castRow_21 : decode cX6_castRow 21 = .ok (.iload_n 2, 1) := by decide +kernel
theorem dX6_castRow_22 : decode cX6_castRow 22 = .ok (.invokevirtual 35, 3) := by decide +kernel
theorem dX6_castRow_25 : decode cX6_castRow 25 = .ok (.astore 4, 2) := by decide +kernel
theorem dX6_castRow_27 : decode cX6_castRow 27 = .ok (.aload 4, 2) := by decide +kernel
theorem dX6_castRow_29 : decode cX6_castRow 29 = .ok (.ifnonnull 13, 3) := by decide +kernel
theorem dX6_castRow_32 : decode cX6_castRow 32 = .ok (.aload_n 0, 1) := by decide +kernel
theorem dX6_castRow_33 : decode cX6_castRow 33 = .ok (.getfield 23, 3) := by decide +kernel
theorem dX6_castRow_36 : decode cX6_castRow 36 = .ok (.iload_n 1, 1) := by decide +kernel
theorem dX6_castRow_37 : decode cX6_castRow 37 = .ok (.iload_n 2, 1) := by decide +kernel
theorem dX6_castRow_38 : decode cX6_castRow 38 = .ok (.invokevirtual 41, 3) := by decide +kernel
theorem dX6_castRow_41 : decode cX6_castRow 41 = .ok (.ireturn, 1) := by decide +kernel
theorem dX6_castRow_42 : decode cX6_castRow 42 = .ok (.aload_n 0, 1) := by decide +kernel
theorem dX6_castRow_43 : decode cX6_castRow 43 = .ok (.getfield 23, 3) := by decide +kernel
theorem dX6_castRow_46 : decode cX6_castRow 46 = .ok (.iload_n 3, 1) := by decide +kernel
theorem dX6_castRow_47 : decode cX6_castRow 47 = .ok (.aload 4, 2) := by decide +kernel
theorem dX6_castRow_49 : decode cX6_castRow 49 = .ok (.getfield 92, 3) := by decide +kernel
theorem dX6_castRow_52 : decode cX6_castRow 52 = .ok (.invokevirtual 101, 3) := by decide +kernel
theorem dX6_castRow_55 : decode cX6_castRow 55 = .ok (.astore 5, 2) := by decide +kernel
theorem dX6_castRow_57 : decode cX6_castRow 57 = .ok (.iconst 0, 1) := by decide +kernel
theorem dX6_castRow_58 : decode cX6_castRow 58 = .ok (.istore 6, 2) := by decide +kernel
theorem dX6_castRow_60 : decode cX6_castRow 60 = .ok (.iload 6, 2) := by decide +kernel
theorem dX6_castRow_62 : decode cX6_castRow 62 = .ok (.aload 4, 2) := by decide +kernel
theorem dX6_castRow_64 : decode cX6_castRow 64 = .ok (.getfield 92, 3) := by decide +kernel
theorem dX6_castRow_67 : decode cX6_castRow 67 = .ok (.if_icmp .ge 35, 3) := by decide +kernel
theorem dX6_castRow_70 : decode cX6_castRow 70 = .ok (.aload 5, 2) := by decide +kernel
theorem dX6_castRow_72 : decode cX6_castRow 72 = .ok (.iload 6, 2) := by decide +kernel
theorem dX6_castRow_74 : decode cX6_castRow 74 = .ok (.aload 4, 2) := by decide +kernel
theorem dX6_castRow_76 : decode cX6_castRow 76 = .ok (.iload 6, 2) := by decide +kernel
theorem dX6_castRow_78 : decode cX6_castRow 78 = .ok (.invokevirtual 60, 3) := by decide +kernel
theorem dX6_castRow_81 : decode cX6_castRow 81 = .ok (.ifCond .ne 15, 3) := by decide +kernel
theorem dX6_castRow_84 : decode cX6_castRow 84 = .ok (.aload_n 0, 1) := by decide +kernel
theorem dX6_castRow_85 : decode cX6_castRow 85 = .ok (.getfield 27, 3) := by decide +kernel
theorem dX6_castRow_88 : decode cX6_castRow 88 = .ok (.iload 6, 2) := by decide +kernel
theorem dX6_castRow_90 : decode cX6_castRow 90 = .ok (.putfield 115, 3) := by decide +kernel
theorem dX6_castRow_93 : decode cX6_castRow 93 = .ok (.bipush (-7), 2) := by decide +kernel
theorem dX6_castRow_95 : decode cX6_castRow 95 = .ok (.ireturn, 1) := by decide +kernel
theorem dX6_castRow_96 : decode cX6_castRow 96 = .ok (.iinc 6 1, 3) := by decide +kernel
theorem dX6_castRow_99 : decode cX6_castRow 99 = .ok (.goto (-39), 3) := by decide +kernel
theorem dX6_castRow_102 : decode cX6_castRow 102 = .ok (.aload_n 0, 1) := by decide +kernel
theorem dX6_castRow_103 : decode cX6_castRow 103 = .ok (.getfield 23, 3) := by decide +kernel
theorem dX6_castRow_106 : decode cX6_castRow 106 = .ok (.iload_n 1, 1) := by decide +kernel
theorem dX6_castRow_107 : decode cX6_castRow 107 = .ok (.iload_n 2, 1) := by decide +kernel
theorem dX6_castRow_108 : decode cX6_castRow 108 = .ok (.aload 5, 2) := by decide +kernel
theorem dX6_castRow_110 : decode cX6_castRow 110 = .ok (.invokevirtual 108, 3) := by decide +kernel
theorem dX6_castRow_113 : decode cX6_castRow 113 = .ok (.aload 5, 2) := by decide +kernel
theorem dX6_castRow_115 : decode cX6_castRow 115 = .ok (.getfield 92, 3) := by decide +kernel
theorem dX6_castRow_118 : decode cX6_castRow 118 = .ok (.ireturn, 1) := by decide +kernel
theorem dX6_pourInto_0 : decode cX6_pourInto 0 = .ok (.iload_n 1, 1) := by decide +kernel
theorem dX6_pourInto_1 : decode cX6_pourInto 1 = .ok (.invokestatic 31, 3) := by decide +kernel
theorem dX6_pourInto_4 : decode cX6_pourInto 4 = .ok (.ifCond .eq 10, 3) := by decide +kernel
theorem dX6_pourInto_7 : decode cX6_pourInto 7 = .ok (.iload_n 3, 1) := by decide +kernel
theorem dX6_pourInto_8 : decode cX6_pourInto 8 = .ok (.invokestatic 31, 3) := by decide +kernel
theorem dX6_pourInto_11 : decode cX6_pourInto 11 = .ok (.ifCond .ne 5, 3) := by decide +kernel
theorem dX6_pourInto_14 : decode cX6_pourInto 14 = .ok (.iconst (-1), 1) := by decide +kernel
theorem dX6_pourInto_15 : decode cX6_pourInto 15 = .ok (.ireturn, 1) := by decide +kernel
theorem dX6_pourInto_16 : decode cX6_pourInto 16 = .ok (.aload_n 0, 1) := by decide +kernel
theorem dX6_pourInto_17 : decode cX6_pourInto 17 = .ok (.getfield 23, 3) := by decide +kernel
theorem dX6_pourInto_20 : decode cX6_pourInto 20 = .ok (.iload_n 1, 1) := by decide +kernel
theorem dX6_pourInto_21 : decode cX6_pourInto 21 = .ok (.iload_n 2, 1) := by decide +kernel
theorem dX6_pourInto_22 : decode cX6_pourInto 22 = .ok (.invokevirtual 35, 3) := by decide +kernel
theorem dX6_pourInto_25 : decode cX6_pourInto 25 = .ok (.astore 5, 2) := by decide +kernel
theorem dX6_pourInto_27 : decode cX6_pourInto 27 = .ok (.aload 5, 2) := by decide +kernel
theorem dX6_pourInto_29 : decode cX6_pourInto 29 = .ok (.ifnonnull 13, 3) := by decide +kernel
theorem dX6_pourInto_32 : decode cX6_pourInto 32 = .ok (.aload_n 0, 1) := by decide +kernel
theorem dX6_pourInto_33 : decode cX6_pourInto 33 = .ok (.getfield 23, 3) := by decide +kernel
theorem dX6_pourInto_36 : decode cX6_pourInto 36 = .ok (.iload_n 1, 1) := by decide +kernel
theorem dX6_pourInto_37 : decode cX6_pourInto 37 = .ok (.iload_n 2, 1) := by decide +kernel
theorem dX6_pourInto_38 : decode cX6_pourInto 38 = .ok (.invokevirtual 41, 3) := by decide +kernel
theorem dX6_pourInto_41 : decode cX6_pourInto 41 = .ok (.ireturn, 1) := by decide +kernel
theorem dX6_pourInto_42 : decode cX6_pourInto 42 = .ok (.aload_n 0, 1) := by decide +kernel
theorem dX6_pourInto_43 : decode cX6_pourInto 43 = .ok (.getfield 23, 3) := by decide +kernel
theorem dX6_pourInto_46 : decode cX6_pourInto 46 = .ok (.iload_n 3, 1) := by decide +kernel
theorem dX6_pourInto_47 : decode cX6_pourInto 47 = .ok (.iload 4, 2) := by decide +kernel
theorem dX6_pourInto_49 : decode cX6_pourInto 49 = .ok (.invokevirtual 35, 3) := by decide +kernel
theorem dX6_pourInto_52 : decode cX6_pourInto 52 = .ok (.astore 6, 2) := by decide +kernel
theorem dX6_pourInto_54 : decode cX6_pourInto 54 = .ok (.aload 6, 2) := by decide +kernel
theorem dX6_pourInto_56 : decode cX6_pourInto 56 = .ok (.ifnonnull 14, 3) := by decide +kernel
theorem dX6_pourInto_59 : decode cX6_pourInto 59 = .ok (.aload_n 0, 1) := by decide +kernel
theorem dX6_pourInto_60 : decode cX6_pourInto 60 = .ok (.getfield 23, 3) := by decide +kernel
theorem dX6_pourInto_63 : decode cX6_pourInto 63 = .ok (.iload_n 3, 1) := by decide +kernel
theorem dX6_pourInto_64 : decode cX6_pourInto 64 = .ok (.iload 4, 2) := by decide +kernel
theorem dX6_pourInto_66 : decode cX6_pourInto 66 = .ok (.invokevirtual 41, 3) := by decide +kernel
theorem dX6_pourInto_69 : decode cX6_pourInto 69 = .ok (.ireturn, 1) := by decide +kernel
theorem dX6_pourInto_70 : decode cX6_pourInto 70 = .ok (.iconst 0, 1) := by decide +kernel
theorem dX6_pourInto_71 : decode cX6_pourInto 71 = .ok (.istore 7, 2) := by decide +kernel
theorem dX6_pourInto_73 : decode cX6_pourInto 73 = .ok (.aload_n 0, 1) := by decide +kernel
theorem dX6_pourInto_74 : decode cX6_pourInto 74 = .ok (.getfield 27, 3) := by decide +kernel
theorem dX6_pourInto_77 : decode cX6_pourInto 77 = .ok (.bipush (-9), 2) := by decide +kernel
theorem dX6_pourInto_79 : decode cX6_pourInto 79 = .ok (.putfield 115, 3) := by decide +kernel
theorem dX6_pourInto_82 : decode cX6_pourInto 82 = .ok (.iconst 0, 1) := by decide +kernel
theorem dX6_pourInto_83 : decode cX6_pourInto 83 = .ok (.istore 8, 2) := by decide +kernel
theorem dX6_pourInto_85 : decode cX6_pourInto 85 = .ok (.iload 8, 2) := by decide +kernel
theorem dX6_pourInto_87 : decode cX6_pourInto 87 = .ok (.aload 5, 2) := by decide +kernel
theorem dX6_pourInto_89 : decode cX6_pourInto 89 = .ok (.getfield 92, 3) := by decide +kernel
theorem dX6_pourInto_92 : decode cX6_pourInto 92 = .ok (.if_icmp .ge 60, 3) := by decide +kernel
theorem dX6_pourInto_95 : decode cX6_pourInto 95 = .ok (.iload 8, 2) := by decide +kernel
theorem dX6_pourInto_97 : decode cX6_pourInto 97 = .ok (.aload 6, 2) := by decide +kernel
theorem dX6_pourInto_99 : decode cX6_pourInto 99 = .ok (.getfield 92, 3) := by decide +kernel
theorem dX6_pourInto_102 : decode cX6_pourInto 102 = .ok (.if_icmp .ge 50, 3) := by decide +kernel
theorem dX6_pourInto_105 : decode cX6_pourInto 105 = .ok (.aload 6, 2) := by decide +kernel
theorem dX6_pourInto_107 : decode cX6_pourInto 107 = .ok (.iload 8, 2) := by decide +kernel
theorem dX6_pourInto_109 : decode cX6_pourInto 109 = .ok (.aload 5, 2) := by decide +kernel
theorem dX6_pourInto_111 : decode cX6_pourInto 111 = .ok (.iload 8, 2) := by decide +kernel
theorem dX6_pourInto_113 : decode cX6_pourInto 113 = .ok (.invokevirtual 60, 3) := by decide +kernel
theorem dX6_pourInto_116 : decode cX6_pourInto 116 = .ok (.ifCond .eq 9, 3) := by decide +kernel
theorem dX6_pourInto_119 : decode cX6_pourInto 119 = .ok (.iinc 7 1, 3) := by decide +kernel
theorem dX6_pourInto_122 : decode cX6_pourInto 122 = .ok (.goto 24, 3) := by decide +kernel
theorem dX6_pourInto_125 : decode cX6_pourInto 125 = .ok (.aload_n 0, 1) := by decide +kernel
theorem dX6_pourInto_126 : decode cX6_pourInto 126 = .ok (.getfield 27, 3) := by decide +kernel
theorem dX6_pourInto_129 : decode cX6_pourInto 129 = .ok (.getfield 115, 3) := by decide +kernel
theorem dX6_pourInto_132 : decode cX6_pourInto 132 = .ok (.bipush (-9), 2) := by decide +kernel
theorem dX6_pourInto_134 : decode cX6_pourInto 134 = .ok (.if_icmp .ne 12, 3) := by decide +kernel
theorem dX6_pourInto_137 : decode cX6_pourInto 137 = .ok (.aload_n 0, 1) := by decide +kernel
theorem dX6_pourInto_138 : decode cX6_pourInto 138 = .ok (.getfield 27, 3) := by decide +kernel
theorem dX6_pourInto_141 : decode cX6_pourInto 141 = .ok (.iload 8, 2) := by decide +kernel
theorem dX6_pourInto_143 : decode cX6_pourInto 143 = .ok (.putfield 115, 3) := by decide +kernel
theorem dX6_pourInto_146 : decode cX6_pourInto 146 = .ok (.iinc 8 1, 3) := by decide +kernel
theorem dX6_pourInto_149 : decode cX6_pourInto 149 = .ok (.goto (-64), 3) := by decide +kernel
theorem dX6_pourInto_152 : decode cX6_pourInto 152 = .ok (.iload 7, 2) := by decide +kernel
theorem dX6_pourInto_154 : decode cX6_pourInto 154 = .ok (.ireturn, 1) := by decide +kernel
theorem dX6_joinRows_0 : decode cX6_joinRows 0 = .ok (.aload_n 0, 1) := by decide +kernel
theorem dX6_joinRows_1 : decode cX6_joinRows 1 = .ok (.getfield 23, 3) := by decide +kernel
theorem dX6_joinRows_4 : decode cX6_joinRows 4 = .ok (.iload_n 1, 1) := by decide +kernel
theorem dX6_joinRows_5 : decode cX6_joinRows 5 = .ok (.iload_n 2, 1) := by decide +kernel
theorem dX6_joinRows_6 : decode cX6_joinRows 6 = .ok (.invokevirtual 35, 3) := by decide +kernel
theorem dX6_joinRows_9 : decode cX6_joinRows 9 = .ok (.astore 4, 2) := by decide +kernel
theorem dX6_joinRows_11 : decode cX6_joinRows 11 = .ok (.aload 4, 2) := by decide +kernel
theorem dX6_joinRows_13 : decode cX6_joinRows 13 = .ok (.ifnonnull 13, 3) := by decide +kernel
theorem dX6_joinRows_16 : decode cX6_joinRows 16 = .ok (.aload_n 0, 1) := by decide +kernel
theorem dX6_joinRows_17 : decode cX6_joinRows 17 = .ok (.getfield 23, 3) := by decide +kernel
theorem dX6_joinRows_20 : decode cX6_joinRows 20 = .ok (.iload_n 1, 1) := by decide +kernel
theorem dX6_joinRows_21 : decode cX6_joinRows 21 = .ok (.iload_n 2, 1) := by decide +kernel
theorem dX6_joinRows_22 : decode cX6_joinRows 22 = .ok (.invokevirtual 41, 3) := by decide +kernel
theorem dX6_joinRows_25 : decode cX6_joinRows 25 = .ok (.ireturn, 1) := by decide +kernel
theorem dX6_joinRows_26 : decode cX6_joinRows 26 = .ok (.aload_n 0, 1) := by decide +kernel
theorem dX6_joinRows_27 : decode cX6_joinRows 27 = .ok (.getfield 23, 3) := by decide +kernel
theorem dX6_joinRows_30 : decode cX6_joinRows 30 = .ok (.iload_n 1, 1) := by decide +kernel
theorem dX6_joinRows_31 : decode cX6_joinRows 31 = .ok (.iload_n 3, 1) := by decide +kernel
theorem dX6_joinRows_32 : decode cX6_joinRows 32 = .ok (.invokevirtual 35, 3) := by decide +kernel
theorem dX6_joinRows_35 : decode cX6_joinRows 35 = .ok (.astore 5, 2) := by decide +kernel
theorem dX6_joinRows_37 : decode cX6_joinRows 37 = .ok (.aload 5, 2) := by decide +kernel
theorem dX6_joinRows_39 : decode cX6_joinRows 39 = .ok (.ifnonnull 13, 3) := by decide +kernel
theorem dX6_joinRows_42 : decode cX6_joinRows 42 = .ok (.aload_n 0, 1) := by decide +kernel
theorem dX6_joinRows_43 : decode cX6_joinRows 43 = .ok (.getfield 23, 3) := by decide +kernel
theorem dX6_joinRows_46 : decode cX6_joinRows 46 = .ok (.iload_n 1, 1) := by decide +kernel
theorem dX6_joinRows_47 : decode cX6_joinRows 47 = .ok (.iload_n 3, 1) := by decide +kernel
theorem dX6_joinRows_48 : decode cX6_joinRows 48 = .ok (.invokevirtual 41, 3) := by decide +kernel
theorem dX6_joinRows_51 : decode cX6_joinRows 51 = .ok (.ireturn, 1) := by decide +kernel
theorem dX6_joinRows_52 : decode cX6_joinRows 52 = .ok (.aload 4, 2) := by decide +kernel
theorem dX6_joinRows_54 : decode cX6_joinRows 54 = .ok (.getfield 92, 3) := by decide +kernel
theorem dX6_joinRows_57 : decode cX6_joinRows 57 = .ok (.aload 5, 2) := by decide +kernel
theorem dX6_joinRows_59 : decode cX6_joinRows 59 = .ok (.getfield 92, 3) := by decide +kernel
theorem dX6_joinRows_62 : decode cX6_joinRows 62 = .ok (.iadd, 1) := by decide +kernel
theorem dX6_joinRows_63 : decode cX6_joinRows 63 = .ok (.bipush 12, 2) := by decide +kernel
theorem dX6_joinRows_65 : decode cX6_joinRows 65 = .ok (.if_icmp .le 6, 3) := by decide +kernel
theorem dX6_joinRows_68 : decode cX6_joinRows 68 = .ok (.bipush (-10), 2) := by decide +kernel
theorem dX6_joinRows_70 : decode cX6_joinRows 70 = .ok (.ireturn, 1) := by decide +kernel
theorem dX6_joinRows_71 : decode cX6_joinRows 71 = .ok (.aload_n 0, 1) := by decide +kernel
theorem dX6_joinRows_72 : decode cX6_joinRows 72 = .ok (.getfield 23, 3) := by decide +kernel
theorem dX6_joinRows_75 : decode cX6_joinRows 75 = .ok (.iconst 1, 1) := by decide +kernel
theorem dX6_joinRows_76 : decode cX6_joinRows 76 = .ok (.aload 4, 2) := by decide +kernel
theorem dX6_joinRows_78 : decode cX6_joinRows 78 = .ok (.getfield 48, 3) := by decide +kernel
theorem dX6_joinRows_81 : decode cX6_joinRows 81 = .ok (.ishl, 1) := by decide +kernel
theorem dX6_joinRows_82 : decode cX6_joinRows 82 = .ok (.iconst 1, 1) := by decide +kernel
theorem dX6_joinRows_83 : decode cX6_joinRows 83 = .ok (.aload 5, 2) := by decide +kernel
theorem dX6_joinRows_85 : decode cX6_joinRows 85 = .ok (.getfield 48, 3) := by decide +kernel
theorem dX6_joinRows_88 : decode cX6_joinRows 88 = .ok (.ishl, 1) := by decide +kernel
theorem dX6_joinRows_89 : decode cX6_joinRows 89 = .ok (.ior, 1) := by decide +kernel
theorem dX6_joinRows_90 : decode cX6_joinRows 90 = .ok (.invokestatic 118, 3) := by decide +kernel
theorem dX6_joinRows_93 : decode cX6_joinRows 93 = .ok (.aload 4, 2) := by decide +kernel
theorem dX6_joinRows_95 : decode cX6_joinRows 95 = .ok (.getfield 92, 3) := by decide +kernel
theorem dX6_joinRows_98 : decode cX6_joinRows 98 = .ok (.aload 5, 2) := by decide +kernel
theorem dX6_joinRows_100 : decode cX6_joinRows 100 = .ok (.getfield 92, 3) := by decide +kernel
theorem dX6_joinRows_103 : decode cX6_joinRows 103 = .ok (.iadd, 1) := by decide +kernel
theorem dX6_joinRows_104 : decode cX6_joinRows 104 = .ok (.invokevirtual 101, 3) := by decide +kernel
theorem dX6_joinRows_107 : decode cX6_joinRows 107 = .ok (.astore 6, 2) := by decide +kernel
theorem dX6_joinRows_109 : decode cX6_joinRows 109 = .ok (.aload 6, 2) := by decide +kernel
theorem dX6_joinRows_111 : decode cX6_joinRows 111 = .ok (.iconst 0, 1) := by decide +kernel
theorem dX6_joinRows_112 : decode cX6_joinRows 112 = .ok (.aload 4, 2) := by decide +kernel
theorem dX6_joinRows_114 : decode cX6_joinRows 114 = .ok (.iconst 0, 1) := by decide +kernel
theorem dX6_joinRows_115 : decode cX6_joinRows 115 = .ok (.aload 4, 2) := by decide +kernel
theorem dX6_joinRows_117 : decode cX6_joinRows 117 = .ok (.getfield 92, 3) := by decide +kernel
theorem dX6_joinRows_120 : decode cX6_joinRows 120 = .ok (.invokestatic 104, 3) := by decide +kernel
theorem dX6_joinRows_123 : decode cX6_joinRows 123 = .ok (.aload 6, 2) := by decide +kernel
theorem dX6_joinRows_125 : decode cX6_joinRows 125 = .ok (.aload 4, 2) := by decide +kernel
theorem dX6_joinRows_127 : decode cX6_joinRows 127 = .ok (.getfield 92, 3) := by decide +kernel
theorem dX6_joinRows_130 : decode cX6_joinRows 130 = .ok (.aload 5, 2) := by decide +kernel
theorem dX6_joinRows_132 : decode cX6_joinRows 132 = .ok (.iconst 0, 1) := by decide +kernel
theorem dX6_joinRows_133 : decode cX6_joinRows 133 = .ok (.aload 5, 2) := by decide +kernel
theorem dX6_joinRows_135 : decode cX6_joinRows 135 = .ok (.getfield 92, 3) := by decide +kernel
theorem dX6_joinRows_138 : decode cX6_joinRows 138 = .ok (.invokestatic 104, 3) := by decide +kernel
theorem dX6_joinRows_141 : decode cX6_joinRows 141 = .ok (.aload_n 0, 1) := by decide +kernel
theorem dX6_joinRows_142 : decode cX6_joinRows 142 = .ok (.getfield 23, 3) := by decide +kernel
theorem dX6_joinRows_145 : decode cX6_joinRows 145 = .ok (.iload_n 1, 1) := by decide +kernel
theorem dX6_joinRows_146 : decode cX6_joinRows 146 = .ok (.iload_n 2, 1) := by decide +kernel
theorem dX6_joinRows_147 : decode cX6_joinRows 147 = .ok (.aload 6, 2) := by decide +kernel
theorem dX6_joinRows_149 : decode cX6_joinRows 149 = .ok (.invokevirtual 108, 3) := by decide +kernel
theorem dX6_joinRows_152 : decode cX6_joinRows 152 = .ok (.aload 6, 2) := by decide +kernel
theorem dX6_joinRows_154 : decode cX6_joinRows 154 = .ok (.getfield 92, 3) := by decide +kernel
theorem dX6_joinRows_157 : decode cX6_joinRows 157 = .ok (.ireturn, 1) := by decide +kernel
theorem dX6_reverse_0 : decode cX6_reverse 0 = .ok (.aload_n 0, 1) := by decide +kernel
theorem dX6_reverse_1 : decode cX6_reverse 1 = .ok (.getfield 23, 3) := by decide +kernel
theorem dX6_reverse_4 : decode cX6_reverse 4 = .ok (.iload_n 1, 1) := by decide +kernel
theorem dX6_reverse_5 : decode cX6_reverse 5 = .ok (.iload_n 2, 1) := by decide +kernel
theorem dX6_reverse_6 : decode cX6_reverse 6 = .ok (.invokevirtual 35, 3) := by decide +kernel
theorem dX6_reverse_9 : decode cX6_reverse 9 = .ok (.astore_n 3, 1) := by decide +kernel
theorem dX6_reverse_10 : decode cX6_reverse 10 = .ok (.aload_n 3, 1) := by decide +kernel
theorem dX6_reverse_11 : decode cX6_reverse 11 = .ok (.ifnonnull 13, 3) := by decide +kernel
theorem dX6_reverse_14 : decode cX6_reverse 14 = .ok (.aload_n 0, 1) := by decide +kernel
theorem dX6_reverse_15 : decode cX6_reverse 15 = .ok (.getfield 23, 3) := by decide +kernel
theorem dX6_reverse_18 : decode cX6_reverse 18 = .ok (.iload_n 1, 1) := by decide +kernel
theorem dX6_reverse_19 : decode cX6_reverse 19 = .ok (.iload_n 2, 1) := by decide +kernel
theorem dX6_reverse_20 : decode cX6_reverse 20 = .ok (.invokevirtual 41, 3) := by decide +kernel
theorem dX6_reverse_23 : decode cX6_reverse 23 = .ok (.ireturn, 1) := by decide +kernel
theorem dX6_reverse_24 : decode cX6_reverse 24 = .ok (.aload_n 0, 1) := by decide +kernel
theorem dX6_reverse_25 : decode cX6_reverse 25 = .ok (.getfield 20, 3) := by decide +kernel
theorem dX6_reverse_28 : decode cX6_reverse 28 = .ok (.aload_n 3, 1) := by decide +kernel
theorem dX6_reverse_29 : decode cX6_reverse 29 = .ok (.invokevirtual 122, 3) := by decide +kernel
theorem dX6_reverse_32 : decode cX6_reverse 32 = .ok (.iconst 0, 1) := by decide +kernel
theorem dX6_reverse_33 : decode cX6_reverse 33 = .ok (.istore 4, 2) := by decide +kernel
theorem dX6_reverse_35 : decode cX6_reverse 35 = .ok (.iload 4, 2) := by decide +kernel
theorem dX6_reverse_37 : decode cX6_reverse 37 = .ok (.aload_n 3, 1) := by decide +kernel
theorem dX6_reverse_38 : decode cX6_reverse 38 = .ok (.getfield 92, 3) := by decide +kernel
theorem dX6_reverse_41 : decode cX6_reverse 41 = .ok (.if_icmp .ge 29, 3) := by decide +kernel
theorem dX6_reverse_44 : decode cX6_reverse 44 = .ok (.aload_n 3, 1) := by decide +kernel
theorem dX6_reverse_45 : decode cX6_reverse 45 = .ok (.aload_n 3, 1) := by decide +kernel
theorem dX6_reverse_46 : decode cX6_reverse 46 = .ok (.getfield 92, 3) := by decide +kernel
theorem dX6_reverse_49 : decode cX6_reverse 49 = .ok (.iconst 1, 1) := by decide +kernel
theorem dX6_reverse_50 : decode cX6_reverse 50 = .ok (.isub, 1) := by decide +kernel
theorem dX6_reverse_51 : decode cX6_reverse 51 = .ok (.iload 4, 2) := by decide +kernel
theorem dX6_reverse_53 : decode cX6_reverse 53 = .ok (.isub, 1) := by decide +kernel
theorem dX6_reverse_54 : decode cX6_reverse 54 = .ok (.aload_n 0, 1) := by decide +kernel
theorem dX6_reverse_55 : decode cX6_reverse 55 = .ok (.getfield 20, 3) := by decide +kernel
theorem dX6_reverse_58 : decode cX6_reverse 58 = .ok (.iload 4, 2) := by decide +kernel
theorem dX6_reverse_60 : decode cX6_reverse 60 = .ok (.invokevirtual 60, 3) := by decide +kernel
theorem dX6_reverse_63 : decode cX6_reverse 63 = .ok (.pop, 1) := by decide +kernel
theorem dX6_reverse_64 : decode cX6_reverse 64 = .ok (.iinc 4 1, 3) := by decide +kernel
theorem dX6_reverse_67 : decode cX6_reverse 67 = .ok (.goto (-32), 3) := by decide +kernel
theorem dX6_reverse_70 : decode cX6_reverse 70 = .ok (.aload_n 3, 1) := by decide +kernel
theorem dX6_reverse_71 : decode cX6_reverse 71 = .ok (.getfield 92, 3) := by decide +kernel
theorem dX6_reverse_74 : decode cX6_reverse 74 = .ok (.ireturn, 1) := by decide +kernel
theorem dX6_rotate_0 : decode cX6_rotate 0 = .ok (.aload_n 0, 1) := by decide +kernel
theorem dX6_rotate_1 : decode cX6_rotate 1 = .ok (.getfield 23, 3) := by decide +kernel
theorem dX6_rotate_4 : decode cX6_rotate 4 = .ok (.iload_n 1, 1) := by decide +kernel
theorem dX6_rotate_5 : decode cX6_rotate 5 = .ok (.iload_n 2, 1) := by decide +kernel
theorem dX6_rotate_6 : decode cX6_rotate 6 = .ok (.invokevirtual 35, 3) := by decide +kernel
theorem dX6_rotate_9 : decode cX6_rotate 9 = .ok (.astore 4, 2) := by decide +kernel
theorem dX6_rotate_11 : decode cX6_rotate 11 = .ok (.aload 4, 2) := by decide +kernel
theorem dX6_rotate_13 : decode cX6_rotate 13 = .ok (.ifnonnull 13, 3) := by decide +kernel
theorem dX6_rotate_16 : decode cX6_rotate 16 = .ok (.aload_n 0, 1) := by decide +kernel
theorem dX6_rotate_17 : decode cX6_rotate 17 = .ok (.getfield 23, 3) := by decide +kernel
theorem dX6_rotate_20 : decode cX6_rotate 20 = .ok (.iload_n 1, 1) := by decide +kernel
theorem dX6_rotate_21 : decode cX6_rotate 21 = .ok (.iload_n 2, 1) := by decide +kernel
theorem dX6_rotate_22 : decode cX6_rotate 22 = .ok (.invokevirtual 41, 3) := by decide +kernel
theorem dX6_rotate_25 : decode cX6_rotate 25 = .ok (.ireturn, 1) := by decide +kernel
theorem dX6_rotate_26 : decode cX6_rotate 26 = .ok (.aload 4, 2) := by decide +kernel
theorem dX6_rotate_28 : decode cX6_rotate 28 = .ok (.getfield 92, 3) := by decide +kernel
theorem dX6_rotate_31 : decode cX6_rotate 31 = .ok (.ifCond .ne 5, 3) := by decide +kernel
theorem dX6_rotate_34 : decode cX6_rotate 34 = .ok (.iconst 0, 1) := by decide +kernel
theorem dX6_rotate_35 : decode cX6_rotate 35 = .ok (.ireturn, 1) := by decide +kernel
theorem dX6_rotate_36 : decode cX6_rotate 36 = .ok (.iload_n 3, 1) := by decide +kernel
theorem dX6_rotate_37 : decode cX6_rotate 37 = .ok (.aload 4, 2) := by decide +kernel
theorem dX6_rotate_39 : decode cX6_rotate 39 = .ok (.getfield 92, 3) := by decide +kernel
theorem dX6_rotate_42 : decode cX6_rotate 42 = .ok (.invokestatic 126, 3) := by decide +kernel
theorem dX6_rotate_45 : decode cX6_rotate 45 = .ok (.istore 5, 2) := by decide +kernel
theorem dX6_rotate_47 : decode cX6_rotate 47 = .ok (.aload_n 0, 1) := by decide +kernel
theorem dX6_rotate_48 : decode cX6_rotate 48 = .ok (.getfield 20, 3) := by decide +kernel
theorem dX6_rotate_51 : decode cX6_rotate 51 = .ok (.aload 4, 2) := by decide +kernel
theorem dX6_rotate_53 : decode cX6_rotate 53 = .ok (.invokevirtual 122, 3) := by decide +kernel
theorem dX6_rotate_56 : decode cX6_rotate 56 = .ok (.aload 4, 2) := by decide +kernel
theorem dX6_rotate_58 : decode cX6_rotate 58 = .ok (.iload 5, 2) := by decide +kernel
theorem dX6_rotate_60 : decode cX6_rotate 60 = .ok (.aload_n 0, 1) := by decide +kernel
theorem dX6_rotate_61 : decode cX6_rotate 61 = .ok (.getfield 20, 3) := by decide +kernel
theorem dX6_rotate_64 : decode cX6_rotate 64 = .ok (.iconst 0, 1) := by decide +kernel
theorem dX6_rotate_65 : decode cX6_rotate 65 = .ok (.aload 4, 2) := by decide +kernel
theorem dX6_rotate_67 : decode cX6_rotate 67 = .ok (.getfield 92, 3) := by decide +kernel
theorem dX6_rotate_70 : decode cX6_rotate 70 = .ok (.iload 5, 2) := by decide +kernel
theorem dX6_rotate_72 : decode cX6_rotate 72 = .ok (.isub, 1) := by decide +kernel
theorem dX6_rotate_73 : decode cX6_rotate 73 = .ok (.invokestatic 104, 3) := by decide +kernel
theorem dX6_rotate_76 : decode cX6_rotate 76 = .ok (.aload 4, 2) := by decide +kernel
theorem dX6_rotate_78 : decode cX6_rotate 78 = .ok (.iconst 0, 1) := by decide +kernel
theorem dX6_rotate_79 : decode cX6_rotate 79 = .ok (.aload_n 0, 1) := by decide +kernel
theorem dX6_rotate_80 : decode cX6_rotate 80 = .ok (.getfield 20, 3) := by decide +kernel
theorem dX6_rotate_83 : decode cX6_rotate 83 = .ok (.aload 4, 2) := by decide +kernel
theorem dX6_rotate_85 : decode cX6_rotate 85 = .ok (.getfield 92, 3) := by decide +kernel
theorem dX6_rotate_88 : decode cX6_rotate 88 = .ok (.iload 5, 2) := by decide +kernel
theorem dX6_rotate_90 : decode cX6_rotate 90 = .ok (.isub, 1) := by decide +kernel
