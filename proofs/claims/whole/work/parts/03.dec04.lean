theorem dX13_flipDeed_51 : decode cX13_flipDeed 51 = .ok (.aload_n 0, 1) := by decide +kernel
theorem dX13_flipDeed_52 : decode cX13_flipDeed 52 = .ok (.aload_n 0, 1) := by decide +kernel
theorem dX13_flipDeed_53 : decode cX13_flipDeed 53 = .ok (.getfield 26, 3) := by decide +kernel
theorem dX13_flipDeed_56 : decode cX13_flipDeed 56 = .ok (.iload 4, 2) := by decide +kernel
theorem dX13_flipDeed_58 : decode cX13_flipDeed 58 = .ok (.iaload, 1) := by decide +kernel
theorem dX13_flipDeed_59 : decode cX13_flipDeed 59 = .ok (.iconst 1, 1) := by decide +kernel
theorem dX13_flipDeed_60 : decode cX13_flipDeed 60 = .ok (.isub, 1) := by decide +kernel
theorem dX13_flipDeed_61 : decode cX13_flipDeed 61 = .ok (.iload 5, 2) := by decide +kernel
theorem dX13_flipDeed_63 : decode cX13_flipDeed 63 = .ok (.isub, 1) := by decide +kernel
theorem dX13_flipDeed_64 : decode cX13_flipDeed 64 = .ok (.iload 4, 2) := by decide +kernel
theorem dX13_flipDeed_66 : decode cX13_flipDeed 66 = .ok (.iload 5, 2) := by decide +kernel
theorem dX13_flipDeed_68 : decode cX13_flipDeed 68 = .ok (.invokevirtual 303, 3) := by decide +kernel
theorem dX13_flipDeed_71 : decode cX13_flipDeed 71 = .ok (.iinc 5 1, 3) := by decide +kernel
theorem dX13_flipDeed_74 : decode cX13_flipDeed 74 = .ok (.goto (-35), 3) := by decide +kernel
theorem dX13_flipDeed_77 : decode cX13_flipDeed 77 = .ok (.aload_n 0, 1) := by decide +kernel
theorem dX13_flipDeed_78 : decode cX13_flipDeed 78 = .ok (.getfield 26, 3) := by decide +kernel
theorem dX13_flipDeed_81 : decode cX13_flipDeed 81 = .ok (.iload 4, 2) := by decide +kernel
theorem dX13_flipDeed_83 : decode cX13_flipDeed 83 = .ok (.iaload, 1) := by decide +kernel
theorem dX13_flipDeed_84 : decode cX13_flipDeed 84 = .ok (.ireturn, 1) := by decide +kernel
theorem dX13_flip_0 : decode cX13_flip 0 = .ok (.aload_n 0, 1) := by decide +kernel
theorem dX13_flip_1 : decode cX13_flip 1 = .ok (.aload_n 0, 1) := by decide +kernel
theorem dX13_flip_2 : decode cX13_flip 2 = .ok (.iload_n 1, 1) := by decide +kernel
theorem dX13_flip_3 : decode cX13_flip 3 = .ok (.iload_n 2, 1) := by decide +kernel
theorem dX13_flip_4 : decode cX13_flip 4 = .ok (.invokevirtual 306, 3) := by decide +kernel
theorem dX13_flip_7 : decode cX13_flip 7 = .ok (.invokevirtual 137, 3) := by decide +kernel
theorem dX13_flip_10 : decode cX13_flip 10 = .ok (.ireturn, 1) := by decide +kernel
theorem dX13_rollDeed_0 : decode cX13_rollDeed 0 = .ok (.iload_n 1, 1) := by decide +kernel
theorem dX13_rollDeed_1 : decode cX13_rollDeed 1 = .ok (.invokestatic 134, 3) := by decide +kernel
theorem dX13_rollDeed_4 : decode cX13_rollDeed 4 = .ok (.ifCond .ne 5, 3) := by decide +kernel
theorem dX13_rollDeed_7 : decode cX13_rollDeed 7 = .ok (.iconst (-1), 1) := by decide +kernel
theorem dX13_rollDeed_8 : decode cX13_rollDeed 8 = .ok (.ireturn, 1) := by decide +kernel
theorem dX13_rollDeed_9 : decode cX13_rollDeed 9 = .ok (.aload_n 0, 1) := by decide +kernel
theorem dX13_rollDeed_10 : decode cX13_rollDeed 10 = .ok (.iload_n 1, 1) := by decide +kernel
theorem dX13_rollDeed_11 : decode cX13_rollDeed 11 = .ok (.iload_n 2, 1) := by decide +kernel
theorem dX13_rollDeed_12 : decode cX13_rollDeed 12 = .ok (.invokevirtual 131, 3) := by decide +kernel
theorem dX13_rollDeed_15 : decode cX13_rollDeed 15 = .ok (.istore 4, 2) := by decide +kernel
theorem dX13_rollDeed_17 : decode cX13_rollDeed 17 = .ok (.iload 4, 2) := by decide +kernel
theorem dX13_rollDeed_19 : decode cX13_rollDeed 19 = .ok (.ifCond .eq 6, 3) := by decide +kernel
theorem dX13_rollDeed_22 : decode cX13_rollDeed 22 = .ok (.iload 4, 2) := by decide +kernel
theorem dX13_rollDeed_24 : decode cX13_rollDeed 24 = .ok (.ireturn, 1) := by decide +kernel
theorem dX13_rollDeed_25 : decode cX13_rollDeed 25 = .ok (.aload_n 0, 1) := by decide +kernel
theorem dX13_rollDeed_26 : decode cX13_rollDeed 26 = .ok (.iload_n 1, 1) := by decide +kernel
theorem dX13_rollDeed_27 : decode cX13_rollDeed 27 = .ok (.iload_n 2, 1) := by decide +kernel
theorem dX13_rollDeed_28 : decode cX13_rollDeed 28 = .ok (.invokevirtual 128, 3) := by decide +kernel
theorem dX13_rollDeed_31 : decode cX13_rollDeed 31 = .ok (.istore 5, 2) := by decide +kernel
theorem dX13_rollDeed_33 : decode cX13_rollDeed 33 = .ok (.aload_n 0, 1) := by decide +kernel
theorem dX13_rollDeed_34 : decode cX13_rollDeed 34 = .ok (.getfield 26, 3) := by decide +kernel
theorem dX13_rollDeed_37 : decode cX13_rollDeed 37 = .ok (.iload 5, 2) := by decide +kernel
theorem dX13_rollDeed_39 : decode cX13_rollDeed 39 = .ok (.iaload, 1) := by decide +kernel
theorem dX13_rollDeed_40 : decode cX13_rollDeed 40 = .ok (.istore 6, 2) := by decide +kernel
theorem dX13_rollDeed_42 : decode cX13_rollDeed 42 = .ok (.aload_n 0, 1) := by decide +kernel
theorem dX13_rollDeed_43 : decode cX13_rollDeed 43 = .ok (.iload 5, 2) := by decide +kernel
theorem dX13_rollDeed_45 : decode cX13_rollDeed 45 = .ok (.invokevirtual 300, 3) := by decide +kernel
theorem dX13_rollDeed_48 : decode cX13_rollDeed 48 = .ok (.iconst 0, 1) := by decide +kernel
theorem dX13_rollDeed_49 : decode cX13_rollDeed 49 = .ok (.istore 7, 2) := by decide +kernel
theorem dX13_rollDeed_51 : decode cX13_rollDeed 51 = .ok (.iload 7, 2) := by decide +kernel
theorem dX13_rollDeed_53 : decode cX13_rollDeed 53 = .ok (.iload 6, 2) := by decide +kernel
theorem dX13_rollDeed_55 : decode cX13_rollDeed 55 = .ok (.if_icmp .ge 30, 3) := by decide +kernel
theorem dX13_rollDeed_58 : decode cX13_rollDeed 58 = .ok (.aload_n 0, 1) := by decide +kernel
theorem dX13_rollDeed_59 : decode cX13_rollDeed 59 = .ok (.iload 7, 2) := by decide +kernel
theorem dX13_rollDeed_61 : decode cX13_rollDeed 61 = .ok (.iload 5, 2) := by decide +kernel
theorem dX13_rollDeed_63 : decode cX13_rollDeed 63 = .ok (.iload 7, 2) := by decide +kernel
theorem dX13_rollDeed_65 : decode cX13_rollDeed 65 = .ok (.iload_n 3, 1) := by decide +kernel
theorem dX13_rollDeed_66 : decode cX13_rollDeed 66 = .ok (.iload 6, 2) := by decide +kernel
theorem dX13_rollDeed_68 : decode cX13_rollDeed 68 = .ok (.irem, 1) := by decide +kernel
theorem dX13_rollDeed_69 : decode cX13_rollDeed 69 = .ok (.iadd, 1) := by decide +kernel
theorem dX13_rollDeed_70 : decode cX13_rollDeed 70 = .ok (.iload 6, 2) := by decide +kernel
theorem dX13_rollDeed_72 : decode cX13_rollDeed 72 = .ok (.iadd, 1) := by decide +kernel
theorem dX13_rollDeed_73 : decode cX13_rollDeed 73 = .ok (.iload 6, 2) := by decide +kernel
theorem dX13_rollDeed_75 : decode cX13_rollDeed 75 = .ok (.irem, 1) := by decide +kernel
theorem dX13_rollDeed_76 : decode cX13_rollDeed 76 = .ok (.invokevirtual 303, 3) := by decide +kernel
theorem dX13_rollDeed_79 : decode cX13_rollDeed 79 = .ok (.iinc 7 1, 3) := by decide +kernel
theorem dX13_rollDeed_82 : decode cX13_rollDeed 82 = .ok (.goto (-31), 3) := by decide +kernel
theorem dX13_rollDeed_85 : decode cX13_rollDeed 85 = .ok (.iload 6, 2) := by decide +kernel
theorem dX13_rollDeed_87 : decode cX13_rollDeed 87 = .ok (.ireturn, 1) := by decide +kernel
theorem dX13_roll_0 : decode cX13_roll 0 = .ok (.aload_n 0, 1) := by decide +kernel
theorem dX13_roll_1 : decode cX13_roll 1 = .ok (.aload_n 0, 1) := by decide +kernel
theorem dX13_roll_2 : decode cX13_roll 2 = .ok (.iload_n 1, 1) := by decide +kernel
theorem dX13_roll_3 : decode cX13_roll 3 = .ok (.iload_n 2, 1) := by decide +kernel
theorem dX13_roll_4 : decode cX13_roll 4 = .ok (.iload_n 3, 1) := by decide +kernel
theorem dX13_roll_5 : decode cX13_roll 5 = .ok (.invokevirtual 309, 3) := by decide +kernel
theorem dX13_roll_8 : decode cX13_roll 8 = .ok (.invokevirtual 137, 3) := by decide +kernel
theorem dX13_roll_11 : decode cX13_roll 11 = .ok (.ireturn, 1) := by decide +kernel
theorem dX13_isBehind_0 : decode cX13_isBehind 0 = .ok (.aload_n 0, 1) := by decide +kernel
theorem dX13_isBehind_1 : decode cX13_isBehind 1 = .ok (.getfield 46, 3) := by decide +kernel
theorem dX13_isBehind_4 : decode cX13_isBehind 4 = .ok (.iload_n 1, 1) := by decide +kernel
theorem dX13_isBehind_5 : decode cX13_isBehind 5 = .ok (.laload, 1) := by decide +kernel
theorem dX13_isBehind_6 : decode cX13_isBehind 6 = .ok (.aload_n 0, 1) := by decide +kernel
theorem dX13_isBehind_7 : decode cX13_isBehind 7 = .ok (.getfield 46, 3) := by decide +kernel
theorem dX13_isBehind_10 : decode cX13_isBehind 10 = .ok (.iload_n 2, 1) := by decide +kernel
theorem dX13_isBehind_11 : decode cX13_isBehind 11 = .ok (.laload, 1) := by decide +kernel
theorem dX13_isBehind_12 : decode cX13_isBehind 12 = .ok (.lcmp, 1) := by decide +kernel
theorem dX13_isBehind_13 : decode cX13_isBehind 13 = .ok (.ifCond .gt 19, 3) := by decide +kernel
theorem dX13_isBehind_16 : decode cX13_isBehind 16 = .ok (.aload_n 0, 1) := by decide +kernel
theorem dX13_isBehind_17 : decode cX13_isBehind 17 = .ok (.getfield 49, 3) := by decide +kernel
theorem dX13_isBehind_20 : decode cX13_isBehind 20 = .ok (.iload_n 1, 1) := by decide +kernel
theorem dX13_isBehind_21 : decode cX13_isBehind 21 = .ok (.daload, 1) := by decide +kernel
theorem dX13_isBehind_22 : decode cX13_isBehind 22 = .ok (.aload_n 0, 1) := by decide +kernel
theorem dX13_isBehind_23 : decode cX13_isBehind 23 = .ok (.getfield 49, 3) := by decide +kernel
theorem dX13_isBehind_26 : decode cX13_isBehind 26 = .ok (.iload_n 2, 1) := by decide +kernel
theorem dX13_isBehind_27 : decode cX13_isBehind 27 = .ok (.daload, 1) := by decide +kernel
theorem dX13_isBehind_28 : decode cX13_isBehind 28 = .ok (.dcmp .l, 1) := by decide +kernel
theorem dX13_isBehind_29 : decode cX13_isBehind 29 = .ok (.ifCond .le 7, 3) := by decide +kernel
theorem dX13_isBehind_32 : decode cX13_isBehind 32 = .ok (.iconst 1, 1) := by decide +kernel
theorem dX13_isBehind_33 : decode cX13_isBehind 33 = .ok (.goto 4, 3) := by decide +kernel
theorem dX13_isBehind_36 : decode cX13_isBehind 36 = .ok (.iconst 0, 1) := by decide +kernel
theorem dX13_isBehind_37 : decode cX13_isBehind 37 = .ok (.ireturn, 1) := by decide +kernel
theorem dX13_orderDeed_0 : decode cX13_orderDeed 0 = .ok (.iload_n 1, 1) := by decide +kernel
theorem dX13_orderDeed_1 : decode cX13_orderDeed 1 = .ok (.invokestatic 134, 3) := by decide +kernel
theorem dX13_orderDeed_4 : decode cX13_orderDeed 4 = .ok (.ifCond .ne 5, 3) := by decide +kernel
theorem dX13_orderDeed_7 : decode cX13_orderDeed 7 = .ok (.iconst (-1), 1) := by decide +kernel
theorem dX13_orderDeed_8 : decode cX13_orderDeed 8 = .ok (.ireturn, 1) := by decide +kernel
theorem dX13_orderDeed_9 : decode cX13_orderDeed 9 = .ok (.aload_n 0, 1) := by decide +kernel
theorem dX13_orderDeed_10 : decode cX13_orderDeed 10 = .ok (.iload_n 1, 1) := by decide +kernel
theorem dX13_orderDeed_11 : decode cX13_orderDeed 11 = .ok (.iload_n 2, 1) := by decide +kernel
theorem dX13_orderDeed_12 : decode cX13_orderDeed 12 = .ok (.invokevirtual 131, 3) := by decide +kernel
theorem dX13_orderDeed_15 : decode cX13_orderDeed 15 = .ok (.istore_n 3, 1) := by decide +kernel
theorem dX13_orderDeed_16 : decode cX13_orderDeed 16 = .ok (.iload_n 3, 1) := by decide +kernel
theorem dX13_orderDeed_17 : decode cX13_orderDeed 17 = .ok (.ifCond .eq 5, 3) := by decide +kernel
theorem dX13_orderDeed_20 : decode cX13_orderDeed 20 = .ok (.iload_n 3, 1) := by decide +kernel
theorem dX13_orderDeed_21 : decode cX13_orderDeed 21 = .ok (.ireturn, 1) := by decide +kernel
theorem dX13_orderDeed_22 : decode cX13_orderDeed 22 = .ok (.aload_n 0, 1) := by decide +kernel
theorem dX13_orderDeed_23 : decode cX13_orderDeed 23 = .ok (.iload_n 1, 1) := by decide +kernel
theorem dX13_orderDeed_24 : decode cX13_orderDeed 24 = .ok (.iload_n 2, 1) := by decide +kernel
theorem dX13_orderDeed_25 : decode cX13_orderDeed 25 = .ok (.invokevirtual 128, 3) := by decide +kernel
theorem dX13_orderDeed_28 : decode cX13_orderDeed 28 = .ok (.istore 4, 2) := by decide +kernel
theorem dX13_orderDeed_30 : decode cX13_orderDeed 30 = .ok (.aload_n 0, 1) := by decide +kernel
theorem dX13_orderDeed_31 : decode cX13_orderDeed 31 = .ok (.getfield 23, 3) := by decide +kernel
theorem dX13_orderDeed_34 : decode cX13_orderDeed 34 = .ok (.iload 4, 2) := by decide +kernel
theorem dX13_orderDeed_36 : decode cX13_orderDeed 36 = .ok (.iaload, 1) := by decide +kernel
theorem dX13_orderDeed_37 : decode cX13_orderDeed 37 = .ok (.invokestatic 209, 3) := by decide +kernel
theorem dX13_orderDeed_40 : decode cX13_orderDeed 40 = .ok (.ifCond .ne 6, 3) := by decide +kernel
theorem dX13_orderDeed_43 : decode cX13_orderDeed 43 = .ok (.bipush (-7), 2) := by decide +kernel
theorem dX13_orderDeed_45 : decode cX13_orderDeed 45 = .ok (.ireturn, 1) := by decide +kernel
theorem dX13_orderDeed_46 : decode cX13_orderDeed 46 = .ok (.aload_n 0, 1) := by decide +kernel
theorem dX13_orderDeed_47 : decode cX13_orderDeed 47 = .ok (.iload 4, 2) := by decide +kernel
theorem dX13_orderDeed_49 : decode cX13_orderDeed 49 = .ok (.invokevirtual 300, 3) := by decide +kernel
theorem dX13_orderDeed_52 : decode cX13_orderDeed 52 = .ok (.aload_n 0, 1) := by decide +kernel
theorem dX13_orderDeed_53 : decode cX13_orderDeed 53 = .ok (.getfield 26, 3) := by decide +kernel
theorem dX13_orderDeed_56 : decode cX13_orderDeed 56 = .ok (.iload 4, 2) := by decide +kernel
theorem dX13_orderDeed_58 : decode cX13_orderDeed 58 = .ok (.iaload, 1) := by decide +kernel
theorem dX13_orderDeed_59 : decode cX13_orderDeed 59 = .ok (.istore 5, 2) := by decide +kernel
theorem dX13_orderDeed_61 : decode cX13_orderDeed 61 = .ok (.iconst 0, 1) := by decide +kernel
theorem dX13_orderDeed_62 : decode cX13_orderDeed 62 = .ok (.istore 6, 2) := by decide +kernel
theorem dX13_orderDeed_64 : decode cX13_orderDeed 64 = .ok (.iload 6, 2) := by decide +kernel
theorem dX13_orderDeed_66 : decode cX13_orderDeed 66 = .ok (.iload 5, 2) := by decide +kernel
theorem dX13_orderDeed_68 : decode cX13_orderDeed 68 = .ok (.if_icmp .ge 77, 3) := by decide +kernel
theorem dX13_orderDeed_71 : decode cX13_orderDeed 71 = .ok (.iconst 0, 1) := by decide +kernel
theorem dX13_orderDeed_72 : decode cX13_orderDeed 72 = .ok (.istore 7, 2) := by decide +kernel
theorem dX13_orderDeed_74 : decode cX13_orderDeed 74 = .ok (.iconst 0, 1) := by decide +kernel
theorem dX13_orderDeed_75 : decode cX13_orderDeed 75 = .ok (.istore 8, 2) := by decide +kernel
theorem dX13_orderDeed_77 : decode cX13_orderDeed 77 = .ok (.iload 8, 2) := by decide +kernel
theorem dX13_orderDeed_79 : decode cX13_orderDeed 79 = .ok (.iload 5, 2) := by decide +kernel
theorem dX13_orderDeed_81 : decode cX13_orderDeed 81 = .ok (.if_icmp .ge 48, 3) := by decide +kernel
theorem dX13_orderDeed_84 : decode cX13_orderDeed 84 = .ok (.iload 7, 2) := by decide +kernel
theorem dX13_orderDeed_86 : decode cX13_orderDeed 86 = .ok (.aload_n 0, 1) := by decide +kernel
theorem dX13_orderDeed_87 : decode cX13_orderDeed 87 = .ok (.iload 6, 2) := by decide +kernel
theorem dX13_orderDeed_89 : decode cX13_orderDeed 89 = .ok (.iload 8, 2) := by decide +kernel
theorem dX13_orderDeed_91 : decode cX13_orderDeed 91 = .ok (.invokevirtual 312, 3) := by decide +kernel
theorem dX13_orderDeed_94 : decode cX13_orderDeed 94 = .ok (.ifCond .ne 21, 3) := by decide +kernel
theorem dX13_orderDeed_97 : decode cX13_orderDeed 97 = .ok (.aload_n 0, 1) := by decide +kernel
theorem dX13_orderDeed_98 : decode cX13_orderDeed 98 = .ok (.iload 8, 2) := by decide +kernel
theorem dX13_orderDeed_100 : decode cX13_orderDeed 100 = .ok (.iload 6, 2) := by decide +kernel
theorem dX13_orderDeed_102 : decode cX13_orderDeed 102 = .ok (.invokevirtual 312, 3) := by decide +kernel
theorem dX13_orderDeed_105 : decode cX13_orderDeed 105 = .ok (.ifCond .ne 14, 3) := by decide +kernel
theorem dX13_orderDeed_108 : decode cX13_orderDeed 108 = .ok (.iload 8, 2) := by decide +kernel
theorem dX13_orderDeed_110 : decode cX13_orderDeed 110 = .ok (.iload 6, 2) := by decide +kernel
theorem dX13_orderDeed_112 : decode cX13_orderDeed 112 = .ok (.if_icmp .ge 7, 3) := by decide +kernel
theorem dX13_orderDeed_115 : decode cX13_orderDeed 115 = .ok (.iconst 1, 1) := by decide +kernel
theorem dX13_orderDeed_116 : decode cX13_orderDeed 116 = .ok (.goto 4, 3) := by decide +kernel
theorem dX13_orderDeed_119 : decode cX13_orderDeed 119 = .ok (.iconst 0, 1) := by decide +kernel
theorem dX13_orderDeed_120 : decode cX13_orderDeed 120 = .ok (.iadd, 1) := by decide +kernel
theorem dX13_orderDeed_121 : decode cX13_orderDeed 121 = .ok (.istore 7, 2) := by decide +kernel
theorem dX13_orderDeed_123 : decode cX13_orderDeed 123 = .ok (.iinc 8 1, 3) := by decide +kernel
theorem dX13_orderDeed_126 : decode cX13_orderDeed 126 = .ok (.goto (-49), 3) := by decide +kernel
theorem dX13_orderDeed_129 : decode cX13_orderDeed 129 = .ok (.aload_n 0, 1) := by decide +kernel
theorem dX13_orderDeed_130 : decode cX13_orderDeed 130 = .ok (.iload 6, 2) := by decide +kernel
theorem dX13_orderDeed_132 : decode cX13_orderDeed 132 = .ok (.iload 4, 2) := by decide +kernel
theorem dX13_orderDeed_134 : decode cX13_orderDeed 134 = .ok (.iload 7, 2) := by decide +kernel
theorem dX13_orderDeed_136 : decode cX13_orderDeed 136 = .ok (.invokevirtual 303, 3) := by decide +kernel
theorem dX13_orderDeed_139 : decode cX13_orderDeed 139 = .ok (.iinc 6 1, 3) := by decide +kernel
theorem dX13_orderDeed_142 : decode cX13_orderDeed 142 = .ok (.goto (-78), 3) := by decide +kernel
theorem dX13_orderDeed_145 : decode cX13_orderDeed 145 = .ok (.iconst 0, 1) := by decide +kernel
theorem dX13_orderDeed_146 : decode cX13_orderDeed 146 = .ok (.istore 6, 2) := by decide +kernel
theorem dX13_orderDeed_148 : decode cX13_orderDeed 148 = .ok (.iconst 0, 1) := by decide +kernel
theorem dX13_orderDeed_149 : decode cX13_orderDeed 149 = .ok (.istore 7, 2) := by decide +kernel
theorem dX13_orderDeed_151 : decode cX13_orderDeed 151 = .ok (.iload 7, 2) := by decide +kernel
theorem dX13_orderDeed_153 : decode cX13_orderDeed 153 = .ok (.iload 5, 2) := by decide +kernel
theorem dX13_orderDeed_155 : decode cX13_orderDeed 155 = .ok (.if_icmp .ge 67, 3) := by decide +kernel
theorem dX13_orderDeed_158 : decode cX13_orderDeed 158 = .ok (.iload 6, 2) := by decide +kernel
theorem dX13_orderDeed_160 : decode cX13_orderDeed 160 = .ok (.aload_n 0, 1) := by decide +kernel
theorem dX13_orderDeed_161 : decode cX13_orderDeed 161 = .ok (.getfield 35, 3) := by decide +kernel
theorem dX13_orderDeed_164 : decode cX13_orderDeed 164 = .ok (.bipush 12, 2) := by decide +kernel
theorem dX13_orderDeed_166 : decode cX13_orderDeed 166 = .ok (.iload 4, 2) := by decide +kernel
theorem dX13_orderDeed_168 : decode cX13_orderDeed 168 = .ok (.imul, 1) := by decide +kernel
theorem dX13_orderDeed_169 : decode cX13_orderDeed 169 = .ok (.iload 7, 2) := by decide +kernel
theorem dX13_orderDeed_171 : decode cX13_orderDeed 171 = .ok (.iadd, 1) := by decide +kernel
theorem dX13_orderDeed_172 : decode cX13_orderDeed 172 = .ok (.laload, 1) := by decide +kernel
theorem dX13_orderDeed_173 : decode cX13_orderDeed 173 = .ok (.aload_n 0, 1) := by decide +kernel
theorem dX13_orderDeed_174 : decode cX13_orderDeed 174 = .ok (.getfield 46, 3) := by decide +kernel
theorem dX13_orderDeed_177 : decode cX13_orderDeed 177 = .ok (.iload 7, 2) := by decide +kernel
theorem dX13_orderDeed_179 : decode cX13_orderDeed 179 = .ok (.laload, 1) := by decide +kernel
theorem dX13_orderDeed_180 : decode cX13_orderDeed 180 = .ok (.lcmp, 1) := by decide +kernel
theorem dX13_orderDeed_181 : decode cX13_orderDeed 181 = .ok (.ifCond .ne 27, 3) := by decide +kernel
theorem dX13_orderDeed_184 : decode cX13_orderDeed 184 = .ok (.aload_n 0, 1) := by decide +kernel
theorem dX13_orderDeed_185 : decode cX13_orderDeed 185 = .ok (.getfield 39, 3) := by decide +kernel
theorem dX13_orderDeed_188 : decode cX13_orderDeed 188 = .ok (.bipush 12, 2) := by decide +kernel
theorem dX13_orderDeed_190 : decode cX13_orderDeed 190 = .ok (.iload 4, 2) := by decide +kernel
theorem dX13_orderDeed_192 : decode cX13_orderDeed 192 = .ok (.imul, 1) := by decide +kernel
theorem dX13_orderDeed_193 : decode cX13_orderDeed 193 = .ok (.iload 7, 2) := by decide +kernel
theorem dX13_orderDeed_195 : decode cX13_orderDeed 195 = .ok (.iadd, 1) := by decide +kernel
theorem dX13_orderDeed_196 : decode cX13_orderDeed 196 = .ok (.daload, 1) := by decide +kernel
theorem dX13_orderDeed_197 : decode cX13_orderDeed 197 = .ok (.aload_n 0, 1) := by decide +kernel
theorem dX13_orderDeed_198 : decode cX13_orderDeed 198 = .ok (.getfield 49, 3) := by decide +kernel
theorem dX13_orderDeed_201 : decode cX13_orderDeed 201 = .ok (.iload 7, 2) := by decide +kernel
theorem dX13_orderDeed_203 : decode cX13_orderDeed 203 = .ok (.daload, 1) := by decide +kernel
theorem dX13_orderDeed_204 : decode cX13_orderDeed 204 = .ok (.dcmp .l, 1) := by decide +kernel
theorem dX13_orderDeed_205 : decode cX13_orderDeed 205 = .ok (.ifCond .eq 7, 3) := by decide +kernel
theorem dX13_orderDeed_208 : decode cX13_orderDeed 208 = .ok (.iconst 1, 1) := by decide +kernel
theorem dX13_orderDeed_209 : decode cX13_orderDeed 209 = .ok (.goto 4, 3) := by decide +kernel
theorem dX13_orderDeed_212 : decode cX13_orderDeed 212 = .ok (.iconst 0, 1) := by decide +kernel
theorem dX13_orderDeed_213 : decode cX13_orderDeed 213 = .ok (.iadd, 1) := by decide +kernel
theorem dX13_orderDeed_214 : decode cX13_orderDeed 214 = .ok (.istore 6, 2) := by decide +kernel
theorem dX13_orderDeed_216 : decode cX13_orderDeed 216 = .ok (.iinc 7 1, 3) := by decide +kernel
theorem dX13_orderDeed_219 : decode cX13_orderDeed 219 = .ok (.goto (-68), 3) := by decide +kernel
theorem dX13_orderDeed_222 : decode cX13_orderDeed 222 = .ok (.iload 6, 2) := by decide +kernel
theorem dX13_orderDeed_224 : decode cX13_orderDeed 224 = .ok (.ireturn, 1) := by decide +kernel
theorem dX13_order_0 : decode cX13_order 0 = .ok (.aload_n 0, 1) := by decide +kernel
theorem dX13_order_1 : decode cX13_order 1 = .ok (.aload_n 0, 1) := by decide +kernel
theorem dX13_order_2 : decode cX13_order 2 = .ok (.iload_n 1, 1) := by decide +kernel
theorem dX13_order_3 : decode cX13_order 3 = .ok (.iload_n 2, 1) := by decide +kernel
theorem dX13_order_4 : decode cX13_order 4 = .ok (.invokevirtual 315, 3) := by decide +kernel
theorem dX13_order_7 : decode cX13_order 7 = .ok (.invokevirtual 137, 3) := by decide +kernel
theorem dX13_order_10 : decode cX13_order 10 = .ok (.ireturn, 1) := by decide +kernel
theorem dX13_adds_0 : decode cX13_adds 0 = .ok (.iload_n 1, 1) := by decide +kernel
theorem dX13_adds_1 : decode cX13_adds 1 = .ok (.bipush 6, 2) := by decide +kernel
theorem dX13_adds_3 : decode cX13_adds 3 = .ok (.if_icmp .ne 20, 3) := by decide +kernel
theorem dX13_adds_6 : decode cX13_adds 6 = .ok (.aload_n 0, 1) := by decide +kernel
theorem dX13_adds_7 : decode cX13_adds 7 = .ok (.dload 4, 2) := by decide +kernel
theorem dX13_adds_9 : decode cX13_adds 9 = .ok (.d2f, 1) := by decide +kernel
theorem dX13_adds_10 : decode cX13_adds 10 = .ok (.aload_n 0, 1) := by decide +kernel
theorem dX13_adds_11 : decode cX13_adds 11 = .ok (.getfield 193, 3) := by decide +kernel
theorem dX13_adds_14 : decode cX13_adds 14 = .ok (.d2f, 1) := by decide +kernel
theorem dX13_adds_15 : decode cX13_adds 15 = .ok (.fadd, 1) := by decide +kernel
theorem dX13_adds_16 : decode cX13_adds 16 = .ok (.f2d, 1) := by decide +kernel
theorem dX13_adds_17 : decode cX13_adds 17 = .ok (.putfield 193, 3) := by decide +kernel
theorem dX13_adds_20 : decode cX13_adds 20 = .ok (.goto 51, 3) := by decide +kernel
theorem dX13_adds_23 : decode cX13_adds 23 = .ok (.iload_n 1, 1) := by decide +kernel
theorem dX13_adds_24 : decode cX13_adds 24 = .ok (.bipush 7, 2) := by decide +kernel
theorem dX13_adds_26 : decode cX13_adds 26 = .ok (.if_icmp .ne 17, 3) := by decide +kernel
theorem dX13_adds_29 : decode cX13_adds 29 = .ok (.aload_n 0, 1) := by decide +kernel
theorem dX13_adds_30 : decode cX13_adds 30 = .ok (.dload 4, 2) := by decide +kernel
theorem dX13_adds_32 : decode cX13_adds 32 = .ok (.aload_n 0, 1) := by decide +kernel
theorem dX13_adds_33 : decode cX13_adds 33 = .ok (.getfield 193, 3) := by decide +kernel
theorem dX13_adds_36 : decode cX13_adds 36 = .ok (.dadd, 1) := by decide +kernel
theorem dX13_adds_37 : decode cX13_adds 37 = .ok (.putfield 193, 3) := by decide +kernel
theorem dX13_adds_40 : decode cX13_adds 40 = .ok (.goto 31, 3) := by decide +kernel
theorem dX13_adds_43 : decode cX13_adds 43 = .ok (.iload_n 1, 1) := by decide +kernel
theorem dX13_adds_44 : decode cX13_adds 44 = .ok (.ifCond .ne 16, 3) := by decide +kernel
theorem dX13_adds_47 : decode cX13_adds 47 = .ok (.aload_n 0, 1) := by decide +kernel
theorem dX13_adds_48 : decode cX13_adds 48 = .ok (.lload_n 2, 1) := by decide +kernel
theorem dX13_adds_49 : decode cX13_adds 49 = .ok (.aload_n 0, 1) := by decide +kernel
theorem dX13_adds_50 : decode cX13_adds 50 = .ok (.getfield 197, 3) := by decide +kernel
theorem dX13_adds_53 : decode cX13_adds 53 = .ok (.lxor, 1) := by decide +kernel
theorem dX13_adds_54 : decode cX13_adds 54 = .ok (.putfield 197, 3) := by decide +kernel
theorem dX13_adds_57 : decode cX13_adds 57 = .ok (.goto 14, 3) := by decide +kernel
theorem dX13_adds_60 : decode cX13_adds 60 = .ok (.aload_n 0, 1) := by decide +kernel
theorem dX13_adds_61 : decode cX13_adds 61 = .ok (.iload_n 1, 1) := by decide +kernel
theorem dX13_adds_62 : decode cX13_adds 62 = .ok (.lload_n 2, 1) := by decide +kernel
theorem dX13_adds_63 : decode cX13_adds 63 = .ok (.aload_n 0, 1) := by decide +kernel
theorem dX13_adds_64 : decode cX13_adds 64 = .ok (.getfield 197, 3) := by decide +kernel
theorem dX13_adds_67 : decode cX13_adds 67 = .ok (.ladd, 1) := by decide +kernel
theorem dX13_adds_68 : decode cX13_adds 68 = .ok (.invokevirtual 250, 3) := by decide +kernel
theorem dX13_adds_71 : decode cX13_adds 71 = .ok (.return_, 1) := by decide +kernel
theorem dX13_addDeed_0 : decode cX13_addDeed 0 = .ok (.iload_n 1, 1) := by decide +kernel
theorem dX13_addDeed_1 : decode cX13_addDeed 1 = .ok (.invokestatic 134, 3) := by decide +kernel
theorem dX13_addDeed_4 : decode cX13_addDeed 4 = .ok (.ifCond .eq 10, 3) := by decide +kernel
theorem dX13_addDeed_7 : decode cX13_addDeed 7 = .ok (.iload_n 3, 1) := by decide +kernel
theorem dX13_addDeed_8 : decode cX13_addDeed 8 = .ok (.invokestatic 209, 3) := by decide +kernel
theorem dX13_addDeed_11 : decode cX13_addDeed 11 = .ok (.ifCond .ne 5, 3) := by decide +kernel
theorem dX13_addDeed_14 : decode cX13_addDeed 14 = .ok (.iconst (-1), 1) := by decide +kernel
theorem dX13_addDeed_15 : decode cX13_addDeed 15 = .ok (.ireturn, 1) := by decide +kernel
theorem dX13_addDeed_16 : decode cX13_addDeed 16 = .ok (.aload_n 0, 1) := by decide +kernel
theorem dX13_addDeed_17 : decode cX13_addDeed 17 = .ok (.iload_n 1, 1) := by decide +kernel
theorem dX13_addDeed_18 : decode cX13_addDeed 18 = .ok (.iload_n 2, 1) := by decide +kernel
theorem dX13_addDeed_19 : decode cX13_addDeed 19 = .ok (.invokevirtual 131, 3) := by decide +kernel
theorem dX13_addDeed_22 : decode cX13_addDeed 22 = .ok (.istore 5, 2) := by decide +kernel
theorem dX13_addDeed_24 : decode cX13_addDeed 24 = .ok (.iload 5, 2) := by decide +kernel
theorem dX13_addDeed_26 : decode cX13_addDeed 26 = .ok (.ifCond .eq 6, 3) := by decide +kernel
theorem dX13_addDeed_29 : decode cX13_addDeed 29 = .ok (.iload 5, 2) := by decide +kernel
theorem dX13_addDeed_31 : decode cX13_addDeed 31 = .ok (.ireturn, 1) := by decide +kernel
theorem dX13_addDeed_32 : decode cX13_addDeed 32 = .ok (.aload_n 0, 1) := by decide +kernel
theorem dX13_addDeed_33 : decode cX13_addDeed 33 = .ok (.iload_n 1, 1) := by decide +kernel
theorem dX13_addDeed_34 : decode cX13_addDeed 34 = .ok (.iload_n 2, 1) := by decide +kernel
theorem dX13_addDeed_35 : decode cX13_addDeed 35 = .ok (.invokevirtual 128, 3) := by decide +kernel
theorem dX13_addDeed_38 : decode cX13_addDeed 38 = .ok (.istore 6, 2) := by decide +kernel
theorem dX13_addDeed_40 : decode cX13_addDeed 40 = .ok (.aload_n 0, 1) := by decide +kernel
theorem dX13_addDeed_41 : decode cX13_addDeed 41 = .ok (.getfield 26, 3) := by decide +kernel
theorem dX13_addDeed_44 : decode cX13_addDeed 44 = .ok (.iload 6, 2) := by decide +kernel
theorem dX13_addDeed_46 : decode cX13_addDeed 46 = .ok (.iaload, 1) := by decide +kernel
theorem dX13_addDeed_47 : decode cX13_addDeed 47 = .ok (.ifCond .le 17, 3) := by decide +kernel
theorem dX13_addDeed_50 : decode cX13_addDeed 50 = .ok (.aload_n 0, 1) := by decide +kernel
theorem dX13_addDeed_51 : decode cX13_addDeed 51 = .ok (.getfield 23, 3) := by decide +kernel
theorem dX13_addDeed_54 : decode cX13_addDeed 54 = .ok (.iload 6, 2) := by decide +kernel
theorem dX13_addDeed_56 : decode cX13_addDeed 56 = .ok (.iaload, 1) := by decide +kernel
theorem dX13_addDeed_57 : decode cX13_addDeed 57 = .ok (.iload_n 3, 1) := by decide +kernel
theorem dX13_addDeed_58 : decode cX13_addDeed 58 = .ok (.if_icmp .eq 6, 3) := by decide +kernel
theorem dX13_addDeed_61 : decode cX13_addDeed 61 = .ok (.bipush (-7), 2) := by decide +kernel
theorem dX13_addDeed_63 : decode cX13_addDeed 63 = .ok (.ireturn, 1) := by decide +kernel
theorem dX13_addDeed_64 : decode cX13_addDeed 64 = .ok (.iconst 0, 1) := by decide +kernel
theorem dX13_addDeed_65 : decode cX13_addDeed 65 = .ok (.istore 7, 2) := by decide +kernel
theorem dX13_addDeed_67 : decode cX13_addDeed 67 = .ok (.iload 7, 2) := by decide +kernel
theorem dX13_addDeed_69 : decode cX13_addDeed 69 = .ok (.aload_n 0, 1) := by decide +kernel
theorem dX13_addDeed_70 : decode cX13_addDeed 70 = .ok (.getfield 26, 3) := by decide +kernel
theorem dX13_addDeed_73 : decode cX13_addDeed 73 = .ok (.iload 6, 2) := by decide +kernel
theorem dX13_addDeed_75 : decode cX13_addDeed 75 = .ok (.iaload, 1) := by decide +kernel
theorem dX13_addDeed_76 : decode cX13_addDeed 76 = .ok (.if_icmp .ge 56, 3) := by decide +kernel
theorem dX13_addDeed_79 : decode cX13_addDeed 79 = .ok (.aload_n 0, 1) := by decide +kernel
theorem dX13_addDeed_80 : decode cX13_addDeed 80 = .ok (.iload_n 3, 1) := by decide +kernel
theorem dX13_addDeed_81 : decode cX13_addDeed 81 = .ok (.iload 4, 2) := by decide +kernel
theorem dX13_addDeed_83 : decode cX13_addDeed 83 = .ok (.i2l, 1) := by decide +kernel
theorem dX13_addDeed_84 : decode cX13_addDeed 84 = .ok (.invokevirtual 250, 3) := by decide +kernel
theorem dX13_addDeed_87 : decode cX13_addDeed 87 = .ok (.aload_n 0, 1) := by decide +kernel
theorem dX13_addDeed_88 : decode cX13_addDeed 88 = .ok (.iload_n 3, 1) := by decide +kernel
theorem dX13_addDeed_89 : decode cX13_addDeed 89 = .ok (.aload_n 0, 1) := by decide +kernel
theorem dX13_addDeed_90 : decode cX13_addDeed 90 = .ok (.getfield 35, 3) := by decide +kernel
theorem dX13_addDeed_93 : decode cX13_addDeed 93 = .ok (.bipush 12, 2) := by decide +kernel
theorem dX13_addDeed_95 : decode cX13_addDeed 95 = .ok (.iload 6, 2) := by decide +kernel
theorem dX13_addDeed_97 : decode cX13_addDeed 97 = .ok (.imul, 1) := by decide +kernel
theorem dX13_addDeed_98 : decode cX13_addDeed 98 = .ok (.iload 7, 2) := by decide +kernel
theorem dX13_addDeed_100 : decode cX13_addDeed 100 = .ok (.iadd, 1) := by decide +kernel
theorem dX13_addDeed_101 : decode cX13_addDeed 101 = .ok (.laload, 1) := by decide +kernel
theorem dX13_addDeed_102 : decode cX13_addDeed 102 = .ok (.aload_n 0, 1) := by decide +kernel
theorem dX13_addDeed_103 : decode cX13_addDeed 103 = .ok (.getfield 39, 3) := by decide +kernel
theorem dX13_addDeed_106 : decode cX13_addDeed 106 = .ok (.bipush 12, 2) := by decide +kernel
theorem dX13_addDeed_108 : decode cX13_addDeed 108 = .ok (.iload 6, 2) := by decide +kernel
theorem dX13_addDeed_110 : decode cX13_addDeed 110 = .ok (.imul, 1) := by decide +kernel
theorem dX13_addDeed_111 : decode cX13_addDeed 111 = .ok (.iload 7, 2) := by decide +kernel
theorem dX13_addDeed_113 : decode cX13_addDeed 113 = .ok (.iadd, 1) := by decide +kernel
theorem dX13_addDeed_114 : decode cX13_addDeed 114 = .ok (.daload, 1) := by decide +kernel
theorem dX13_addDeed_115 : decode cX13_addDeed 115 = .ok (.invokevirtual 318, 3) := by decide +kernel
theorem dX13_addDeed_118 : decode cX13_addDeed 118 = .ok (.aload_n 0, 1) := by decide +kernel
theorem dX13_addDeed_119 : decode cX13_addDeed 119 = .ok (.iload 6, 2) := by decide +kernel
theorem dX13_addDeed_121 : decode cX13_addDeed 121 = .ok (.iload 7, 2) := by decide +kernel
theorem dX13_addDeed_123 : decode cX13_addDeed 123 = .ok (.invokevirtual 216, 3) := by decide +kernel
theorem dX13_addDeed_126 : decode cX13_addDeed 126 = .ok (.iinc 7 1, 3) := by decide +kernel
theorem dX13_addDeed_129 : decode cX13_addDeed 129 = .ok (.goto (-62), 3) := by decide +kernel
theorem dX13_addDeed_132 : decode cX13_addDeed 132 = .ok (.aload_n 0, 1) := by decide +kernel
theorem dX13_addDeed_133 : decode cX13_addDeed 133 = .ok (.getfield 26, 3) := by decide +kernel
theorem dX13_addDeed_136 : decode cX13_addDeed 136 = .ok (.iload 6, 2) := by decide +kernel
theorem dX13_addDeed_138 : decode cX13_addDeed 138 = .ok (.iaload, 1) := by decide +kernel
theorem dX13_addDeed_139 : decode cX13_addDeed 139 = .ok (.ireturn, 1) := by decide +kernel
theorem dX13_add_0 : decode cX13_add 0 = .ok (.aload_n 0, 1) := by decide +kernel
theorem dX13_add_1 : decode cX13_add 1 = .ok (.aload_n 0, 1) := by decide +kernel
theorem dX13_add_2 : decode cX13_add 2 = .ok (.iload_n 1, 1) := by decide +kernel
theorem dX13_add_3 : decode cX13_add 3 = .ok (.iload_n 2, 1) := by decide +kernel
theorem dX13_add_4 : decode cX13_add 4 = .ok (.iload_n 3, 1) := by decide +kernel
theorem dX13_add_5 : decode cX13_add 5 = .ok (.iload 4, 2) := by decide +kernel
theorem dX13_add_7 : decode cX13_add 7 = .ok (.invokevirtual 322, 3) := by decide +kernel
theorem dX13_add_10 : decode cX13_add 10 = .ok (.invokevirtual 137, 3) := by decide +kernel
theorem dX13_add_13 : decode cX13_add 13 = .ok (.ireturn, 1) := by decide +kernel
theorem dX13_isAbove_0 : decode cX13_isAbove 0 = .ok (.aload_n 0, 1) := by decide +kernel
theorem dX13_isAbove_1 : decode cX13_isAbove 1 = .ok (.iload_n 3, 1) := by decide +kernel
theorem dX13_isAbove_2 : decode cX13_isAbove 2 = .ok (.lload 4, 2) := by decide +kernel
theorem dX13_isAbove_4 : decode cX13_isAbove 4 = .ok (.invokevirtual 250, 3) := by decide +kernel
theorem dX13_isAbove_7 : decode cX13_isAbove 7 = .ok (.aload_n 0, 1) := by decide +kernel
theorem dX13_isAbove_8 : decode cX13_isAbove 8 = .ok (.getfield 197, 3) := by decide +kernel
theorem dX13_isAbove_11 : decode cX13_isAbove 11 = .ok (.lstore 6, 2) := by decide +kernel
theorem dX13_isAbove_13 : decode cX13_isAbove 13 = .ok (.aload_n 0, 1) := by decide +kernel
theorem dX13_isAbove_14 : decode cX13_isAbove 14 = .ok (.getfield 193, 3) := by decide +kernel
theorem dX13_isAbove_17 : decode cX13_isAbove 17 = .ok (.dstore 8, 2) := by decide +kernel
theorem dX13_isAbove_19 : decode cX13_isAbove 19 = .ok (.aload_n 0, 1) := by decide +kernel
theorem dX13_isAbove_20 : decode cX13_isAbove 20 = .ok (.iload_n 1, 1) := by decide +kernel
theorem dX13_isAbove_21 : decode cX13_isAbove 21 = .ok (.iload_n 2, 1) := by decide +kernel
theorem dX13_isAbove_22 : decode cX13_isAbove 22 = .ok (.invokevirtual 236, 3) := by decide +kernel
theorem dX13_isAbove_25 : decode cX13_isAbove 25 = .ok (.aload_n 0, 1) := by decide +kernel
theorem dX13_isAbove_26 : decode cX13_isAbove 26 = .ok (.iload_n 3, 1) := by decide +kernel
theorem dX13_isAbove_27 : decode cX13_isAbove 27 = .ok (.invokevirtual 212, 3) := by decide +kernel
theorem dX13_isAbove_30 : decode cX13_isAbove 30 = .ok (.aload_n 0, 1) := by decide +kernel
theorem dX13_isAbove_31 : decode cX13_isAbove 31 = .ok (.getfield 197, 3) := by decide +kernel
theorem dX13_isAbove_34 : decode cX13_isAbove 34 = .ok (.lload 6, 2) := by decide +kernel
theorem dX13_isAbove_36 : decode cX13_isAbove 36 = .ok (.lcmp, 1) := by decide +kernel
theorem dX13_isAbove_37 : decode cX13_isAbove 37 = .ok (.ifCond .gt 13, 3) := by decide +kernel
theorem dX13_isAbove_40 : decode cX13_isAbove 40 = .ok (.aload_n 0, 1) := by decide +kernel
theorem dX13_isAbove_41 : decode cX13_isAbove 41 = .ok (.getfield 193, 3) := by decide +kernel
theorem dX13_isAbove_44 : decode cX13_isAbove 44 = .ok (.dload 8, 2) := by decide +kernel
theorem dX13_isAbove_46 : decode cX13_isAbove 46 = .ok (.dcmp .l, 1) := by decide +kernel
theorem dX13_isAbove_47 : decode cX13_isAbove 47 = .ok (.ifCond .le 7, 3) := by decide +kernel
theorem dX13_isAbove_50 : decode cX13_isAbove 50 = .ok (.iconst 1, 1) := by decide +kernel
theorem dX13_isAbove_51 : decode cX13_isAbove 51 = .ok (.goto 4, 3) := by decide +kernel
theorem dX13_isAbove_54 : decode cX13_isAbove 54 = .ok (.iconst 0, 1) := by decide +kernel
theorem dX13_isAbove_55 : decode cX13_isAbove 55 = .ok (.ireturn, 1) := by decide +kernel
theorem dX13_aboveDeed_0 : decode cX13_aboveDeed 0 = .ok (.iload_n 1, 1) := by decide +kernel
theorem dX13_aboveDeed_1 : decode cX13_aboveDeed 1 = .ok (.invokestatic 134, 3) := by decide +kernel
theorem dX13_aboveDeed_4 : decode cX13_aboveDeed 4 = .ok (.ifCond .eq 13, 3) := by decide +kernel
theorem dX13_aboveDeed_7 : decode cX13_aboveDeed 7 = .ok (.iload_n 3, 1) := by decide +kernel
theorem dX13_aboveDeed_8 : decode cX13_aboveDeed 8 = .ok (.iconst 4, 1) := by decide +kernel
theorem dX13_aboveDeed_9 : decode cX13_aboveDeed 9 = .ok (.bipush 7, 2) := by decide +kernel
theorem dX13_aboveDeed_11 : decode cX13_aboveDeed 11 = .ok (.invokestatic 109, 3) := by decide +kernel
theorem dX13_aboveDeed_14 : decode cX13_aboveDeed 14 = .ok (.ifCond .ne 5, 3) := by decide +kernel
theorem dX13_aboveDeed_17 : decode cX13_aboveDeed 17 = .ok (.iconst (-1), 1) := by decide +kernel
theorem dX13_aboveDeed_18 : decode cX13_aboveDeed 18 = .ok (.ireturn, 1) := by decide +kernel
theorem dX13_aboveDeed_19 : decode cX13_aboveDeed 19 = .ok (.aload_n 0, 1) := by decide +kernel
theorem dX13_aboveDeed_20 : decode cX13_aboveDeed 20 = .ok (.iload_n 1, 1) := by decide +kernel
theorem dX13_aboveDeed_21 : decode cX13_aboveDeed 21 = .ok (.iload_n 2, 1) := by decide +kernel
theorem dX13_aboveDeed_22 : decode cX13_aboveDeed 22 = .ok (.invokevirtual 131, 3) := by decide +kernel
theorem dX13_aboveDeed_25 : decode cX13_aboveDeed 25 = .ok (.istore 7, 2) := by decide +kernel
theorem dX13_aboveDeed_27 : decode cX13_aboveDeed 27 = .ok (.iload 7, 2) := by decide +kernel
theorem dX13_aboveDeed_29 : decode cX13_aboveDeed 29 = .ok (.ifCond .eq 6, 3) := by decide +kernel
theorem dX13_aboveDeed_32 : decode cX13_aboveDeed 32 = .ok (.iload 7, 2) := by decide +kernel
theorem dX13_aboveDeed_34 : decode cX13_aboveDeed 34 = .ok (.ireturn, 1) := by decide +kernel
theorem dX13_aboveDeed_35 : decode cX13_aboveDeed 35 = .ok (.aload_n 0, 1) := by decide +kernel
theorem dX13_aboveDeed_36 : decode cX13_aboveDeed 36 = .ok (.iload_n 1, 1) := by decide +kernel
theorem dX13_aboveDeed_37 : decode cX13_aboveDeed 37 = .ok (.iload_n 2, 1) := by decide +kernel
theorem dX13_aboveDeed_38 : decode cX13_aboveDeed 38 = .ok (.invokevirtual 128, 3) := by decide +kernel
theorem dX13_aboveDeed_41 : decode cX13_aboveDeed 41 = .ok (.istore 8, 2) := by decide +kernel
theorem dX13_aboveDeed_43 : decode cX13_aboveDeed 43 = .ok (.aload_n 0, 1) := by decide +kernel
theorem dX13_aboveDeed_44 : decode cX13_aboveDeed 44 = .ok (.getfield 26, 3) := by decide +kernel
theorem dX13_aboveDeed_47 : decode cX13_aboveDeed 47 = .ok (.iload 8, 2) := by decide +kernel
theorem dX13_aboveDeed_49 : decode cX13_aboveDeed 49 = .ok (.iaload, 1) := by decide +kernel
theorem dX13_aboveDeed_50 : decode cX13_aboveDeed 50 = .ok (.ifCond .le 16, 3) := by decide +kernel
theorem dX13_aboveDeed_53 : decode cX13_aboveDeed 53 = .ok (.aload_n 0, 1) := by decide +kernel
theorem dX13_aboveDeed_54 : decode cX13_aboveDeed 54 = .ok (.iload 8, 2) := by decide +kernel
theorem dX13_aboveDeed_56 : decode cX13_aboveDeed 56 = .ok (.iload_n 3, 1) := by decide +kernel
theorem dX13_aboveDeed_57 : decode cX13_aboveDeed 57 = .ok (.invokevirtual 233, 3) := by decide +kernel
theorem dX13_aboveDeed_60 : decode cX13_aboveDeed 60 = .ok (.ifCond .ne 6, 3) := by decide +kernel
theorem dX13_aboveDeed_63 : decode cX13_aboveDeed 63 = .ok (.bipush (-7), 2) := by decide +kernel
theorem dX13_aboveDeed_65 : decode cX13_aboveDeed 65 = .ok (.ireturn, 1) := by decide +kernel
theorem dX13_aboveDeed_66 : decode cX13_aboveDeed 66 = .ok (.aload_n 0, 1) := by decide +kernel
theorem dX13_aboveDeed_67 : decode cX13_aboveDeed 67 = .ok (.iload_n 1, 1) := by decide +kernel
theorem dX13_aboveDeed_68 : decode cX13_aboveDeed 68 = .ok (.iload 6, 2) := by decide +kernel
theorem dX13_aboveDeed_70 : decode cX13_aboveDeed 70 = .ok (.invokevirtual 124, 3) := by decide +kernel
theorem dX13_aboveDeed_73 : decode cX13_aboveDeed 73 = .ok (.ifCond .eq 6, 3) := by decide +kernel
theorem dX13_aboveDeed_76 : decode cX13_aboveDeed 76 = .ok (.bipush (-3), 2) := by decide +kernel
theorem dX13_aboveDeed_78 : decode cX13_aboveDeed 78 = .ok (.ireturn, 1) := by decide +kernel
theorem dX13_aboveDeed_79 : decode cX13_aboveDeed 79 = .ok (.aload_n 0, 1) := by decide +kernel
theorem dX13_aboveDeed_80 : decode cX13_aboveDeed 80 = .ok (.iconst 0, 1) := by decide +kernel
theorem dX13_aboveDeed_81 : decode cX13_aboveDeed 81 = .ok (.aload_n 0, 1) := by decide +kernel
theorem dX13_aboveDeed_82 : decode cX13_aboveDeed 82 = .ok (.getfield 26, 3) := by decide +kernel
theorem dX13_aboveDeed_85 : decode cX13_aboveDeed 85 = .ok (.iload 8, 2) := by decide +kernel
theorem dX13_aboveDeed_87 : decode cX13_aboveDeed 87 = .ok (.iaload, 1) := by decide +kernel
theorem dX13_aboveDeed_88 : decode cX13_aboveDeed 88 = .ok (.invokevirtual 155, 3) := by decide +kernel
theorem dX13_aboveDeed_91 : decode cX13_aboveDeed 91 = .ok (.istore 9, 2) := by decide +kernel
theorem dX13_aboveDeed_93 : decode cX13_aboveDeed 93 = .ok (.iconst 0, 1) := by decide +kernel
theorem dX13_aboveDeed_94 : decode cX13_aboveDeed 94 = .ok (.istore 10, 2) := by decide +kernel
theorem dX13_aboveDeed_96 : decode cX13_aboveDeed 96 = .ok (.iconst 0, 1) := by decide +kernel
theorem dX13_aboveDeed_97 : decode cX13_aboveDeed 97 = .ok (.istore 11, 2) := by decide +kernel
theorem dX13_aboveDeed_99 : decode cX13_aboveDeed 99 = .ok (.iload 11, 2) := by decide +kernel
theorem dX13_aboveDeed_101 : decode cX13_aboveDeed 101 = .ok (.aload_n 0, 1) := by decide +kernel
theorem dX13_aboveDeed_102 : decode cX13_aboveDeed 102 = .ok (.getfield 26, 3) := by decide +kernel
theorem dX13_aboveDeed_105 : decode cX13_aboveDeed 105 = .ok (.iload 8, 2) := by decide +kernel
theorem dX13_aboveDeed_107 : decode cX13_aboveDeed 107 = .ok (.iaload, 1) := by decide +kernel
theorem dX13_aboveDeed_108 : decode cX13_aboveDeed 108 = .ok (.if_icmp .ge 60, 3) := by decide +kernel
theorem dX13_aboveDeed_111 : decode cX13_aboveDeed 111 = .ok (.aload_n 0, 1) := by decide +kernel
theorem dX13_aboveDeed_112 : decode cX13_aboveDeed 112 = .ok (.iload 8, 2) := by decide +kernel
theorem dX13_aboveDeed_114 : decode cX13_aboveDeed 114 = .ok (.iload 11, 2) := by decide +kernel
theorem dX13_aboveDeed_116 : decode cX13_aboveDeed 116 = .ok (.iload_n 3, 1) := by decide +kernel
theorem dX13_aboveDeed_117 : decode cX13_aboveDeed 117 = .ok (.lload 4, 2) := by decide +kernel
theorem dX13_aboveDeed_119 : decode cX13_aboveDeed 119 = .ok (.invokevirtual 325, 3) := by decide +kernel
theorem dX13_aboveDeed_122 : decode cX13_aboveDeed 122 = .ok (.istore 12, 2) := by decide +kernel
theorem dX13_aboveDeed_124 : decode cX13_aboveDeed 124 = .ok (.aload_n 0, 1) := by decide +kernel
theorem dX13_aboveDeed_125 : decode cX13_aboveDeed 125 = .ok (.getfield 35, 3) := by decide +kernel
theorem dX13_aboveDeed_128 : decode cX13_aboveDeed 128 = .ok (.bipush 12, 2) := by decide +kernel
theorem dX13_aboveDeed_130 : decode cX13_aboveDeed 130 = .ok (.iload 9, 2) := by decide +kernel
theorem dX13_aboveDeed_132 : decode cX13_aboveDeed 132 = .ok (.imul, 1) := by decide +kernel
theorem dX13_aboveDeed_133 : decode cX13_aboveDeed 133 = .ok (.iload 11, 2) := by decide +kernel
theorem dX13_aboveDeed_135 : decode cX13_aboveDeed 135 = .ok (.iadd, 1) := by decide +kernel
theorem dX13_aboveDeed_136 : decode cX13_aboveDeed 136 = .ok (.iload 12, 2) := by decide +kernel
theorem dX13_aboveDeed_138 : decode cX13_aboveDeed 138 = .ok (.ifCond .eq 7, 3) := by decide +kernel
theorem dX13_aboveDeed_141 : decode cX13_aboveDeed 141 = .ok (.lconst 1, 1) := by decide +kernel
theorem dX13_aboveDeed_142 : decode cX13_aboveDeed 142 = .ok (.goto 4, 3) := by decide +kernel
theorem dX13_aboveDeed_145 : decode cX13_aboveDeed 145 = .ok (.lconst 0, 1) := by decide +kernel
theorem dX13_aboveDeed_146 : decode cX13_aboveDeed 146 = .ok (.lastore, 1) := by decide +kernel
theorem dX13_aboveDeed_147 : decode cX13_aboveDeed 147 = .ok (.iload 10, 2) := by decide +kernel
theorem dX13_aboveDeed_149 : decode cX13_aboveDeed 149 = .ok (.iload 12, 2) := by decide +kernel
theorem dX13_aboveDeed_151 : decode cX13_aboveDeed 151 = .ok (.ifCond .eq 7, 3) := by decide +kernel
theorem dX13_aboveDeed_154 : decode cX13_aboveDeed 154 = .ok (.iconst 1, 1) := by decide +kernel
theorem dX13_aboveDeed_155 : decode cX13_aboveDeed 155 = .ok (.goto 4, 3) := by decide +kernel
theorem dX13_aboveDeed_158 : decode cX13_aboveDeed 158 = .ok (.iconst 0, 1) := by decide +kernel
theorem dX13_aboveDeed_159 : decode cX13_aboveDeed 159 = .ok (.iadd, 1) := by decide +kernel
theorem dX13_aboveDeed_160 : decode cX13_aboveDeed 160 = .ok (.istore 10, 2) := by decide +kernel
theorem dX13_aboveDeed_162 : decode cX13_aboveDeed 162 = .ok (.iinc 11 1, 3) := by decide +kernel
theorem dX13_aboveDeed_165 : decode cX13_aboveDeed 165 = .ok (.goto (-66), 3) := by decide +kernel
theorem dX13_aboveDeed_168 : decode cX13_aboveDeed 168 = .ok (.aload_n 0, 1) := by decide +kernel
theorem dX13_aboveDeed_169 : decode cX13_aboveDeed 169 = .ok (.iload_n 1, 1) := by decide +kernel
theorem dX13_aboveDeed_170 : decode cX13_aboveDeed 170 = .ok (.iload 6, 2) := by decide +kernel
theorem dX13_aboveDeed_172 : decode cX13_aboveDeed 172 = .ok (.iload 9, 2) := by decide +kernel
theorem dX13_aboveDeed_174 : decode cX13_aboveDeed 174 = .ok (.invokevirtual 145, 3) := by decide +kernel
theorem dX13_aboveDeed_177 : decode cX13_aboveDeed 177 = .ok (.iload 10, 2) := by decide +kernel
theorem dX13_aboveDeed_179 : decode cX13_aboveDeed 179 = .ok (.ireturn, 1) := by decide +kernel
theorem dX13_above_0 : decode cX13_above 0 = .ok (.aload_n 0, 1) := by decide +kernel
theorem dX13_above_1 : decode cX13_above 1 = .ok (.aload_n 0, 1) := by decide +kernel
theorem dX13_above_2 : decode cX13_above 2 = .ok (.iload_n 1, 1) := by decide +kernel
theorem dX13_above_3 : decode cX13_above 3 = .ok (.iload_n 2, 1) := by decide +kernel
theorem dX13_above_4 : decode cX13_above 4 = .ok (.iload_n 3, 1) := by decide +kernel
theorem dX13_above_5 : decode cX13_above 5 = .ok (.lload 4, 2) := by decide +kernel
theorem dX13_above_7 : decode cX13_above 7 = .ok (.iload 6, 2) := by decide +kernel
theorem dX13_above_9 : decode cX13_above 9 = .ok (.invokevirtual 329, 3) := by decide +kernel
theorem dX13_above_12 : decode cX13_above 12 = .ok (.invokevirtual 137, 3) := by decide +kernel
theorem dX13_above_15 : decode cX13_above 15 = .ok (.ireturn, 1) := by decide +kernel
theorem dX13_pickDeed_0 : decode cX13_pickDeed 0 = .ok (.iload_n 1, 1) := by decide +kernel
theorem dX13_pickDeed_1 : decode cX13_pickDeed 1 = .ok (.invokestatic 134, 3) := by decide +kernel
theorem dX13_pickDeed_4 : decode cX13_pickDeed 4 = .ok (.ifCond .ne 5, 3) := by decide +kernel
theorem dX13_pickDeed_7 : decode cX13_pickDeed 7 = .ok (.iconst (-1), 1) := by decide +kernel
theorem dX13_pickDeed_8 : decode cX13_pickDeed 8 = .ok (.ireturn, 1) := by decide +kernel
theorem dX13_pickDeed_9 : decode cX13_pickDeed 9 = .ok (.aload_n 0, 1) := by decide +kernel
theorem dX13_pickDeed_10 : decode cX13_pickDeed 10 = .ok (.iload_n 1, 1) := by decide +kernel
theorem dX13_pickDeed_11 : decode cX13_pickDeed 11 = .ok (.iload_n 2, 1) := by decide +kernel
theorem dX13_pickDeed_12 : decode cX13_pickDeed 12 = .ok (.iload_n 1, 1) := by decide +kernel
theorem dX13_pickDeed_13 : decode cX13_pickDeed 13 = .ok (.iload_n 3, 1) := by decide +kernel
theorem dX13_pickDeed_14 : decode cX13_pickDeed 14 = .ok (.invokevirtual 181, 3) := by decide +kernel
theorem dX13_pickDeed_17 : decode cX13_pickDeed 17 = .ok (.istore 4, 2) := by decide +kernel
theorem dX13_pickDeed_19 : decode cX13_pickDeed 19 = .ok (.iload 4, 2) := by decide +kernel
theorem dX13_pickDeed_21 : decode cX13_pickDeed 21 = .ok (.ifCond .eq 6, 3) := by decide +kernel
theorem dX13_pickDeed_24 : decode cX13_pickDeed 24 = .ok (.iload 4, 2) := by decide +kernel
theorem dX13_pickDeed_26 : decode cX13_pickDeed 26 = .ok (.ireturn, 1) := by decide +kernel
theorem dX13_pickDeed_27 : decode cX13_pickDeed 27 = .ok (.aload_n 0, 1) := by decide +kernel
theorem dX13_pickDeed_28 : decode cX13_pickDeed 28 = .ok (.iload_n 1, 1) := by decide +kernel
theorem dX13_pickDeed_29 : decode cX13_pickDeed 29 = .ok (.iload_n 2, 1) := by decide +kernel
theorem dX13_pickDeed_30 : decode cX13_pickDeed 30 = .ok (.invokevirtual 128, 3) := by decide +kernel
theorem dX13_pickDeed_33 : decode cX13_pickDeed 33 = .ok (.istore 5, 2) := by decide +kernel
theorem dX13_pickDeed_35 : decode cX13_pickDeed 35 = .ok (.aload_n 0, 1) := by decide +kernel
theorem dX13_pickDeed_36 : decode cX13_pickDeed 36 = .ok (.iload_n 1, 1) := by decide +kernel
theorem dX13_pickDeed_37 : decode cX13_pickDeed 37 = .ok (.iload_n 3, 1) := by decide +kernel
theorem dX13_pickDeed_38 : decode cX13_pickDeed 38 = .ok (.invokevirtual 128, 3) := by decide +kernel
theorem dX13_pickDeed_41 : decode cX13_pickDeed 41 = .ok (.istore 6, 2) := by decide +kernel
theorem dX13_pickDeed_43 : decode cX13_pickDeed 43 = .ok (.iconst 0, 1) := by decide +kernel
theorem dX13_pickDeed_44 : decode cX13_pickDeed 44 = .ok (.istore 7, 2) := by decide +kernel
theorem dX13_pickDeed_46 : decode cX13_pickDeed 46 = .ok (.iconst 0, 1) := by decide +kernel
theorem dX13_pickDeed_47 : decode cX13_pickDeed 47 = .ok (.istore 8, 2) := by decide +kernel
theorem dX13_pickDeed_49 : decode cX13_pickDeed 49 = .ok (.iload 8, 2) := by decide +kernel
theorem dX13_pickDeed_51 : decode cX13_pickDeed 51 = .ok (.aload_n 0, 1) := by decide +kernel
theorem dX13_pickDeed_52 : decode cX13_pickDeed 52 = .ok (.getfield 26, 3) := by decide +kernel
theorem dX13_pickDeed_55 : decode cX13_pickDeed 55 = .ok (.iload 5, 2) := by decide +kernel
theorem dX13_pickDeed_57 : decode cX13_pickDeed 57 = .ok (.iaload, 1) := by decide +kernel
theorem dX13_pickDeed_58 : decode cX13_pickDeed 58 = .ok (.if_icmp .ge 56, 3) := by decide +kernel
theorem dX13_pickDeed_61 : decode cX13_pickDeed 61 = .ok (.iload 8, 2) := by decide +kernel
theorem dX13_pickDeed_63 : decode cX13_pickDeed 63 = .ok (.aload_n 0, 1) := by decide +kernel
theorem dX13_pickDeed_64 : decode cX13_pickDeed 64 = .ok (.getfield 26, 3) := by decide +kernel
theorem dX13_pickDeed_67 : decode cX13_pickDeed 67 = .ok (.iload 6, 2) := by decide +kernel
theorem dX13_pickDeed_69 : decode cX13_pickDeed 69 = .ok (.iaload, 1) := by decide +kernel
theorem dX13_pickDeed_70 : decode cX13_pickDeed 70 = .ok (.if_icmp .lt 6, 3) := by decide +kernel
theorem dX13_pickDeed_73 : decode cX13_pickDeed 73 = .ok (.bipush (-6), 2) := by decide +kernel
theorem dX13_pickDeed_75 : decode cX13_pickDeed 75 = .ok (.ireturn, 1) := by decide +kernel
theorem dX13_pickDeed_76 : decode cX13_pickDeed 76 = .ok (.aload_n 0, 1) := by decide +kernel
theorem dX13_pickDeed_77 : decode cX13_pickDeed 77 = .ok (.iload 6, 2) := by decide +kernel
theorem dX13_pickDeed_79 : decode cX13_pickDeed 79 = .ok (.iconst 0, 1) := by decide +kernel
theorem dX13_pickDeed_80 : decode cX13_pickDeed 80 = .ok (.invokevirtual 233, 3) := by decide +kernel
theorem dX13_pickDeed_83 : decode cX13_pickDeed 83 = .ok (.ifCond .ne 6, 3) := by decide +kernel
theorem dX13_pickDeed_86 : decode cX13_pickDeed 86 = .ok (.bipush (-7), 2) := by decide +kernel
theorem dX13_pickDeed_88 : decode cX13_pickDeed 88 = .ok (.ireturn, 1) := by decide +kernel
theorem dX13_pickDeed_89 : decode cX13_pickDeed 89 = .ok (.iload 7, 2) := by decide +kernel
theorem dX13_pickDeed_91 : decode cX13_pickDeed 91 = .ok (.aload_n 0, 1) := by decide +kernel
theorem dX13_pickDeed_92 : decode cX13_pickDeed 92 = .ok (.getfield 35, 3) := by decide +kernel
theorem dX13_pickDeed_95 : decode cX13_pickDeed 95 = .ok (.bipush 12, 2) := by decide +kernel
theorem dX13_pickDeed_97 : decode cX13_pickDeed 97 = .ok (.iload 6, 2) := by decide +kernel
theorem dX13_pickDeed_99 : decode cX13_pickDeed 99 = .ok (.imul, 1) := by decide +kernel
theorem dX13_pickDeed_100 : decode cX13_pickDeed 100 = .ok (.iload 8, 2) := by decide +kernel
theorem dX13_pickDeed_102 : decode cX13_pickDeed 102 = .ok (.iadd, 1) := by decide +kernel
theorem dX13_pickDeed_103 : decode cX13_pickDeed 103 = .ok (.laload, 1) := by decide +kernel
theorem dX13_pickDeed_104 : decode cX13_pickDeed 104 = .ok (.l2i, 1) := by decide +kernel
theorem dX13_pickDeed_105 : decode cX13_pickDeed 105 = .ok (.iadd, 1) := by decide +kernel
theorem dX13_pickDeed_106 : decode cX13_pickDeed 106 = .ok (.istore 7, 2) := by decide +kernel
theorem dX13_pickDeed_108 : decode cX13_pickDeed 108 = .ok (.iinc 8 1, 3) := by decide +kernel
theorem dX13_pickDeed_111 : decode cX13_pickDeed 111 = .ok (.goto (-62), 3) := by decide +kernel
theorem dX13_pickDeed_114 : decode cX13_pickDeed 114 = .ok (.aload_n 0, 1) := by decide +kernel
theorem dX13_pickDeed_115 : decode cX13_pickDeed 115 = .ok (.aload_n 0, 1) := by decide +kernel
theorem dX13_pickDeed_116 : decode cX13_pickDeed 116 = .ok (.getfield 23, 3) := by decide +kernel
theorem dX13_pickDeed_119 : decode cX13_pickDeed 119 = .ok (.iload 5, 2) := by decide +kernel
theorem dX13_pickDeed_121 : decode cX13_pickDeed 121 = .ok (.iaload, 1) := by decide +kernel
theorem dX13_pickDeed_122 : decode cX13_pickDeed 122 = .ok (.iload 7, 2) := by decide +kernel
theorem dX13_pickDeed_124 : decode cX13_pickDeed 124 = .ok (.invokevirtual 155, 3) := by decide +kernel
theorem dX13_pickDeed_127 : decode cX13_pickDeed 127 = .ok (.istore 8, 2) := by decide +kernel
theorem dX13_pickDeed_129 : decode cX13_pickDeed 129 = .ok (.iconst 0, 1) := by decide +kernel
theorem dX13_pickDeed_130 : decode cX13_pickDeed 130 = .ok (.istore 9, 2) := by decide +kernel
theorem dX13_pickDeed_132 : decode cX13_pickDeed 132 = .ok (.iconst 0, 1) := by decide +kernel
theorem dX13_pickDeed_133 : decode cX13_pickDeed 133 = .ok (.istore 10, 2) := by decide +kernel
theorem dX13_pickDeed_135 : decode cX13_pickDeed 135 = .ok (.iload 10, 2) := by decide +kernel
theorem dX13_pickDeed_137 : decode cX13_pickDeed 137 = .ok (.aload_n 0, 1) := by decide +kernel
theorem dX13_pickDeed_138 : decode cX13_pickDeed 138 = .ok (.getfield 26, 3) := by decide +kernel
theorem dX13_pickDeed_141 : decode cX13_pickDeed 141 = .ok (.iload 5, 2) := by decide +kernel
theorem dX13_pickDeed_143 : decode cX13_pickDeed 143 = .ok (.iaload, 1) := by decide +kernel
theorem dX13_pickDeed_144 : decode cX13_pickDeed 144 = .ok (.if_icmp .ge 42, 3) := by decide +kernel
theorem dX13_pickDeed_147 : decode cX13_pickDeed 147 = .ok (.aload_n 0, 1) := by decide +kernel
theorem dX13_pickDeed_148 : decode cX13_pickDeed 148 = .ok (.getfield 35, 3) := by decide +kernel
theorem dX13_pickDeed_151 : decode cX13_pickDeed 151 = .ok (.bipush 12, 2) := by decide +kernel
theorem dX13_pickDeed_153 : decode cX13_pickDeed 153 = .ok (.iload 6, 2) := by decide +kernel
theorem dX13_pickDeed_155 : decode cX13_pickDeed 155 = .ok (.imul, 1) := by decide +kernel
theorem dX13_pickDeed_156 : decode cX13_pickDeed 156 = .ok (.iload 10, 2) := by decide +kernel
theorem dX13_pickDeed_158 : decode cX13_pickDeed 158 = .ok (.iadd, 1) := by decide +kernel
theorem dX13_pickDeed_159 : decode cX13_pickDeed 159 = .ok (.laload, 1) := by decide +kernel
theorem dX13_pickDeed_160 : decode cX13_pickDeed 160 = .ok (.lconst 1, 1) := by decide +kernel
theorem dX13_pickDeed_161 : decode cX13_pickDeed 161 = .ok (.lcmp, 1) := by decide +kernel
theorem dX13_pickDeed_162 : decode cX13_pickDeed 162 = .ok (.ifCond .ne 18, 3) := by decide +kernel
theorem dX13_pickDeed_165 : decode cX13_pickDeed 165 = .ok (.aload_n 0, 1) := by decide +kernel
theorem dX13_pickDeed_166 : decode cX13_pickDeed 166 = .ok (.iload 5, 2) := by decide +kernel
theorem dX13_pickDeed_168 : decode cX13_pickDeed 168 = .ok (.iload 10, 2) := by decide +kernel
theorem dX13_pickDeed_170 : decode cX13_pickDeed 170 = .ok (.iload 8, 2) := by decide +kernel
theorem dX13_pickDeed_172 : decode cX13_pickDeed 172 = .ok (.iload 9, 2) := by decide +kernel
theorem dX13_pickDeed_174 : decode cX13_pickDeed 174 = .ok (.invokevirtual 280, 3) := by decide +kernel
theorem dX13_pickDeed_177 : decode cX13_pickDeed 177 = .ok (.iinc 9 1, 3) := by decide +kernel
theorem dX13_pickDeed_180 : decode cX13_pickDeed 180 = .ok (.iinc 10 1, 3) := by decide +kernel
theorem dX13_pickDeed_183 : decode cX13_pickDeed 183 = .ok (.goto (-48), 3) := by decide +kernel
theorem dX13_pickDeed_186 : decode cX13_pickDeed 186 = .ok (.aload_n 0, 1) := by decide +kernel
theorem dX13_pickDeed_187 : decode cX13_pickDeed 187 = .ok (.iload_n 1, 1) := by decide +kernel
theorem dX13_pickDeed_188 : decode cX13_pickDeed 188 = .ok (.iload_n 2, 1) := by decide +kernel
theorem dX13_pickDeed_189 : decode cX13_pickDeed 189 = .ok (.iload 8, 2) := by decide +kernel
theorem dX13_pickDeed_191 : decode cX13_pickDeed 191 = .ok (.invokevirtual 145, 3) := by decide +kernel
theorem dX13_pickDeed_194 : decode cX13_pickDeed 194 = .ok (.iload 7, 2) := by decide +kernel
theorem dX13_pickDeed_196 : decode cX13_pickDeed 196 = .ok (.ireturn, 1) := by decide +kernel
theorem dX13_pick_0 : decode cX13_pick 0 = .ok (.aload_n 0, 1) := by decide +kernel
theorem dX13_pick_1 : decode cX13_pick 1 = .ok (.aload_n 0, 1) := by decide +kernel
theorem dX13_pick_2 : decode cX13_pick 2 = .ok (.iload_n 1, 1) := by decide +kernel
theorem dX13_pick_3 : decode cX13_pick 3 = .ok (.iload_n 2, 1) := by decide +kernel
theorem dX13_pick_4 : decode cX13_pick 4 = .ok (.iload_n 3, 1) := by decide +kernel
theorem dX13_pick_5 : decode cX13_pick 5 = .ok (.invokevirtual 333, 3) := by decide +kernel
theorem dX13_pick_8 : decode cX13_pick 8 = .ok (.invokevirtual 137, 3) := by decide +kernel
theorem dX13_pick_11 : decode cX13_pick 11 = .ok (.ireturn, 1) := by decide +kernel
theorem dX13_isRow_0 : decode cX13_isRow 0 = .ok (.aload_n 0, 1) := by decide +kernel
theorem dX13_isRow_1 : decode cX13_isRow 1 = .ok (.iload_n 1, 1) := by decide +kernel
theorem dX13_isRow_2 : decode cX13_isRow 2 = .ok (.iload_n 2, 1) := by decide +kernel
theorem dX13_isRow_3 : decode cX13_isRow 3 = .ok (.invokevirtual 128, 3) := by decide +kernel
theorem dX13_isRow_6 : decode cX13_isRow 6 = .ok (.ifCond .lt 7, 3) := by decide +kernel
theorem dX13_isRow_9 : decode cX13_isRow 9 = .ok (.iconst 1, 1) := by decide +kernel
theorem dX13_isRow_10 : decode cX13_isRow 10 = .ok (.goto 4, 3) := by decide +kernel
theorem dX13_isRow_13 : decode cX13_isRow 13 = .ok (.iconst 0, 1) := by decide +kernel
theorem dX13_isRow_14 : decode cX13_isRow 14 = .ok (.ireturn, 1) := by decide +kernel
theorem dX13_flatDeed_0 : decode cX13_flatDeed 0 = .ok (.iload_n 1, 1) := by decide +kernel
theorem dX13_flatDeed_1 : decode cX13_flatDeed 1 = .ok (.invokestatic 134, 3) := by decide +kernel
theorem dX13_flatDeed_4 : decode cX13_flatDeed 4 = .ok (.ifCond .eq 10, 3) := by decide +kernel
theorem dX13_flatDeed_7 : decode cX13_flatDeed 7 = .ok (.iload_n 2, 1) := by decide +kernel
theorem dX13_flatDeed_8 : decode cX13_flatDeed 8 = .ok (.invokestatic 134, 3) := by decide +kernel
theorem dX13_flatDeed_11 : decode cX13_flatDeed 11 = .ok (.ifCond .ne 5, 3) := by decide +kernel
theorem dX13_flatDeed_14 : decode cX13_flatDeed 14 = .ok (.iconst (-1), 1) := by decide +kernel
theorem dX13_flatDeed_15 : decode cX13_flatDeed 15 = .ok (.ireturn, 1) := by decide +kernel
theorem dX13_flatDeed_16 : decode cX13_flatDeed 16 = .ok (.aload_n 0, 1) := by decide +kernel
theorem dX13_flatDeed_17 : decode cX13_flatDeed 17 = .ok (.getfield 17, 3) := by decide +kernel
theorem dX13_flatDeed_20 : decode cX13_flatDeed 20 = .ok (.iload_n 1, 1) := by decide +kernel
theorem dX13_flatDeed_21 : decode cX13_flatDeed 21 = .ok (.iaload, 1) := by decide +kernel
theorem dX13_flatDeed_22 : decode cX13_flatDeed 22 = .ok (.ifCond .ge 8, 3) := by decide +kernel
theorem dX13_flatDeed_25 : decode cX13_flatDeed 25 = .ok (.bipush (-2), 2) := by decide +kernel
theorem dX13_flatDeed_27 : decode cX13_flatDeed 27 = .ok (.goto 9, 3) := by decide +kernel
theorem dX13_flatDeed_30 : decode cX13_flatDeed 30 = .ok (.aload_n 0, 1) := by decide +kernel
theorem dX13_flatDeed_31 : decode cX13_flatDeed 31 = .ok (.iload_n 2, 1) := by decide +kernel
theorem dX13_flatDeed_32 : decode cX13_flatDeed 32 = .ok (.iload_n 3, 1) := by decide +kernel
theorem dX13_flatDeed_33 : decode cX13_flatDeed 33 = .ok (.invokevirtual 124, 3) := by decide +kernel
theorem dX13_flatDeed_36 : decode cX13_flatDeed 36 = .ok (.istore 4, 2) := by decide +kernel
theorem dX13_flatDeed_38 : decode cX13_flatDeed 38 = .ok (.iload 4, 2) := by decide +kernel
theorem dX13_flatDeed_40 : decode cX13_flatDeed 40 = .ok (.ifCond .eq 6, 3) := by decide +kernel
theorem dX13_flatDeed_43 : decode cX13_flatDeed 43 = .ok (.iload 4, 2) := by decide +kernel
theorem dX13_flatDeed_45 : decode cX13_flatDeed 45 = .ok (.ireturn, 1) := by decide +kernel
theorem dX13_flatDeed_46 : decode cX13_flatDeed 46 = .ok (.iconst 0, 1) := by decide +kernel
theorem dX13_flatDeed_47 : decode cX13_flatDeed 47 = .ok (.istore 5, 2) := by decide +kernel
theorem dX13_flatDeed_49 : decode cX13_flatDeed 49 = .ok (.iconst 0, 1) := by decide +kernel
theorem dX13_flatDeed_50 : decode cX13_flatDeed 50 = .ok (.istore 6, 2) := by decide +kernel
theorem dX13_flatDeed_52 : decode cX13_flatDeed 52 = .ok (.iconst 0, 1) := by decide +kernel
theorem dX13_flatDeed_53 : decode cX13_flatDeed 53 = .ok (.istore 7, 2) := by decide +kernel
theorem dX13_flatDeed_55 : decode cX13_flatDeed 55 = .ok (.iload 7, 2) := by decide +kernel
theorem dX13_flatDeed_57 : decode cX13_flatDeed 57 = .ok (.aload_n 0, 1) := by decide +kernel
theorem dX13_flatDeed_58 : decode cX13_flatDeed 58 = .ok (.getfield 17, 3) := by decide +kernel
theorem dX13_flatDeed_61 : decode cX13_flatDeed 61 = .ok (.iload_n 1, 1) := by decide +kernel
theorem dX13_flatDeed_62 : decode cX13_flatDeed 62 = .ok (.iaload, 1) := by decide +kernel
theorem dX13_flatDeed_63 : decode cX13_flatDeed 63 = .ok (.if_icmp .ge 73, 3) := by decide +kernel
theorem dX13_flatDeed_66 : decode cX13_flatDeed 66 = .ok (.iload 5, 2) := by decide +kernel
theorem dX13_flatDeed_68 : decode cX13_flatDeed 68 = .ok (.aload_n 0, 1) := by decide +kernel
theorem dX13_flatDeed_69 : decode cX13_flatDeed 69 = .ok (.iload_n 1, 1) := by decide +kernel
theorem dX13_flatDeed_70 : decode cX13_flatDeed 70 = .ok (.iload 7, 2) := by decide +kernel
theorem dX13_flatDeed_72 : decode cX13_flatDeed 72 = .ok (.invokevirtual 336, 3) := by decide +kernel
theorem dX13_flatDeed_75 : decode cX13_flatDeed 75 = .ok (.ifCond .eq 18, 3) := by decide +kernel
theorem dX13_flatDeed_78 : decode cX13_flatDeed 78 = .ok (.aload_n 0, 1) := by decide +kernel
theorem dX13_flatDeed_79 : decode cX13_flatDeed 79 = .ok (.getfield 26, 3) := by decide +kernel
theorem dX13_flatDeed_82 : decode cX13_flatDeed 82 = .ok (.aload_n 0, 1) := by decide +kernel
theorem dX13_flatDeed_83 : decode cX13_flatDeed 83 = .ok (.iload_n 1, 1) := by decide +kernel
theorem dX13_flatDeed_84 : decode cX13_flatDeed 84 = .ok (.iload 7, 2) := by decide +kernel
theorem dX13_flatDeed_86 : decode cX13_flatDeed 86 = .ok (.invokevirtual 128, 3) := by decide +kernel
theorem dX13_flatDeed_89 : decode cX13_flatDeed 89 = .ok (.iaload, 1) := by decide +kernel
theorem dX13_flatDeed_90 : decode cX13_flatDeed 90 = .ok (.goto 4, 3) := by decide +kernel
theorem dX13_flatDeed_93 : decode cX13_flatDeed 93 = .ok (.iconst 0, 1) := by decide +kernel
theorem dX13_flatDeed_94 : decode cX13_flatDeed 94 = .ok (.iadd, 1) := by decide +kernel
theorem dX13_flatDeed_95 : decode cX13_flatDeed 95 = .ok (.istore 5, 2) := by decide +kernel
theorem dX13_flatDeed_97 : decode cX13_flatDeed 97 = .ok (.iload 6, 2) := by decide +kernel
theorem dX13_flatDeed_99 : decode cX13_flatDeed 99 = .ok (.aload_n 0, 1) := by decide +kernel
theorem dX13_flatDeed_100 : decode cX13_flatDeed 100 = .ok (.iload_n 1, 1) := by decide +kernel
theorem dX13_flatDeed_101 : decode cX13_flatDeed 101 = .ok (.iload 7, 2) := by decide +kernel
theorem dX13_flatDeed_103 : decode cX13_flatDeed 103 = .ok (.invokevirtual 336, 3) := by decide +kernel
theorem dX13_flatDeed_106 : decode cX13_flatDeed 106 = .ok (.ifCond .eq 20, 3) := by decide +kernel
theorem dX13_flatDeed_109 : decode cX13_flatDeed 109 = .ok (.iconst 1, 1) := by decide +kernel
theorem dX13_flatDeed_110 : decode cX13_flatDeed 110 = .ok (.aload_n 0, 1) := by decide +kernel
theorem dX13_flatDeed_111 : decode cX13_flatDeed 111 = .ok (.getfield 23, 3) := by decide +kernel
theorem dX13_flatDeed_114 : decode cX13_flatDeed 114 = .ok (.aload_n 0, 1) := by decide +kernel
theorem dX13_flatDeed_115 : decode cX13_flatDeed 115 = .ok (.iload_n 1, 1) := by decide +kernel
theorem dX13_flatDeed_116 : decode cX13_flatDeed 116 = .ok (.iload 7, 2) := by decide +kernel
theorem dX13_flatDeed_118 : decode cX13_flatDeed 118 = .ok (.invokevirtual 128, 3) := by decide +kernel
theorem dX13_flatDeed_121 : decode cX13_flatDeed 121 = .ok (.iaload, 1) := by decide +kernel
theorem dX13_flatDeed_122 : decode cX13_flatDeed 122 = .ok (.ishl, 1) := by decide +kernel
theorem dX13_flatDeed_123 : decode cX13_flatDeed 123 = .ok (.goto 4, 3) := by decide +kernel
theorem dX13_flatDeed_126 : decode cX13_flatDeed 126 = .ok (.iconst 0, 1) := by decide +kernel
theorem dX13_flatDeed_127 : decode cX13_flatDeed 127 = .ok (.ior, 1) := by decide +kernel
theorem dX13_flatDeed_128 : decode cX13_flatDeed 128 = .ok (.istore 6, 2) := by decide +kernel
theorem dX13_flatDeed_130 : decode cX13_flatDeed 130 = .ok (.iinc 7 1, 3) := by decide +kernel
theorem dX13_flatDeed_133 : decode cX13_flatDeed 133 = .ok (.goto (-78), 3) := by decide +kernel
theorem dX13_flatDeed_136 : decode cX13_flatDeed 136 = .ok (.iload 5, 2) := by decide +kernel
theorem dX13_flatDeed_138 : decode cX13_flatDeed 138 = .ok (.bipush 12, 2) := by decide +kernel
theorem dX13_flatDeed_140 : decode cX13_flatDeed 140 = .ok (.if_icmp .le 6, 3) := by decide +kernel
theorem dX13_flatDeed_143 : decode cX13_flatDeed 143 = .ok (.bipush (-10), 2) := by decide +kernel
theorem dX13_flatDeed_145 : decode cX13_flatDeed 145 = .ok (.ireturn, 1) := by decide +kernel
theorem dX13_flatDeed_146 : decode cX13_flatDeed 146 = .ok (.aload_n 0, 1) := by decide +kernel
theorem dX13_flatDeed_147 : decode cX13_flatDeed 147 = .ok (.iload 6, 2) := by decide +kernel
theorem dX13_flatDeed_149 : decode cX13_flatDeed 149 = .ok (.invokestatic 294, 3) := by decide +kernel
theorem dX13_flatDeed_152 : decode cX13_flatDeed 152 = .ok (.iload 5, 2) := by decide +kernel
theorem dX13_flatDeed_154 : decode cX13_flatDeed 154 = .ok (.invokevirtual 155, 3) := by decide +kernel
theorem dX13_flatDeed_157 : decode cX13_flatDeed 157 = .ok (.istore 7, 2) := by decide +kernel
theorem dX13_flatDeed_159 : decode cX13_flatDeed 159 = .ok (.iconst 0, 1) := by decide +kernel
theorem dX13_flatDeed_160 : decode cX13_flatDeed 160 = .ok (.istore 8, 2) := by decide +kernel
theorem dX13_flatDeed_162 : decode cX13_flatDeed 162 = .ok (.iconst 0, 1) := by decide +kernel
theorem dX13_flatDeed_163 : decode cX13_flatDeed 163 = .ok (.istore 9, 2) := by decide +kernel
theorem dX13_flatDeed_165 : decode cX13_flatDeed 165 = .ok (.iload 9, 2) := by decide +kernel
theorem dX13_flatDeed_167 : decode cX13_flatDeed 167 = .ok (.aload_n 0, 1) := by decide +kernel
theorem dX13_flatDeed_168 : decode cX13_flatDeed 168 = .ok (.getfield 17, 3) := by decide +kernel
theorem dX13_flatDeed_171 : decode cX13_flatDeed 171 = .ok (.iload_n 1, 1) := by decide +kernel
theorem dX13_flatDeed_172 : decode cX13_flatDeed 172 = .ok (.iaload, 1) := by decide +kernel
theorem dX13_flatDeed_173 : decode cX13_flatDeed 173 = .ok (.if_icmp .ge 65, 3) := by decide +kernel
theorem dX13_flatDeed_176 : decode cX13_flatDeed 176 = .ok (.iconst 0, 1) := by decide +kernel
theorem dX13_flatDeed_177 : decode cX13_flatDeed 177 = .ok (.istore 10, 2) := by decide +kernel
theorem dX13_flatDeed_179 : decode cX13_flatDeed 179 = .ok (.aload_n 0, 1) := by decide +kernel
theorem dX13_flatDeed_180 : decode cX13_flatDeed 180 = .ok (.iload_n 1, 1) := by decide +kernel
theorem dX13_flatDeed_181 : decode cX13_flatDeed 181 = .ok (.iload 9, 2) := by decide +kernel
theorem dX13_flatDeed_183 : decode cX13_flatDeed 183 = .ok (.invokevirtual 336, 3) := by decide +kernel
theorem dX13_flatDeed_186 : decode cX13_flatDeed 186 = .ok (.ifCond .eq 46, 3) := by decide +kernel
theorem dX13_flatDeed_189 : decode cX13_flatDeed 189 = .ok (.iload 10, 2) := by decide +kernel
theorem dX13_flatDeed_191 : decode cX13_flatDeed 191 = .ok (.aload_n 0, 1) := by decide +kernel
theorem dX13_flatDeed_192 : decode cX13_flatDeed 192 = .ok (.getfield 26, 3) := by decide +kernel
theorem dX13_flatDeed_195 : decode cX13_flatDeed 195 = .ok (.aload_n 0, 1) := by decide +kernel
theorem dX13_flatDeed_196 : decode cX13_flatDeed 196 = .ok (.iload_n 1, 1) := by decide +kernel
theorem dX13_flatDeed_197 : decode cX13_flatDeed 197 = .ok (.iload 9, 2) := by decide +kernel
theorem dX13_flatDeed_199 : decode cX13_flatDeed 199 = .ok (.invokevirtual 128, 3) := by decide +kernel
theorem dX13_flatDeed_202 : decode cX13_flatDeed 202 = .ok (.iaload, 1) := by decide +kernel
theorem dX13_flatDeed_203 : decode cX13_flatDeed 203 = .ok (.if_icmp .ge 29, 3) := by decide +kernel
theorem dX13_flatDeed_206 : decode cX13_flatDeed 206 = .ok (.aload_n 0, 1) := by decide +kernel
theorem dX13_flatDeed_207 : decode cX13_flatDeed 207 = .ok (.aload_n 0, 1) := by decide +kernel
theorem dX13_flatDeed_208 : decode cX13_flatDeed 208 = .ok (.iload_n 1, 1) := by decide +kernel
theorem dX13_flatDeed_209 : decode cX13_flatDeed 209 = .ok (.iload 9, 2) := by decide +kernel
theorem dX13_flatDeed_211 : decode cX13_flatDeed 211 = .ok (.invokevirtual 128, 3) := by decide +kernel
theorem dX13_flatDeed_214 : decode cX13_flatDeed 214 = .ok (.iload 10, 2) := by decide +kernel
theorem dX13_flatDeed_216 : decode cX13_flatDeed 216 = .ok (.iload 7, 2) := by decide +kernel
theorem dX13_flatDeed_218 : decode cX13_flatDeed 218 = .ok (.iload 8, 2) := by decide +kernel
theorem dX13_flatDeed_220 : decode cX13_flatDeed 220 = .ok (.invokevirtual 280, 3) := by decide +kernel
theorem dX13_flatDeed_223 : decode cX13_flatDeed 223 = .ok (.iinc 8 1, 3) := by decide +kernel
theorem dX13_flatDeed_226 : decode cX13_flatDeed 226 = .ok (.iinc 10 1, 3) := by decide +kernel
theorem dX13_flatDeed_229 : decode cX13_flatDeed 229 = .ok (.goto (-50), 3) := by decide +kernel
theorem dX13_flatDeed_232 : decode cX13_flatDeed 232 = .ok (.iinc 9 1, 3) := by decide +kernel
theorem dX13_flatDeed_235 : decode cX13_flatDeed 235 = .ok (.goto (-70), 3) := by decide +kernel
theorem dX13_flatDeed_238 : decode cX13_flatDeed 238 = .ok (.aload_n 0, 1) := by decide +kernel
theorem dX13_flatDeed_239 : decode cX13_flatDeed 239 = .ok (.iload_n 2, 1) := by decide +kernel
theorem dX13_flatDeed_240 : decode cX13_flatDeed 240 = .ok (.iload_n 3, 1) := by decide +kernel
theorem dX13_flatDeed_241 : decode cX13_flatDeed 241 = .ok (.iload 7, 2) := by decide +kernel
theorem dX13_flatDeed_243 : decode cX13_flatDeed 243 = .ok (.invokevirtual 145, 3) := by decide +kernel
theorem dX13_flatDeed_246 : decode cX13_flatDeed 246 = .ok (.iload 5, 2) := by decide +kernel
theorem dX13_flatDeed_248 : decode cX13_flatDeed 248 = .ok (.ireturn, 1) := by decide +kernel
theorem dX13_flat_0 : decode cX13_flat 0 = .ok (.aload_n 0, 1) := by decide +kernel
theorem dX13_flat_1 : decode cX13_flat 1 = .ok (.aload_n 0, 1) := by decide +kernel
theorem dX13_flat_2 : decode cX13_flat 2 = .ok (.iload_n 1, 1) := by decide +kernel
theorem dX13_flat_3 : decode cX13_flat 3 = .ok (.iload_n 2, 1) := by decide +kernel
theorem dX13_flat_4 : decode cX13_flat 4 = .ok (.iload_n 3, 1) := by decide +kernel
theorem dX13_flat_5 : decode cX13_flat 5 = .ok (.invokevirtual 339, 3) := by decide +kernel
theorem dX13_flat_8 : decode cX13_flat 8 = .ok (.invokevirtual 137, 3) := by decide +kernel
theorem dX13_flat_11 : decode cX13_flat 11 = .ok (.ireturn, 1) := by decide +kernel
theorem dX13_comes_0 : decode cX13_comes 0 = .ok (.aload_n 0, 1) := by decide +kernel
theorem dX13_comes_1 : decode cX13_comes 1 = .ok (.iload_n 1, 1) := by decide +kernel
theorem dX13_comes_2 : decode cX13_comes 2 = .ok (.iload_n 2, 1) := by decide +kernel
theorem dX13_comes_3 : decode cX13_comes 3 = .ok (.invokevirtual 141, 3) := by decide +kernel
theorem dX13_comes_6 : decode cX13_comes 6 = .ok (.iconst 0, 1) := by decide +kernel
theorem dX13_comes_7 : decode cX13_comes 7 = .ok (.istore_n 3, 1) := by decide +kernel
theorem dX13_comes_8 : decode cX13_comes 8 = .ok (.iload_n 3, 1) := by decide +kernel
theorem dX13_comes_9 : decode cX13_comes 9 = .ok (.iload_n 2, 1) := by decide +kernel
theorem dX13_comes_10 : decode cX13_comes 10 = .ok (.if_icmp .ge 21, 3) := by decide +kernel
theorem dX13_comes_13 : decode cX13_comes 13 = .ok (.aload_n 0, 1) := by decide +kernel
theorem dX13_comes_14 : decode cX13_comes 14 = .ok (.iload_n 1, 1) := by decide +kernel
theorem dX13_comes_15 : decode cX13_comes 15 = .ok (.iload_n 3, 1) := by decide +kernel
theorem dX13_comes_16 : decode cX13_comes 16 = .ok (.aload_n 0, 1) := by decide +kernel
theorem dX13_comes_17 : decode cX13_comes 17 = .ok (.getfield 52, 3) := by decide +kernel
theorem dX13_comes_20 : decode cX13_comes 20 = .ok (.iload_n 3, 1) := by decide +kernel
theorem dX13_comes_21 : decode cX13_comes 21 = .ok (.iaload, 1) := by decide +kernel
theorem dX13_comes_22 : decode cX13_comes 22 = .ok (.invokevirtual 145, 3) := by decide +kernel
theorem dX13_comes_25 : decode cX13_comes 25 = .ok (.iinc 3 1, 3) := by decide +kernel
theorem dX13_comes_28 : decode cX13_comes 28 = .ok (.goto (-20), 3) := by decide +kernel
theorem dX13_comes_31 : decode cX13_comes 31 = .ok (.iload_n 2, 1) := by decide +kernel
theorem dX13_comes_32 : decode cX13_comes 32 = .ok (.ireturn, 1) := by decide +kernel
theorem dX13_dealDeed_0 : decode cX13_dealDeed 0 = .ok (.iload_n 1, 1) := by decide +kernel
theorem dX13_dealDeed_1 : decode cX13_dealDeed 1 = .ok (.invokestatic 134, 3) := by decide +kernel
theorem dX13_dealDeed_4 : decode cX13_dealDeed 4 = .ok (.ifCond .eq 21, 3) := by decide +kernel
theorem dX13_dealDeed_7 : decode cX13_dealDeed 7 = .ok (.iload_n 3, 1) := by decide +kernel
theorem dX13_dealDeed_8 : decode cX13_dealDeed 8 = .ok (.iconst 1, 1) := by decide +kernel
theorem dX13_dealDeed_9 : decode cX13_dealDeed 9 = .ok (.bipush 12, 2) := by decide +kernel
theorem dX13_dealDeed_11 : decode cX13_dealDeed 11 = .ok (.invokestatic 109, 3) := by decide +kernel
theorem dX13_dealDeed_14 : decode cX13_dealDeed 14 = .ok (.ifCond .eq 11, 3) := by decide +kernel
theorem dX13_dealDeed_17 : decode cX13_dealDeed 17 = .ok (.iload 4, 2) := by decide +kernel
theorem dX13_dealDeed_19 : decode cX13_dealDeed 19 = .ok (.invokestatic 134, 3) := by decide +kernel
theorem dX13_dealDeed_22 : decode cX13_dealDeed 22 = .ok (.ifCond .ne 5, 3) := by decide +kernel
theorem dX13_dealDeed_25 : decode cX13_dealDeed 25 = .ok (.iconst (-1), 1) := by decide +kernel
theorem dX13_dealDeed_26 : decode cX13_dealDeed 26 = .ok (.ireturn, 1) := by decide +kernel
theorem dX13_dealDeed_27 : decode cX13_dealDeed 27 = .ok (.aload_n 0, 1) := by decide +kernel
theorem dX13_dealDeed_28 : decode cX13_dealDeed 28 = .ok (.iload_n 1, 1) := by decide +kernel
theorem dX13_dealDeed_29 : decode cX13_dealDeed 29 = .ok (.iload_n 2, 1) := by decide +kernel
theorem dX13_dealDeed_30 : decode cX13_dealDeed 30 = .ok (.invokevirtual 131, 3) := by decide +kernel
theorem dX13_dealDeed_33 : decode cX13_dealDeed 33 = .ok (.istore 5, 2) := by decide +kernel
theorem dX13_dealDeed_35 : decode cX13_dealDeed 35 = .ok (.iload 5, 2) := by decide +kernel
theorem dX13_dealDeed_37 : decode cX13_dealDeed 37 = .ok (.ifCond .eq 6, 3) := by decide +kernel
theorem dX13_dealDeed_40 : decode cX13_dealDeed 40 = .ok (.iload 5, 2) := by decide +kernel
theorem dX13_dealDeed_42 : decode cX13_dealDeed 42 = .ok (.ireturn, 1) := by decide +kernel
theorem dX13_dealDeed_43 : decode cX13_dealDeed 43 = .ok (.aload_n 0, 1) := by decide +kernel
theorem dX13_dealDeed_44 : decode cX13_dealDeed 44 = .ok (.iload_n 1, 1) := by decide +kernel
theorem dX13_dealDeed_45 : decode cX13_dealDeed 45 = .ok (.iload_n 2, 1) := by decide +kernel
theorem dX13_dealDeed_46 : decode cX13_dealDeed 46 = .ok (.invokevirtual 128, 3) := by decide +kernel
theorem dX13_dealDeed_49 : decode cX13_dealDeed 49 = .ok (.istore 6, 2) := by decide +kernel
theorem dX13_dealDeed_51 : decode cX13_dealDeed 51 = .ok (.aload_n 0, 1) := by decide +kernel
theorem dX13_dealDeed_52 : decode cX13_dealDeed 52 = .ok (.getfield 26, 3) := by decide +kernel
theorem dX13_dealDeed_55 : decode cX13_dealDeed 55 = .ok (.iload 6, 2) := by decide +kernel
theorem dX13_dealDeed_57 : decode cX13_dealDeed 57 = .ok (.iaload, 1) := by decide +kernel
theorem dX13_dealDeed_58 : decode cX13_dealDeed 58 = .ok (.iload_n 3, 1) := by decide +kernel
theorem dX13_dealDeed_59 : decode cX13_dealDeed 59 = .ok (.iadd, 1) := by decide +kernel
theorem dX13_dealDeed_60 : decode cX13_dealDeed 60 = .ok (.iconst 1, 1) := by decide +kernel
theorem dX13_dealDeed_61 : decode cX13_dealDeed 61 = .ok (.isub, 1) := by decide +kernel
theorem dX13_dealDeed_62 : decode cX13_dealDeed 62 = .ok (.iload_n 3, 1) := by decide +kernel
theorem dX13_dealDeed_63 : decode cX13_dealDeed 63 = .ok (.idiv, 1) := by decide +kernel
theorem dX13_dealDeed_64 : decode cX13_dealDeed 64 = .ok (.istore 7, 2) := by decide +kernel
theorem dX13_dealDeed_66 : decode cX13_dealDeed 66 = .ok (.iload 7, 2) := by decide +kernel
theorem dX13_dealDeed_68 : decode cX13_dealDeed 68 = .ok (.bipush 6, 2) := by decide +kernel
theorem dX13_dealDeed_70 : decode cX13_dealDeed 70 = .ok (.if_icmp .le 6, 3) := by decide +kernel
theorem dX13_dealDeed_73 : decode cX13_dealDeed 73 = .ok (.bipush (-10), 2) := by decide +kernel
theorem dX13_dealDeed_75 : decode cX13_dealDeed 75 = .ok (.ireturn, 1) := by decide +kernel
theorem dX13_dealDeed_76 : decode cX13_dealDeed 76 = .ok (.iconst 0, 1) := by decide +kernel
theorem dX13_dealDeed_77 : decode cX13_dealDeed 77 = .ok (.istore 8, 2) := by decide +kernel
theorem dX13_dealDeed_79 : decode cX13_dealDeed 79 = .ok (.iload 8, 2) := by decide +kernel
theorem dX13_dealDeed_81 : decode cX13_dealDeed 81 = .ok (.iload 7, 2) := by decide +kernel
theorem dX13_dealDeed_83 : decode cX13_dealDeed 83 = .ok (.if_icmp .ge 53, 3) := by decide +kernel
theorem dX13_dealDeed_86 : decode cX13_dealDeed 86 = .ok (.aload_n 0, 1) := by decide +kernel
theorem dX13_dealDeed_87 : decode cX13_dealDeed 87 = .ok (.getfield 26, 3) := by decide +kernel
theorem dX13_dealDeed_90 : decode cX13_dealDeed 90 = .ok (.iload 6, 2) := by decide +kernel
theorem dX13_dealDeed_92 : decode cX13_dealDeed 92 = .ok (.iaload, 1) := by decide +kernel
theorem dX13_dealDeed_93 : decode cX13_dealDeed 93 = .ok (.iload 8, 2) := by decide +kernel
theorem dX13_dealDeed_95 : decode cX13_dealDeed 95 = .ok (.iload_n 3, 1) := by decide +kernel
theorem dX13_dealDeed_96 : decode cX13_dealDeed 96 = .ok (.imul, 1) := by decide +kernel
theorem dX13_dealDeed_97 : decode cX13_dealDeed 97 = .ok (.isub, 1) := by decide +kernel
theorem dX13_dealDeed_98 : decode cX13_dealDeed 98 = .ok (.istore 9, 2) := by decide +kernel
theorem dX13_dealDeed_100 : decode cX13_dealDeed 100 = .ok (.aload_n 0, 1) := by decide +kernel
theorem dX13_dealDeed_101 : decode cX13_dealDeed 101 = .ok (.getfield 52, 3) := by decide +kernel
theorem dX13_dealDeed_104 : decode cX13_dealDeed 104 = .ok (.iload 8, 2) := by decide +kernel
theorem dX13_dealDeed_106 : decode cX13_dealDeed 106 = .ok (.aload_n 0, 1) := by decide +kernel
theorem dX13_dealDeed_107 : decode cX13_dealDeed 107 = .ok (.aload_n 0, 1) := by decide +kernel
theorem dX13_dealDeed_108 : decode cX13_dealDeed 108 = .ok (.getfield 23, 3) := by decide +kernel
theorem dX13_dealDeed_111 : decode cX13_dealDeed 111 = .ok (.iload 6, 2) := by decide +kernel
theorem dX13_dealDeed_113 : decode cX13_dealDeed 113 = .ok (.iaload, 1) := by decide +kernel
theorem dX13_dealDeed_114 : decode cX13_dealDeed 114 = .ok (.iload 9, 2) := by decide +kernel
theorem dX13_dealDeed_116 : decode cX13_dealDeed 116 = .ok (.iload_n 3, 1) := by decide +kernel
theorem dX13_dealDeed_117 : decode cX13_dealDeed 117 = .ok (.if_icmp .ge 8, 3) := by decide +kernel
theorem dX13_dealDeed_120 : decode cX13_dealDeed 120 = .ok (.iload 9, 2) := by decide +kernel
theorem dX13_dealDeed_122 : decode cX13_dealDeed 122 = .ok (.goto 4, 3) := by decide +kernel
theorem dX13_dealDeed_125 : decode cX13_dealDeed 125 = .ok (.iload_n 3, 1) := by decide +kernel
theorem dX13_dealDeed_126 : decode cX13_dealDeed 126 = .ok (.invokevirtual 155, 3) := by decide +kernel
theorem dX13_dealDeed_129 : decode cX13_dealDeed 129 = .ok (.iastore, 1) := by decide +kernel
theorem dX13_dealDeed_130 : decode cX13_dealDeed 130 = .ok (.iinc 8 1, 3) := by decide +kernel
theorem dX13_dealDeed_133 : decode cX13_dealDeed 133 = .ok (.goto (-54), 3) := by decide +kernel
theorem dX13_dealDeed_136 : decode cX13_dealDeed 136 = .ok (.iconst 0, 1) := by decide +kernel
theorem dX13_dealDeed_137 : decode cX13_dealDeed 137 = .ok (.istore 8, 2) := by decide +kernel
theorem dX13_dealDeed_139 : decode cX13_dealDeed 139 = .ok (.iload 8, 2) := by decide +kernel
theorem dX13_dealDeed_141 : decode cX13_dealDeed 141 = .ok (.aload_n 0, 1) := by decide +kernel
theorem dX13_dealDeed_142 : decode cX13_dealDeed 142 = .ok (.getfield 26, 3) := by decide +kernel
theorem dX13_dealDeed_145 : decode cX13_dealDeed 145 = .ok (.iload 6, 2) := by decide +kernel
theorem dX13_dealDeed_147 : decode cX13_dealDeed 147 = .ok (.iaload, 1) := by decide +kernel
theorem dX13_dealDeed_148 : decode cX13_dealDeed 148 = .ok (.if_icmp .ge 30, 3) := by decide +kernel
theorem dX13_dealDeed_151 : decode cX13_dealDeed 151 = .ok (.aload_n 0, 1) := by decide +kernel
theorem dX13_dealDeed_152 : decode cX13_dealDeed 152 = .ok (.iload 6, 2) := by decide +kernel
theorem dX13_dealDeed_154 : decode cX13_dealDeed 154 = .ok (.iload 8, 2) := by decide +kernel
theorem dX13_dealDeed_156 : decode cX13_dealDeed 156 = .ok (.aload_n 0, 1) := by decide +kernel
theorem dX13_dealDeed_157 : decode cX13_dealDeed 157 = .ok (.getfield 52, 3) := by decide +kernel
theorem dX13_dealDeed_160 : decode cX13_dealDeed 160 = .ok (.iload 8, 2) := by decide +kernel
theorem dX13_dealDeed_162 : decode cX13_dealDeed 162 = .ok (.iload_n 3, 1) := by decide +kernel
theorem dX13_dealDeed_163 : decode cX13_dealDeed 163 = .ok (.idiv, 1) := by decide +kernel
theorem dX13_dealDeed_164 : decode cX13_dealDeed 164 = .ok (.iaload, 1) := by decide +kernel
theorem dX13_dealDeed_165 : decode cX13_dealDeed 165 = .ok (.iload 8, 2) := by decide +kernel
theorem dX13_dealDeed_167 : decode cX13_dealDeed 167 = .ok (.iload_n 3, 1) := by decide +kernel
theorem dX13_dealDeed_168 : decode cX13_dealDeed 168 = .ok (.irem, 1) := by decide +kernel
theorem dX13_dealDeed_169 : decode cX13_dealDeed 169 = .ok (.invokevirtual 280, 3) := by decide +kernel
theorem dX13_dealDeed_172 : decode cX13_dealDeed 172 = .ok (.iinc 8 1, 3) := by decide +kernel
theorem dX13_dealDeed_175 : decode cX13_dealDeed 175 = .ok (.goto (-36), 3) := by decide +kernel
theorem dX13_dealDeed_178 : decode cX13_dealDeed 178 = .ok (.aload_n 0, 1) := by decide +kernel
theorem dX13_dealDeed_179 : decode cX13_dealDeed 179 = .ok (.iload 4, 2) := by decide +kernel
theorem dX13_dealDeed_181 : decode cX13_dealDeed 181 = .ok (.iload 7, 2) := by decide +kernel
theorem dX13_dealDeed_183 : decode cX13_dealDeed 183 = .ok (.invokevirtual 342, 3) := by decide +kernel
theorem dX13_dealDeed_186 : decode cX13_dealDeed 186 = .ok (.ireturn, 1) := by decide +kernel
theorem dX13_deal_0 : decode cX13_deal 0 = .ok (.aload_n 0, 1) := by decide +kernel
theorem dX13_deal_1 : decode cX13_deal 1 = .ok (.aload_n 0, 1) := by decide +kernel
theorem dX13_deal_2 : decode cX13_deal 2 = .ok (.iload_n 1, 1) := by decide +kernel
theorem dX13_deal_3 : decode cX13_deal 3 = .ok (.iload_n 2, 1) := by decide +kernel
theorem dX13_deal_4 : decode cX13_deal 4 = .ok (.iload_n 3, 1) := by decide +kernel
theorem dX13_deal_5 : decode cX13_deal 5 = .ok (.iload 4, 2) := by decide +kernel
theorem dX13_deal_7 : decode cX13_deal 7 = .ok (.invokevirtual 345, 3) := by decide +kernel
theorem dX13_deal_10 : decode cX13_deal 10 = .ok (.invokevirtual 137, 3) := by decide +kernel
theorem dX13_deal_13 : decode cX13_deal 13 = .ok (.ireturn, 1) := by decide +kernel
theorem dX13_longest_0 : decode cX13_longest 0 = .ok (.iconst 0, 1) := by decide +kernel
theorem dX13_longest_1 : decode cX13_longest 1 = .ok (.istore_n 2, 1) := by decide +kernel
theorem dX13_longest_2 : decode cX13_longest 2 = .ok (.iconst 0, 1) := by decide +kernel
theorem dX13_longest_3 : decode cX13_longest 3 = .ok (.istore_n 3, 1) := by decide +kernel
theorem dX13_longest_4 : decode cX13_longest 4 = .ok (.iload_n 3, 1) := by decide +kernel
theorem dX13_longest_5 : decode cX13_longest 5 = .ok (.aload_n 0, 1) := by decide +kernel
theorem dX13_longest_6 : decode cX13_longest 6 = .ok (.getfield 17, 3) := by decide +kernel
theorem dX13_longest_9 : decode cX13_longest 9 = .ok (.iload_n 1, 1) := by decide +kernel
theorem dX13_longest_10 : decode cX13_longest 10 = .ok (.iaload, 1) := by decide +kernel
theorem dX13_longest_11 : decode cX13_longest 11 = .ok (.if_icmp .ge 49, 3) := by decide +kernel
theorem dX13_longest_14 : decode cX13_longest 14 = .ok (.aload_n 0, 1) := by decide +kernel
theorem dX13_longest_15 : decode cX13_longest 15 = .ok (.iload_n 1, 1) := by decide +kernel
theorem dX13_longest_16 : decode cX13_longest 16 = .ok (.iload_n 3, 1) := by decide +kernel
theorem dX13_longest_17 : decode cX13_longest 17 = .ok (.invokevirtual 336, 3) := by decide +kernel
theorem dX13_longest_20 : decode cX13_longest 20 = .ok (.ifCond .eq 32, 3) := by decide +kernel
theorem dX13_longest_23 : decode cX13_longest 23 = .ok (.aload_n 0, 1) := by decide +kernel
theorem dX13_longest_24 : decode cX13_longest 24 = .ok (.getfield 26, 3) := by decide +kernel
theorem dX13_longest_27 : decode cX13_longest 27 = .ok (.aload_n 0, 1) := by decide +kernel
theorem dX13_longest_28 : decode cX13_longest 28 = .ok (.iload_n 1, 1) := by decide +kernel
theorem dX13_longest_29 : decode cX13_longest 29 = .ok (.iload_n 3, 1) := by decide +kernel
theorem dX13_longest_30 : decode cX13_longest 30 = .ok (.invokevirtual 128, 3) := by decide +kernel
theorem dX13_longest_33 : decode cX13_longest 33 = .ok (.iaload, 1) := by decide +kernel
theorem dX13_longest_34 : decode cX13_longest 34 = .ok (.iload_n 2, 1) := by decide +kernel
theorem dX13_longest_35 : decode cX13_longest 35 = .ok (.if_icmp .le 17, 3) := by decide +kernel
theorem dX13_longest_38 : decode cX13_longest 38 = .ok (.aload_n 0, 1) := by decide +kernel
theorem dX13_longest_39 : decode cX13_longest 39 = .ok (.getfield 26, 3) := by decide +kernel
theorem dX13_longest_42 : decode cX13_longest 42 = .ok (.aload_n 0, 1) := by decide +kernel
theorem dX13_longest_43 : decode cX13_longest 43 = .ok (.iload_n 1, 1) := by decide +kernel
theorem dX13_longest_44 : decode cX13_longest 44 = .ok (.iload_n 3, 1) := by decide +kernel
theorem dX13_longest_45 : decode cX13_longest 45 = .ok (.invokevirtual 128, 3) := by decide +kernel
theorem dX13_longest_48 : decode cX13_longest 48 = .ok (.iaload, 1) := by decide +kernel
theorem dX13_longest_49 : decode cX13_longest 49 = .ok (.goto 4, 3) := by decide +kernel
theorem dX13_longest_52 : decode cX13_longest 52 = .ok (.iload_n 2, 1) := by decide +kernel
theorem dX13_longest_53 : decode cX13_longest 53 = .ok (.istore_n 2, 1) := by decide +kernel
theorem dX13_longest_54 : decode cX13_longest 54 = .ok (.iinc 3 1, 3) := by decide +kernel
theorem dX13_longest_57 : decode cX13_longest 57 = .ok (.goto (-53), 3) := by decide +kernel
theorem dX13_longest_60 : decode cX13_longest 60 = .ok (.iload_n 2, 1) := by decide +kernel
theorem dX13_longest_61 : decode cX13_longest 61 = .ok (.ireturn, 1) := by decide +kernel
theorem dX13_hasCell_0 : decode cX13_hasCell 0 = .ok (.iload_n 2, 1) := by decide +kernel
theorem dX13_hasCell_1 : decode cX13_hasCell 1 = .ok (.iconst 0, 1) := by decide +kernel
theorem dX13_hasCell_2 : decode cX13_hasCell 2 = .ok (.aload_n 0, 1) := by decide +kernel
theorem dX13_hasCell_3 : decode cX13_hasCell 3 = .ok (.getfield 17, 3) := by decide +kernel
theorem dX13_hasCell_6 : decode cX13_hasCell 6 = .ok (.iload_n 1, 1) := by decide +kernel
theorem dX13_hasCell_7 : decode cX13_hasCell 7 = .ok (.iaload, 1) := by decide +kernel
theorem dX13_hasCell_8 : decode cX13_hasCell 8 = .ok (.iconst 1, 1) := by decide +kernel
theorem dX13_hasCell_9 : decode cX13_hasCell 9 = .ok (.isub, 1) := by decide +kernel
theorem dX13_hasCell_10 : decode cX13_hasCell 10 = .ok (.invokestatic 109, 3) := by decide +kernel
theorem dX13_hasCell_13 : decode cX13_hasCell 13 = .ok (.ifCond .eq 37, 3) := by decide +kernel
theorem dX13_hasCell_16 : decode cX13_hasCell 16 = .ok (.aload_n 0, 1) := by decide +kernel
theorem dX13_hasCell_17 : decode cX13_hasCell 17 = .ok (.iload_n 1, 1) := by decide +kernel
theorem dX13_hasCell_18 : decode cX13_hasCell 18 = .ok (.iload_n 2, 1) := by decide +kernel
theorem dX13_hasCell_19 : decode cX13_hasCell 19 = .ok (.invokevirtual 336, 3) := by decide +kernel
theorem dX13_hasCell_22 : decode cX13_hasCell 22 = .ok (.ifCond .eq 28, 3) := by decide +kernel
theorem dX13_hasCell_25 : decode cX13_hasCell 25 = .ok (.iload_n 3, 1) := by decide +kernel
theorem dX13_hasCell_26 : decode cX13_hasCell 26 = .ok (.iconst 0, 1) := by decide +kernel
theorem dX13_hasCell_27 : decode cX13_hasCell 27 = .ok (.aload_n 0, 1) := by decide +kernel
theorem dX13_hasCell_28 : decode cX13_hasCell 28 = .ok (.getfield 26, 3) := by decide +kernel
theorem dX13_hasCell_31 : decode cX13_hasCell 31 = .ok (.aload_n 0, 1) := by decide +kernel
theorem dX13_hasCell_32 : decode cX13_hasCell 32 = .ok (.iload_n 1, 1) := by decide +kernel
theorem dX13_hasCell_33 : decode cX13_hasCell 33 = .ok (.iload_n 2, 1) := by decide +kernel
theorem dX13_hasCell_34 : decode cX13_hasCell 34 = .ok (.invokevirtual 128, 3) := by decide +kernel
theorem dX13_hasCell_37 : decode cX13_hasCell 37 = .ok (.iaload, 1) := by decide +kernel
theorem dX13_hasCell_38 : decode cX13_hasCell 38 = .ok (.iconst 1, 1) := by decide +kernel
theorem dX13_hasCell_39 : decode cX13_hasCell 39 = .ok (.isub, 1) := by decide +kernel
theorem dX13_hasCell_40 : decode cX13_hasCell 40 = .ok (.invokestatic 109, 3) := by decide +kernel
theorem dX13_hasCell_43 : decode cX13_hasCell 43 = .ok (.ifCond .eq 7, 3) := by decide +kernel
theorem dX13_hasCell_46 : decode cX13_hasCell 46 = .ok (.iconst 1, 1) := by decide +kernel
theorem dX13_hasCell_47 : decode cX13_hasCell 47 = .ok (.goto 4, 3) := by decide +kernel
theorem dX13_hasCell_50 : decode cX13_hasCell 50 = .ok (.iconst 0, 1) := by decide +kernel
theorem dX13_hasCell_51 : decode cX13_hasCell 51 = .ok (.ireturn, 1) := by decide +kernel
theorem dX13_columnRow_0 : decode cX13_columnRow 0 = .ok (.iconst 0, 1) := by decide +kernel
theorem dX13_columnRow_1 : decode cX13_columnRow 1 = .ok (.istore_n 3, 1) := by decide +kernel
theorem dX13_columnRow_2 : decode cX13_columnRow 2 = .ok (.iconst 0, 1) := by decide +kernel
theorem dX13_columnRow_3 : decode cX13_columnRow 3 = .ok (.istore 4, 2) := by decide +kernel
theorem dX13_columnRow_5 : decode cX13_columnRow 5 = .ok (.iconst 0, 1) := by decide +kernel
theorem dX13_columnRow_6 : decode cX13_columnRow 6 = .ok (.istore 5, 2) := by decide +kernel
theorem dX13_columnRow_8 : decode cX13_columnRow 8 = .ok (.iload 5, 2) := by decide +kernel
theorem dX13_columnRow_10 : decode cX13_columnRow 10 = .ok (.aload_n 0, 1) := by decide +kernel
theorem dX13_columnRow_11 : decode cX13_columnRow 11 = .ok (.getfield 17, 3) := by decide +kernel
theorem dX13_columnRow_14 : decode cX13_columnRow 14 = .ok (.iload_n 1, 1) := by decide +kernel
theorem dX13_columnRow_15 : decode cX13_columnRow 15 = .ok (.iaload, 1) := by decide +kernel
theorem dX13_columnRow_16 : decode cX13_columnRow 16 = .ok (.if_icmp .ge 62, 3) := by decide +kernel
theorem dX13_columnRow_19 : decode cX13_columnRow 19 = .ok (.iload_n 3, 1) := by decide +kernel
theorem dX13_columnRow_20 : decode cX13_columnRow 20 = .ok (.aload_n 0, 1) := by decide +kernel
theorem dX13_columnRow_21 : decode cX13_columnRow 21 = .ok (.iload_n 1, 1) := by decide +kernel
theorem dX13_columnRow_22 : decode cX13_columnRow 22 = .ok (.iload 5, 2) := by decide +kernel
theorem dX13_columnRow_24 : decode cX13_columnRow 24 = .ok (.iload_n 2, 1) := by decide +kernel
theorem dX13_columnRow_25 : decode cX13_columnRow 25 = .ok (.invokevirtual 348, 3) := by decide +kernel
theorem dX13_columnRow_28 : decode cX13_columnRow 28 = .ok (.ifCond .eq 7, 3) := by decide +kernel
theorem dX13_columnRow_31 : decode cX13_columnRow 31 = .ok (.iconst 1, 1) := by decide +kernel
theorem dX13_columnRow_32 : decode cX13_columnRow 32 = .ok (.goto 4, 3) := by decide +kernel
theorem dX13_columnRow_35 : decode cX13_columnRow 35 = .ok (.iconst 0, 1) := by decide +kernel
theorem dX13_columnRow_36 : decode cX13_columnRow 36 = .ok (.iadd, 1) := by decide +kernel
theorem dX13_columnRow_37 : decode cX13_columnRow 37 = .ok (.istore_n 3, 1) := by decide +kernel
theorem dX13_columnRow_38 : decode cX13_columnRow 38 = .ok (.iload 4, 2) := by decide +kernel
theorem dX13_columnRow_40 : decode cX13_columnRow 40 = .ok (.aload_n 0, 1) := by decide +kernel
theorem dX13_columnRow_41 : decode cX13_columnRow 41 = .ok (.iload_n 1, 1) := by decide +kernel
theorem dX13_columnRow_42 : decode cX13_columnRow 42 = .ok (.iload 5, 2) := by decide +kernel
theorem dX13_columnRow_44 : decode cX13_columnRow 44 = .ok (.iload_n 2, 1) := by decide +kernel
theorem dX13_columnRow_45 : decode cX13_columnRow 45 = .ok (.invokevirtual 348, 3) := by decide +kernel
theorem dX13_columnRow_48 : decode cX13_columnRow 48 = .ok (.ifCond .eq 20, 3) := by decide +kernel
theorem dX13_columnRow_51 : decode cX13_columnRow 51 = .ok (.iconst 1, 1) := by decide +kernel
theorem dX13_columnRow_52 : decode cX13_columnRow 52 = .ok (.aload_n 0, 1) := by decide +kernel
theorem dX13_columnRow_53 : decode cX13_columnRow 53 = .ok (.getfield 23, 3) := by decide +kernel
theorem dX13_columnRow_56 : decode cX13_columnRow 56 = .ok (.aload_n 0, 1) := by decide +kernel
theorem dX13_columnRow_57 : decode cX13_columnRow 57 = .ok (.iload_n 1, 1) := by decide +kernel
theorem dX13_columnRow_58 : decode cX13_columnRow 58 = .ok (.iload 5, 2) := by decide +kernel
theorem dX13_columnRow_60 : decode cX13_columnRow 60 = .ok (.invokevirtual 128, 3) := by decide +kernel
theorem dX13_columnRow_63 : decode cX13_columnRow 63 = .ok (.iaload, 1) := by decide +kernel
theorem dX13_columnRow_64 : decode cX13_columnRow 64 = .ok (.ishl, 1) := by decide +kernel
theorem dX13_columnRow_65 : decode cX13_columnRow 65 = .ok (.goto 4, 3) := by decide +kernel
theorem dX13_columnRow_68 : decode cX13_columnRow 68 = .ok (.iconst 0, 1) := by decide +kernel
theorem dX13_columnRow_69 : decode cX13_columnRow 69 = .ok (.ior, 1) := by decide +kernel
theorem dX13_columnRow_70 : decode cX13_columnRow 70 = .ok (.istore 4, 2) := by decide +kernel
theorem dX13_columnRow_72 : decode cX13_columnRow 72 = .ok (.iinc 5 1, 3) := by decide +kernel
theorem dX13_columnRow_75 : decode cX13_columnRow 75 = .ok (.goto (-67), 3) := by decide +kernel
theorem dX13_columnRow_78 : decode cX13_columnRow 78 = .ok (.aload_n 0, 1) := by decide +kernel
theorem dX13_columnRow_79 : decode cX13_columnRow 79 = .ok (.iload 4, 2) := by decide +kernel
theorem dX13_columnRow_81 : decode cX13_columnRow 81 = .ok (.invokestatic 294, 3) := by decide +kernel
theorem dX13_columnRow_84 : decode cX13_columnRow 84 = .ok (.iload_n 3, 1) := by decide +kernel
theorem dX13_columnRow_85 : decode cX13_columnRow 85 = .ok (.invokevirtual 155, 3) := by decide +kernel
theorem dX13_columnRow_88 : decode cX13_columnRow 88 = .ok (.istore 5, 2) := by decide +kernel
theorem dX13_columnRow_90 : decode cX13_columnRow 90 = .ok (.iconst 0, 1) := by decide +kernel
theorem dX13_columnRow_91 : decode cX13_columnRow 91 = .ok (.istore 6, 2) := by decide +kernel
theorem dX13_columnRow_93 : decode cX13_columnRow 93 = .ok (.iconst 0, 1) := by decide +kernel
theorem dX13_columnRow_94 : decode cX13_columnRow 94 = .ok (.istore 7, 2) := by decide +kernel
theorem dX13_columnRow_96 : decode cX13_columnRow 96 = .ok (.iload 7, 2) := by decide +kernel
theorem dX13_columnRow_98 : decode cX13_columnRow 98 = .ok (.aload_n 0, 1) := by decide +kernel
theorem dX13_columnRow_99 : decode cX13_columnRow 99 = .ok (.getfield 17, 3) := by decide +kernel
theorem dX13_columnRow_102 : decode cX13_columnRow 102 = .ok (.iload_n 1, 1) := by decide +kernel
theorem dX13_columnRow_103 : decode cX13_columnRow 103 = .ok (.iaload, 1) := by decide +kernel
theorem dX13_columnRow_104 : decode cX13_columnRow 104 = .ok (.if_icmp .ge 39, 3) := by decide +kernel
theorem dX13_columnRow_107 : decode cX13_columnRow 107 = .ok (.aload_n 0, 1) := by decide +kernel
theorem dX13_columnRow_108 : decode cX13_columnRow 108 = .ok (.iload_n 1, 1) := by decide +kernel
theorem dX13_columnRow_109 : decode cX13_columnRow 109 = .ok (.iload 7, 2) := by decide +kernel
theorem dX13_columnRow_111 : decode cX13_columnRow 111 = .ok (.iload_n 2, 1) := by decide +kernel
theorem dX13_columnRow_112 : decode cX13_columnRow 112 = .ok (.invokevirtual 348, 3) := by decide +kernel
theorem dX13_columnRow_115 : decode cX13_columnRow 115 = .ok (.ifCond .eq 22, 3) := by decide +kernel
theorem dX13_columnRow_118 : decode cX13_columnRow 118 = .ok (.aload_n 0, 1) := by decide +kernel
theorem dX13_columnRow_119 : decode cX13_columnRow 119 = .ok (.aload_n 0, 1) := by decide +kernel
theorem dX13_columnRow_120 : decode cX13_columnRow 120 = .ok (.iload_n 1, 1) := by decide +kernel
theorem dX13_columnRow_121 : decode cX13_columnRow 121 = .ok (.iload 7, 2) := by decide +kernel
theorem dX13_columnRow_123 : decode cX13_columnRow 123 = .ok (.invokevirtual 128, 3) := by decide +kernel
theorem dX13_columnRow_126 : decode cX13_columnRow 126 = .ok (.iload_n 2, 1) := by decide +kernel
theorem dX13_columnRow_127 : decode cX13_columnRow 127 = .ok (.iload 5, 2) := by decide +kernel
theorem dX13_columnRow_129 : decode cX13_columnRow 129 = .ok (.iload 6, 2) := by decide +kernel
theorem dX13_columnRow_131 : decode cX13_columnRow 131 = .ok (.invokevirtual 280, 3) := by decide +kernel
theorem dX13_columnRow_134 : decode cX13_columnRow 134 = .ok (.iinc 6 1, 3) := by decide +kernel
theorem dX13_columnRow_137 : decode cX13_columnRow 137 = .ok (.iinc 7 1, 3) := by decide +kernel
theorem dX13_columnRow_140 : decode cX13_columnRow 140 = .ok (.goto (-44), 3) := by decide +kernel
theorem dX13_columnRow_143 : decode cX13_columnRow 143 = .ok (.iload 5, 2) := by decide +kernel
theorem dX13_columnRow_145 : decode cX13_columnRow 145 = .ok (.ireturn, 1) := by decide +kernel
theorem dX13_turnDeed_0 : decode cX13_turnDeed 0 = .ok (.iload_n 1, 1) := by decide +kernel
theorem dX13_turnDeed_1 : decode cX13_turnDeed 1 = .ok (.invokestatic 134, 3) := by decide +kernel
theorem dX13_turnDeed_4 : decode cX13_turnDeed 4 = .ok (.ifCond .eq 10, 3) := by decide +kernel
theorem dX13_turnDeed_7 : decode cX13_turnDeed 7 = .ok (.iload_n 2, 1) := by decide +kernel
theorem dX13_turnDeed_8 : decode cX13_turnDeed 8 = .ok (.invokestatic 134, 3) := by decide +kernel
theorem dX13_turnDeed_11 : decode cX13_turnDeed 11 = .ok (.ifCond .ne 5, 3) := by decide +kernel
theorem dX13_turnDeed_14 : decode cX13_turnDeed 14 = .ok (.iconst (-1), 1) := by decide +kernel
theorem dX13_turnDeed_15 : decode cX13_turnDeed 15 = .ok (.ireturn, 1) := by decide +kernel
theorem dX13_turnDeed_16 : decode cX13_turnDeed 16 = .ok (.aload_n 0, 1) := by decide +kernel
theorem dX13_turnDeed_17 : decode cX13_turnDeed 17 = .ok (.getfield 17, 3) := by decide +kernel
theorem dX13_turnDeed_20 : decode cX13_turnDeed 20 = .ok (.iload_n 1, 1) := by decide +kernel
theorem dX13_turnDeed_21 : decode cX13_turnDeed 21 = .ok (.iaload, 1) := by decide +kernel
theorem dX13_turnDeed_22 : decode cX13_turnDeed 22 = .ok (.ifCond .ge 6, 3) := by decide +kernel
theorem dX13_turnDeed_25 : decode cX13_turnDeed 25 = .ok (.bipush (-2), 2) := by decide +kernel
theorem dX13_turnDeed_27 : decode cX13_turnDeed 27 = .ok (.ireturn, 1) := by decide +kernel
theorem dX13_turnDeed_28 : decode cX13_turnDeed 28 = .ok (.aload_n 0, 1) := by decide +kernel
theorem dX13_turnDeed_29 : decode cX13_turnDeed 29 = .ok (.iload_n 1, 1) := by decide +kernel
theorem dX13_turnDeed_30 : decode cX13_turnDeed 30 = .ok (.invokevirtual 351, 3) := by decide +kernel
theorem dX13_turnDeed_33 : decode cX13_turnDeed 33 = .ok (.istore_n 3, 1) := by decide +kernel
theorem dX13_turnDeed_34 : decode cX13_turnDeed 34 = .ok (.iload_n 3, 1) := by decide +kernel
theorem dX13_turnDeed_35 : decode cX13_turnDeed 35 = .ok (.bipush 6, 2) := by decide +kernel
theorem dX13_turnDeed_37 : decode cX13_turnDeed 37 = .ok (.if_icmp .le 6, 3) := by decide +kernel
theorem dX13_turnDeed_40 : decode cX13_turnDeed 40 = .ok (.bipush (-10), 2) := by decide +kernel
theorem dX13_turnDeed_42 : decode cX13_turnDeed 42 = .ok (.ireturn, 1) := by decide +kernel
theorem dX13_turnDeed_43 : decode cX13_turnDeed 43 = .ok (.iconst 0, 1) := by decide +kernel
theorem dX13_turnDeed_44 : decode cX13_turnDeed 44 = .ok (.istore 4, 2) := by decide +kernel
theorem dX13_turnDeed_46 : decode cX13_turnDeed 46 = .ok (.iload 4, 2) := by decide +kernel
theorem dX13_turnDeed_48 : decode cX13_turnDeed 48 = .ok (.iload_n 3, 1) := by decide +kernel
theorem dX13_turnDeed_49 : decode cX13_turnDeed 49 = .ok (.if_icmp .ge 23, 3) := by decide +kernel
theorem dX13_turnDeed_52 : decode cX13_turnDeed 52 = .ok (.aload_n 0, 1) := by decide +kernel
theorem dX13_turnDeed_53 : decode cX13_turnDeed 53 = .ok (.getfield 52, 3) := by decide +kernel
theorem dX13_turnDeed_56 : decode cX13_turnDeed 56 = .ok (.iload 4, 2) := by decide +kernel
theorem dX13_turnDeed_58 : decode cX13_turnDeed 58 = .ok (.aload_n 0, 1) := by decide +kernel
theorem dX13_turnDeed_59 : decode cX13_turnDeed 59 = .ok (.iload_n 1, 1) := by decide +kernel
theorem dX13_turnDeed_60 : decode cX13_turnDeed 60 = .ok (.iload 4, 2) := by decide +kernel
theorem dX13_turnDeed_62 : decode cX13_turnDeed 62 = .ok (.invokevirtual 354, 3) := by decide +kernel
theorem dX13_turnDeed_65 : decode cX13_turnDeed 65 = .ok (.iastore, 1) := by decide +kernel
theorem dX13_turnDeed_66 : decode cX13_turnDeed 66 = .ok (.iinc 4 1, 3) := by decide +kernel
theorem dX13_turnDeed_69 : decode cX13_turnDeed 69 = .ok (.goto (-23), 3) := by decide +kernel
theorem dX13_turnDeed_72 : decode cX13_turnDeed 72 = .ok (.aload_n 0, 1) := by decide +kernel
theorem dX13_turnDeed_73 : decode cX13_turnDeed 73 = .ok (.iload_n 2, 1) := by decide +kernel
theorem dX13_turnDeed_74 : decode cX13_turnDeed 74 = .ok (.iload_n 3, 1) := by decide +kernel
theorem dX13_turnDeed_75 : decode cX13_turnDeed 75 = .ok (.invokevirtual 342, 3) := by decide +kernel
theorem dX13_turnDeed_78 : decode cX13_turnDeed 78 = .ok (.ireturn, 1) := by decide +kernel
theorem dX13_turn_0 : decode cX13_turn 0 = .ok (.aload_n 0, 1) := by decide +kernel
theorem dX13_turn_1 : decode cX13_turn 1 = .ok (.aload_n 0, 1) := by decide +kernel
theorem dX13_turn_2 : decode cX13_turn 2 = .ok (.iload_n 1, 1) := by decide +kernel
theorem dX13_turn_3 : decode cX13_turn 3 = .ok (.iload_n 2, 1) := by decide +kernel
theorem dX13_turn_4 : decode cX13_turn 4 = .ok (.invokevirtual 357, 3) := by decide +kernel
theorem dX13_turn_7 : decode cX13_turn 7 = .ok (.invokevirtual 137, 3) := by decide +kernel
theorem dX13_turn_10 : decode cX13_turn 10 = .ok (.ireturn, 1) := by decide +kernel
theorem dX13_firstUnlike_0 : decode cX13_firstUnlike 0 = .ok (.iconst 0, 1) := by decide +kernel
theorem dX13_firstUnlike_1 : decode cX13_firstUnlike 1 = .ok (.istore_n 3, 1) := by decide +kernel
theorem dX13_firstUnlike_2 : decode cX13_firstUnlike 2 = .ok (.iload_n 3, 1) := by decide +kernel
theorem dX13_firstUnlike_3 : decode cX13_firstUnlike 3 = .ok (.aload_n 0, 1) := by decide +kernel
theorem dX13_firstUnlike_4 : decode cX13_firstUnlike 4 = .ok (.getfield 17, 3) := by decide +kernel
theorem dX13_firstUnlike_7 : decode cX13_firstUnlike 7 = .ok (.iload_n 1, 1) := by decide +kernel
theorem dX13_firstUnlike_8 : decode cX13_firstUnlike 8 = .ok (.iaload, 1) := by decide +kernel
theorem dX13_firstUnlike_9 : decode cX13_firstUnlike 9 = .ok (.if_icmp .ge 35, 3) := by decide +kernel
theorem dX13_firstUnlike_12 : decode cX13_firstUnlike 12 = .ok (.aload_n 0, 1) := by decide +kernel
theorem dX13_firstUnlike_13 : decode cX13_firstUnlike 13 = .ok (.iload_n 1, 1) := by decide +kernel
theorem dX13_firstUnlike_14 : decode cX13_firstUnlike 14 = .ok (.iload_n 3, 1) := by decide +kernel
theorem dX13_firstUnlike_15 : decode cX13_firstUnlike 15 = .ok (.iconst 0, 1) := by decide +kernel
theorem dX13_firstUnlike_16 : decode cX13_firstUnlike 16 = .ok (.invokevirtual 348, 3) := by decide +kernel
theorem dX13_firstUnlike_19 : decode cX13_firstUnlike 19 = .ok (.ifCond .eq 19, 3) := by decide +kernel
theorem dX13_firstUnlike_22 : decode cX13_firstUnlike 22 = .ok (.aload_n 0, 1) := by decide +kernel
theorem dX13_firstUnlike_23 : decode cX13_firstUnlike 23 = .ok (.aload_n 0, 1) := by decide +kernel
theorem dX13_firstUnlike_24 : decode cX13_firstUnlike 24 = .ok (.iload_n 1, 1) := by decide +kernel
theorem dX13_firstUnlike_25 : decode cX13_firstUnlike 25 = .ok (.iload_n 3, 1) := by decide +kernel
theorem dX13_firstUnlike_26 : decode cX13_firstUnlike 26 = .ok (.invokevirtual 128, 3) := by decide +kernel
theorem dX13_firstUnlike_29 : decode cX13_firstUnlike 29 = .ok (.iload_n 2, 1) := by decide +kernel
theorem dX13_firstUnlike_30 : decode cX13_firstUnlike 30 = .ok (.invokevirtual 233, 3) := by decide +kernel
theorem dX13_firstUnlike_33 : decode cX13_firstUnlike 33 = .ok (.ifCond .ne 5, 3) := by decide +kernel
theorem dX13_firstUnlike_36 : decode cX13_firstUnlike 36 = .ok (.iload_n 3, 1) := by decide +kernel
theorem dX13_firstUnlike_37 : decode cX13_firstUnlike 37 = .ok (.ireturn, 1) := by decide +kernel
theorem dX13_firstUnlike_38 : decode cX13_firstUnlike 38 = .ok (.iinc 3 1, 3) := by decide +kernel
theorem dX13_firstUnlike_41 : decode cX13_firstUnlike 41 = .ok (.goto (-39), 3) := by decide +kernel
theorem dX13_firstUnlike_44 : decode cX13_firstUnlike 44 = .ok (.bipush (-9), 2) := by decide +kernel
theorem dX13_firstUnlike_46 : decode cX13_firstUnlike 46 = .ok (.ireturn, 1) := by decide +kernel
theorem dX13_product_0 : decode cX13_product 0 = .ok (.lconst 0, 1) := by decide +kernel
theorem dX13_product_1 : decode cX13_product 1 = .ok (.lstore 5, 2) := by decide +kernel
theorem dX13_product_3 : decode cX13_product 3 = .ok (.aload_n 0, 1) := by decide +kernel
theorem dX13_product_4 : decode cX13_product 4 = .ok (.iload_n 1, 1) := by decide +kernel
theorem dX13_product_5 : decode cX13_product 5 = .ok (.iload_n 2, 1) := by decide +kernel
theorem dX13_product_6 : decode cX13_product 6 = .ok (.invokevirtual 128, 3) := by decide +kernel
theorem dX13_product_9 : decode cX13_product 9 = .ok (.istore 7, 2) := by decide +kernel
theorem dX13_product_11 : decode cX13_product 11 = .ok (.iconst 0, 1) := by decide +kernel
theorem dX13_product_12 : decode cX13_product 12 = .ok (.istore 8, 2) := by decide +kernel
theorem dX13_product_14 : decode cX13_product 14 = .ok (.iload 8, 2) := by decide +kernel
theorem dX13_product_16 : decode cX13_product 16 = .ok (.aload_n 0, 1) := by decide +kernel
theorem dX13_product_17 : decode cX13_product 17 = .ok (.getfield 26, 3) := by decide +kernel
theorem dX13_product_20 : decode cX13_product 20 = .ok (.iload 7, 2) := by decide +kernel
theorem dX13_product_22 : decode cX13_product 22 = .ok (.iaload, 1) := by decide +kernel
theorem dX13_product_23 : decode cX13_product 23 = .ok (.if_icmp .ge 62, 3) := by decide +kernel
theorem dX13_product_26 : decode cX13_product 26 = .ok (.lload 5, 2) := by decide +kernel
theorem dX13_product_28 : decode cX13_product 28 = .ok (.aload_n 0, 1) := by decide +kernel
theorem dX13_product_29 : decode cX13_product 29 = .ok (.iload_n 3, 1) := by decide +kernel
theorem dX13_product_30 : decode cX13_product 30 = .ok (.iload 8, 2) := by decide +kernel
theorem dX13_product_32 : decode cX13_product 32 = .ok (.iload 4, 2) := by decide +kernel
theorem dX13_product_34 : decode cX13_product 34 = .ok (.invokevirtual 348, 3) := by decide +kernel
theorem dX13_product_37 : decode cX13_product 37 = .ok (.ifCond .eq 38, 3) := by decide +kernel
theorem dX13_product_40 : decode cX13_product 40 = .ok (.aload_n 0, 1) := by decide +kernel
theorem dX13_product_41 : decode cX13_product 41 = .ok (.getfield 35, 3) := by decide +kernel
theorem dX13_product_44 : decode cX13_product 44 = .ok (.bipush 12, 2) := by decide +kernel
theorem dX13_product_46 : decode cX13_product 46 = .ok (.iload 7, 2) := by decide +kernel
theorem dX13_product_48 : decode cX13_product 48 = .ok (.imul, 1) := by decide +kernel
theorem dX13_product_49 : decode cX13_product 49 = .ok (.iload 8, 2) := by decide +kernel
theorem dX13_product_51 : decode cX13_product 51 = .ok (.iadd, 1) := by decide +kernel
theorem dX13_product_52 : decode cX13_product 52 = .ok (.laload, 1) := by decide +kernel
theorem dX13_product_53 : decode cX13_product 53 = .ok (.aload_n 0, 1) := by decide +kernel
theorem dX13_product_54 : decode cX13_product 54 = .ok (.getfield 35, 3) := by decide +kernel
theorem dX13_product_57 : decode cX13_product 57 = .ok (.bipush 12, 2) := by decide +kernel
theorem dX13_product_59 : decode cX13_product 59 = .ok (.aload_n 0, 1) := by decide +kernel
theorem dX13_product_60 : decode cX13_product 60 = .ok (.iload_n 3, 1) := by decide +kernel
theorem dX13_product_61 : decode cX13_product 61 = .ok (.iload 8, 2) := by decide +kernel
theorem dX13_product_63 : decode cX13_product 63 = .ok (.invokevirtual 128, 3) := by decide +kernel
theorem dX13_product_66 : decode cX13_product 66 = .ok (.imul, 1) := by decide +kernel
theorem dX13_product_67 : decode cX13_product 67 = .ok (.iload 4, 2) := by decide +kernel
theorem dX13_product_69 : decode cX13_product 69 = .ok (.iadd, 1) := by decide +kernel
theorem dX13_product_70 : decode cX13_product 70 = .ok (.laload, 1) := by decide +kernel
theorem dX13_product_71 : decode cX13_product 71 = .ok (.lmul, 1) := by decide +kernel
theorem dX13_product_72 : decode cX13_product 72 = .ok (.goto 4, 3) := by decide +kernel
theorem dX13_product_75 : decode cX13_product 75 = .ok (.lconst 0, 1) := by decide +kernel
theorem dX13_product_76 : decode cX13_product 76 = .ok (.ladd, 1) := by decide +kernel
theorem dX13_product_77 : decode cX13_product 77 = .ok (.lstore 5, 2) := by decide +kernel
theorem dX13_product_79 : decode cX13_product 79 = .ok (.iinc 8 1, 3) := by decide +kernel
theorem dX13_product_82 : decode cX13_product 82 = .ok (.goto (-68), 3) := by decide +kernel
theorem dX13_product_85 : decode cX13_product 85 = .ok (.lload 5, 2) := by decide +kernel
theorem dX13_product_87 : decode cX13_product 87 = .ok (.lreturn, 1) := by decide +kernel
theorem dX13_timesDeed_0 : decode cX13_timesDeed 0 = .ok (.iload_n 1, 1) := by decide +kernel
theorem dX13_timesDeed_1 : decode cX13_timesDeed 1 = .ok (.invokestatic 134, 3) := by decide +kernel
theorem dX13_timesDeed_4 : decode cX13_timesDeed 4 = .ok (.ifCond .eq 17, 3) := by decide +kernel
theorem dX13_timesDeed_7 : decode cX13_timesDeed 7 = .ok (.iload_n 2, 1) := by decide +kernel
theorem dX13_timesDeed_8 : decode cX13_timesDeed 8 = .ok (.invokestatic 134, 3) := by decide +kernel
theorem dX13_timesDeed_11 : decode cX13_timesDeed 11 = .ok (.ifCond .eq 10, 3) := by decide +kernel
theorem dX13_timesDeed_14 : decode cX13_timesDeed 14 = .ok (.iload_n 3, 1) := by decide +kernel
theorem dX13_timesDeed_15 : decode cX13_timesDeed 15 = .ok (.invokestatic 134, 3) := by decide +kernel
theorem dX13_timesDeed_18 : decode cX13_timesDeed 18 = .ok (.ifCond .ne 5, 3) := by decide +kernel
theorem dX13_timesDeed_21 : decode cX13_timesDeed 21 = .ok (.iconst (-1), 1) := by decide +kernel
theorem dX13_timesDeed_22 : decode cX13_timesDeed 22 = .ok (.ireturn, 1) := by decide +kernel
theorem dX13_timesDeed_23 : decode cX13_timesDeed 23 = .ok (.aload_n 0, 1) := by decide +kernel
theorem dX13_timesDeed_24 : decode cX13_timesDeed 24 = .ok (.getfield 17, 3) := by decide +kernel
theorem dX13_timesDeed_27 : decode cX13_timesDeed 27 = .ok (.iload_n 1, 1) := by decide +kernel
theorem dX13_timesDeed_28 : decode cX13_timesDeed 28 = .ok (.iaload, 1) := by decide +kernel
theorem dX13_timesDeed_29 : decode cX13_timesDeed 29 = .ok (.ifCond .lt 12, 3) := by decide +kernel
theorem dX13_timesDeed_32 : decode cX13_timesDeed 32 = .ok (.aload_n 0, 1) := by decide +kernel
theorem dX13_timesDeed_33 : decode cX13_timesDeed 33 = .ok (.getfield 17, 3) := by decide +kernel
theorem dX13_timesDeed_36 : decode cX13_timesDeed 36 = .ok (.iload_n 2, 1) := by decide +kernel
theorem dX13_timesDeed_37 : decode cX13_timesDeed 37 = .ok (.iaload, 1) := by decide +kernel
theorem dX13_timesDeed_38 : decode cX13_timesDeed 38 = .ok (.ifCond .ge 6, 3) := by decide +kernel
theorem dX13_timesDeed_41 : decode cX13_timesDeed 41 = .ok (.bipush (-2), 2) := by decide +kernel
theorem dX13_timesDeed_43 : decode cX13_timesDeed 43 = .ok (.ireturn, 1) := by decide +kernel
theorem dX13_timesDeed_44 : decode cX13_timesDeed 44 = .ok (.aload_n 0, 1) := by decide +kernel
theorem dX13_timesDeed_45 : decode cX13_timesDeed 45 = .ok (.iload_n 1, 1) := by decide +kernel
theorem dX13_timesDeed_46 : decode cX13_timesDeed 46 = .ok (.iconst 5, 1) := by decide +kernel
theorem dX13_timesDeed_47 : decode cX13_timesDeed 47 = .ok (.invokevirtual 360, 3) := by decide +kernel
theorem dX13_timesDeed_50 : decode cX13_timesDeed 50 = .ok (.istore 4, 2) := by decide +kernel
theorem dX13_timesDeed_52 : decode cX13_timesDeed 52 = .ok (.aload_n 0, 1) := by decide +kernel
theorem dX13_timesDeed_53 : decode cX13_timesDeed 53 = .ok (.iload_n 2, 1) := by decide +kernel
theorem dX13_timesDeed_54 : decode cX13_timesDeed 54 = .ok (.iconst 5, 1) := by decide +kernel
theorem dX13_timesDeed_55 : decode cX13_timesDeed 55 = .ok (.invokevirtual 360, 3) := by decide +kernel
theorem dX13_timesDeed_58 : decode cX13_timesDeed 58 = .ok (.istore 5, 2) := by decide +kernel
theorem dX13_timesDeed_60 : decode cX13_timesDeed 60 = .ok (.iload 4, 2) := by decide +kernel
theorem dX13_timesDeed_62 : decode cX13_timesDeed 62 = .ok (.bipush (-9), 2) := by decide +kernel
theorem dX13_timesDeed_64 : decode cX13_timesDeed 64 = .ok (.if_icmp .ne 10, 3) := by decide +kernel
theorem dX13_timesDeed_67 : decode cX13_timesDeed 67 = .ok (.iload 5, 2) := by decide +kernel
theorem dX13_timesDeed_69 : decode cX13_timesDeed 69 = .ok (.bipush (-9), 2) := by decide +kernel
theorem dX13_timesDeed_71 : decode cX13_timesDeed 71 = .ok (.if_icmp .eq 27, 3) := by decide +kernel
theorem dX13_timesDeed_74 : decode cX13_timesDeed 74 = .ok (.aload_n 0, 1) := by decide +kernel
theorem dX13_timesDeed_75 : decode cX13_timesDeed 75 = .ok (.iload 4, 2) := by decide +kernel
theorem dX13_timesDeed_77 : decode cX13_timesDeed 77 = .ok (.bipush (-9), 2) := by decide +kernel
theorem dX13_timesDeed_79 : decode cX13_timesDeed 79 = .ok (.if_icmp .eq 8, 3) := by decide +kernel
theorem dX13_timesDeed_82 : decode cX13_timesDeed 82 = .ok (.iload 4, 2) := by decide +kernel
theorem dX13_timesDeed_84 : decode cX13_timesDeed 84 = .ok (.goto 8, 3) := by decide +kernel
theorem dX13_timesDeed_87 : decode cX13_timesDeed 87 = .ok (.bipush 10, 2) := by decide +kernel
theorem dX13_timesDeed_89 : decode cX13_timesDeed 89 = .ok (.iload 5, 2) := by decide +kernel
theorem dX13_timesDeed_91 : decode cX13_timesDeed 91 = .ok (.iadd, 1) := by decide +kernel
theorem dX13_timesDeed_92 : decode cX13_timesDeed 92 = .ok (.putfield 13, 3) := by decide +kernel
theorem dX13_timesDeed_95 : decode cX13_timesDeed 95 = .ok (.bipush (-7), 2) := by decide +kernel
theorem dX13_timesDeed_97 : decode cX13_timesDeed 97 = .ok (.ireturn, 1) := by decide +kernel
theorem dX13_timesDeed_98 : decode cX13_timesDeed 98 = .ok (.aload_n 0, 1) := by decide +kernel
theorem dX13_timesDeed_99 : decode cX13_timesDeed 99 = .ok (.iload_n 2, 1) := by decide +kernel
theorem dX13_timesDeed_100 : decode cX13_timesDeed 100 = .ok (.invokevirtual 351, 3) := by decide +kernel
theorem dX13_timesDeed_103 : decode cX13_timesDeed 103 = .ok (.istore 6, 2) := by decide +kernel
theorem dX13_timesDeed_105 : decode cX13_timesDeed 105 = .ok (.aload_n 0, 1) := by decide +kernel
theorem dX13_timesDeed_106 : decode cX13_timesDeed 106 = .ok (.getfield 17, 3) := by decide +kernel
theorem dX13_timesDeed_109 : decode cX13_timesDeed 109 = .ok (.iload_n 1, 1) := by decide +kernel
theorem dX13_timesDeed_110 : decode cX13_timesDeed 110 = .ok (.iaload, 1) := by decide +kernel
theorem dX13_timesDeed_111 : decode cX13_timesDeed 111 = .ok (.istore 7, 2) := by decide +kernel
theorem dX13_timesDeed_113 : decode cX13_timesDeed 113 = .ok (.iconst 0, 1) := by decide +kernel
theorem dX13_timesDeed_114 : decode cX13_timesDeed 114 = .ok (.istore 8, 2) := by decide +kernel
theorem dX13_timesDeed_116 : decode cX13_timesDeed 116 = .ok (.iload 8, 2) := by decide +kernel
theorem dX13_timesDeed_118 : decode cX13_timesDeed 118 = .ok (.iload 7, 2) := by decide +kernel
theorem dX13_timesDeed_120 : decode cX13_timesDeed 120 = .ok (.if_icmp .ge 85, 3) := by decide +kernel
theorem dX13_timesDeed_123 : decode cX13_timesDeed 123 = .ok (.aload_n 0, 1) := by decide +kernel
theorem dX13_timesDeed_124 : decode cX13_timesDeed 124 = .ok (.getfield 52, 3) := by decide +kernel
theorem dX13_timesDeed_127 : decode cX13_timesDeed 127 = .ok (.iload 8, 2) := by decide +kernel
theorem dX13_timesDeed_129 : decode cX13_timesDeed 129 = .ok (.iconst (-1), 1) := by decide +kernel
theorem dX13_timesDeed_130 : decode cX13_timesDeed 130 = .ok (.iastore, 1) := by decide +kernel
theorem dX13_timesDeed_131 : decode cX13_timesDeed 131 = .ok (.aload_n 0, 1) := by decide +kernel
theorem dX13_timesDeed_132 : decode cX13_timesDeed 132 = .ok (.iload_n 1, 1) := by decide +kernel
theorem dX13_timesDeed_133 : decode cX13_timesDeed 133 = .ok (.iload 8, 2) := by decide +kernel
theorem dX13_timesDeed_135 : decode cX13_timesDeed 135 = .ok (.invokevirtual 336, 3) := by decide +kernel
theorem dX13_timesDeed_138 : decode cX13_timesDeed 138 = .ok (.ifCond .eq 61, 3) := by decide +kernel
theorem dX13_timesDeed_141 : decode cX13_timesDeed 141 = .ok (.aload_n 0, 1) := by decide +kernel
theorem dX13_timesDeed_142 : decode cX13_timesDeed 142 = .ok (.getfield 52, 3) := by decide +kernel
theorem dX13_timesDeed_145 : decode cX13_timesDeed 145 = .ok (.iload 8, 2) := by decide +kernel
theorem dX13_timesDeed_147 : decode cX13_timesDeed 147 = .ok (.aload_n 0, 1) := by decide +kernel
theorem dX13_timesDeed_148 : decode cX13_timesDeed 148 = .ok (.iconst 5, 1) := by decide +kernel
theorem dX13_timesDeed_149 : decode cX13_timesDeed 149 = .ok (.iload 6, 2) := by decide +kernel
theorem dX13_timesDeed_151 : decode cX13_timesDeed 151 = .ok (.invokevirtual 155, 3) := by decide +kernel
theorem dX13_timesDeed_154 : decode cX13_timesDeed 154 = .ok (.iastore, 1) := by decide +kernel
theorem dX13_timesDeed_155 : decode cX13_timesDeed 155 = .ok (.iconst 0, 1) := by decide +kernel
theorem dX13_timesDeed_156 : decode cX13_timesDeed 156 = .ok (.istore 9, 2) := by decide +kernel
theorem dX13_timesDeed_158 : decode cX13_timesDeed 158 = .ok (.iload 9, 2) := by decide +kernel
theorem dX13_timesDeed_160 : decode cX13_timesDeed 160 = .ok (.iload 6, 2) := by decide +kernel
theorem dX13_timesDeed_162 : decode cX13_timesDeed 162 = .ok (.if_icmp .ge 37, 3) := by decide +kernel
theorem dX13_timesDeed_165 : decode cX13_timesDeed 165 = .ok (.aload_n 0, 1) := by decide +kernel
theorem dX13_timesDeed_166 : decode cX13_timesDeed 166 = .ok (.getfield 35, 3) := by decide +kernel
theorem dX13_timesDeed_169 : decode cX13_timesDeed 169 = .ok (.bipush 12, 2) := by decide +kernel
theorem dX13_timesDeed_171 : decode cX13_timesDeed 171 = .ok (.aload_n 0, 1) := by decide +kernel
theorem dX13_timesDeed_172 : decode cX13_timesDeed 172 = .ok (.getfield 52, 3) := by decide +kernel
theorem dX13_timesDeed_175 : decode cX13_timesDeed 175 = .ok (.iload 8, 2) := by decide +kernel
theorem dX13_timesDeed_177 : decode cX13_timesDeed 177 = .ok (.iaload, 1) := by decide +kernel
theorem dX13_timesDeed_178 : decode cX13_timesDeed 178 = .ok (.imul, 1) := by decide +kernel
theorem dX13_timesDeed_179 : decode cX13_timesDeed 179 = .ok (.iload 9, 2) := by decide +kernel
theorem dX13_timesDeed_181 : decode cX13_timesDeed 181 = .ok (.iadd, 1) := by decide +kernel
theorem dX13_timesDeed_182 : decode cX13_timesDeed 182 = .ok (.aload_n 0, 1) := by decide +kernel
theorem dX13_timesDeed_183 : decode cX13_timesDeed 183 = .ok (.iload_n 1, 1) := by decide +kernel
theorem dX13_timesDeed_184 : decode cX13_timesDeed 184 = .ok (.iload 8, 2) := by decide +kernel
theorem dX13_timesDeed_186 : decode cX13_timesDeed 186 = .ok (.iload_n 2, 1) := by decide +kernel
theorem dX13_timesDeed_187 : decode cX13_timesDeed 187 = .ok (.iload 9, 2) := by decide +kernel
theorem dX13_timesDeed_189 : decode cX13_timesDeed 189 = .ok (.invokevirtual 363, 3) := by decide +kernel
theorem dX13_timesDeed_192 : decode cX13_timesDeed 192 = .ok (.lastore, 1) := by decide +kernel
theorem dX13_timesDeed_193 : decode cX13_timesDeed 193 = .ok (.iinc 9 1, 3) := by decide +kernel
theorem dX13_timesDeed_196 : decode cX13_timesDeed 196 = .ok (.goto (-38), 3) := by decide +kernel
theorem dX13_timesDeed_199 : decode cX13_timesDeed 199 = .ok (.iinc 8 1, 3) := by decide +kernel
theorem dX13_timesDeed_202 : decode cX13_timesDeed 202 = .ok (.goto (-86), 3) := by decide +kernel
theorem dX13_timesDeed_205 : decode cX13_timesDeed 205 = .ok (.aload_n 0, 1) := by decide +kernel
theorem dX13_timesDeed_206 : decode cX13_timesDeed 206 = .ok (.iload_n 3, 1) := by decide +kernel
theorem dX13_timesDeed_207 : decode cX13_timesDeed 207 = .ok (.iload 7, 2) := by decide +kernel
theorem dX13_timesDeed_209 : decode cX13_timesDeed 209 = .ok (.invokevirtual 342, 3) := by decide +kernel
theorem dX13_timesDeed_212 : decode cX13_timesDeed 212 = .ok (.ireturn, 1) := by decide +kernel
theorem dX13_times_0 : decode cX13_times 0 = .ok (.aload_n 0, 1) := by decide +kernel
theorem dX13_times_1 : decode cX13_times 1 = .ok (.aload_n 0, 1) := by decide +kernel
theorem dX13_times_2 : decode cX13_times 2 = .ok (.iload_n 1, 1) := by decide +kernel
theorem dX13_times_3 : decode cX13_times 3 = .ok (.iload_n 2, 1) := by decide +kernel
theorem dX13_times_4 : decode cX13_times 4 = .ok (.iload_n 3, 1) := by decide +kernel
theorem dX13_times_5 : decode cX13_times 5 = .ok (.invokevirtual 367, 3) := by decide +kernel
theorem dX13_times_8 : decode cX13_times 8 = .ok (.invokevirtual 137, 3) := by decide +kernel
theorem dX13_times_11 : decode cX13_times 11 = .ok (.ireturn, 1) := by decide +kernel
theorem dX13_foldsNumber_0 : decode cX13_foldsNumber 0 = .ok (.iload_n 1, 1) := by decide +kernel
theorem dX13_foldsNumber_1 : decode cX13_foldsNumber 1 = .ok (.iconst 4, 1) := by decide +kernel
theorem dX13_foldsNumber_2 : decode cX13_foldsNumber 2 = .ok (.if_icmp .ne 26, 3) := by decide +kernel
theorem dX13_foldsNumber_5 : decode cX13_foldsNumber 5 = .ok (.aload_n 0, 1) := by decide +kernel
theorem dX13_foldsNumber_6 : decode cX13_foldsNumber 6 = .ok (.dup, 1) := by decide +kernel
theorem dX13_foldsNumber_7 : decode cX13_foldsNumber 7 = .ok (.getfield 370, 3) := by decide +kernel
theorem dX13_foldsNumber_10 : decode cX13_foldsNumber 10 = .ok (.lload_n 3, 1) := by decide +kernel
theorem dX13_foldsNumber_11 : decode cX13_foldsNumber 11 = .ok (.lconst 0, 1) := by decide +kernel
theorem dX13_foldsNumber_12 : decode cX13_foldsNumber 12 = .ok (.lcmp, 1) := by decide +kernel
theorem dX13_foldsNumber_13 : decode cX13_foldsNumber 13 = .ok (.ifCond .eq 7, 3) := by decide +kernel
theorem dX13_foldsNumber_16 : decode cX13_foldsNumber 16 = .ok (.lconst 1, 1) := by decide +kernel
theorem dX13_foldsNumber_17 : decode cX13_foldsNumber 17 = .ok (.goto 4, 3) := by decide +kernel
theorem dX13_foldsNumber_20 : decode cX13_foldsNumber 20 = .ok (.lconst 0, 1) := by decide +kernel
theorem dX13_foldsNumber_21 : decode cX13_foldsNumber 21 = .ok (.ladd, 1) := by decide +kernel
theorem dX13_foldsNumber_22 : decode cX13_foldsNumber 22 = .ok (.putfield 370, 3) := by decide +kernel
theorem dX13_foldsNumber_25 : decode cX13_foldsNumber 25 = .ok (.goto 92, 3) := by decide +kernel
theorem dX13_foldsNumber_28 : decode cX13_foldsNumber 28 = .ok (.iload_n 1, 1) := by decide +kernel
theorem dX13_foldsNumber_29 : decode cX13_foldsNumber 29 = .ok (.ifCond .ne 32, 3) := by decide +kernel
theorem dX13_foldsNumber_32 : decode cX13_foldsNumber 32 = .ok (.aload_n 0, 1) := by decide +kernel
theorem dX13_foldsNumber_33 : decode cX13_foldsNumber 33 = .ok (.iload_n 2, 1) := by decide +kernel
theorem dX13_foldsNumber_34 : decode cX13_foldsNumber 34 = .ok (.iconst 4, 1) := by decide +kernel
theorem dX13_foldsNumber_35 : decode cX13_foldsNumber 35 = .ok (.if_icmp .ne 14, 3) := by decide +kernel
theorem dX13_foldsNumber_38 : decode cX13_foldsNumber 38 = .ok (.aload_n 0, 1) := by decide +kernel
theorem dX13_foldsNumber_39 : decode cX13_foldsNumber 39 = .ok (.getfield 370, 3) := by decide +kernel
theorem dX13_foldsNumber_42 : decode cX13_foldsNumber 42 = .ok (.lload_n 3, 1) := by decide +kernel
theorem dX13_foldsNumber_43 : decode cX13_foldsNumber 43 = .ok (.ladd, 1) := by decide +kernel
theorem dX13_foldsNumber_44 : decode cX13_foldsNumber 44 = .ok (.l2i, 1) := by decide +kernel
theorem dX13_foldsNumber_45 : decode cX13_foldsNumber 45 = .ok (.i2l, 1) := by decide +kernel
theorem dX13_foldsNumber_46 : decode cX13_foldsNumber 46 = .ok (.goto 9, 3) := by decide +kernel
theorem dX13_foldsNumber_49 : decode cX13_foldsNumber 49 = .ok (.aload_n 0, 1) := by decide +kernel
theorem dX13_foldsNumber_50 : decode cX13_foldsNumber 50 = .ok (.getfield 370, 3) := by decide +kernel
theorem dX13_foldsNumber_53 : decode cX13_foldsNumber 53 = .ok (.lload_n 3, 1) := by decide +kernel
theorem dX13_foldsNumber_54 : decode cX13_foldsNumber 54 = .ok (.ladd, 1) := by decide +kernel
theorem dX13_foldsNumber_55 : decode cX13_foldsNumber 55 = .ok (.putfield 370, 3) := by decide +kernel
theorem dX13_foldsNumber_58 : decode cX13_foldsNumber 58 = .ok (.goto 59, 3) := by decide +kernel
theorem dX13_foldsNumber_61 : decode cX13_foldsNumber 61 = .ok (.iload_n 1, 1) := by decide +kernel
theorem dX13_foldsNumber_62 : decode cX13_foldsNumber 62 = .ok (.iconst 3, 1) := by decide +kernel
theorem dX13_foldsNumber_63 : decode cX13_foldsNumber 63 = .ok (.if_icmp .ne 16, 3) := by decide +kernel
theorem dX13_foldsNumber_66 : decode cX13_foldsNumber 66 = .ok (.aload_n 0, 1) := by decide +kernel
theorem dX13_foldsNumber_67 : decode cX13_foldsNumber 67 = .ok (.dup, 1) := by decide +kernel
theorem dX13_foldsNumber_68 : decode cX13_foldsNumber 68 = .ok (.getfield 370, 3) := by decide +kernel
theorem dX13_foldsNumber_71 : decode cX13_foldsNumber 71 = .ok (.lload_n 3, 1) := by decide +kernel
theorem dX13_foldsNumber_72 : decode cX13_foldsNumber 72 = .ok (.lxor, 1) := by decide +kernel
theorem dX13_foldsNumber_73 : decode cX13_foldsNumber 73 = .ok (.putfield 370, 3) := by decide +kernel
theorem dX13_foldsNumber_76 : decode cX13_foldsNumber 76 = .ok (.goto 41, 3) := by decide +kernel
theorem dX13_foldsNumber_79 : decode cX13_foldsNumber 79 = .ok (.aload_n 0, 1) := by decide +kernel
theorem dX13_foldsNumber_80 : decode cX13_foldsNumber 80 = .ok (.getfield 373, 3) := by decide +kernel
theorem dX13_foldsNumber_83 : decode cX13_foldsNumber 83 = .ok (.ifCond .eq 29, 3) := by decide +kernel
theorem dX13_foldsNumber_86 : decode cX13_foldsNumber 86 = .ok (.iload_n 1, 1) := by decide +kernel
theorem dX13_foldsNumber_87 : decode cX13_foldsNumber 87 = .ok (.iconst 1, 1) := by decide +kernel
theorem dX13_foldsNumber_88 : decode cX13_foldsNumber 88 = .ok (.if_icmp .ne 15, 3) := by decide +kernel
theorem dX13_foldsNumber_91 : decode cX13_foldsNumber 91 = .ok (.lload_n 3, 1) := by decide +kernel
theorem dX13_foldsNumber_92 : decode cX13_foldsNumber 92 = .ok (.aload_n 0, 1) := by decide +kernel
theorem dX13_foldsNumber_93 : decode cX13_foldsNumber 93 = .ok (.getfield 370, 3) := by decide +kernel
theorem dX13_foldsNumber_96 : decode cX13_foldsNumber 96 = .ok (.lcmp, 1) := by decide +kernel
theorem dX13_foldsNumber_97 : decode cX13_foldsNumber 97 = .ok (.ifCond .ge 20, 3) := by decide +kernel
theorem dX13_foldsNumber_100 : decode cX13_foldsNumber 100 = .ok (.goto 12, 3) := by decide +kernel
theorem dX13_foldsNumber_103 : decode cX13_foldsNumber 103 = .ok (.lload_n 3, 1) := by decide +kernel
theorem dX13_foldsNumber_104 : decode cX13_foldsNumber 104 = .ok (.aload_n 0, 1) := by decide +kernel
theorem dX13_foldsNumber_105 : decode cX13_foldsNumber 105 = .ok (.getfield 370, 3) := by decide +kernel
theorem dX13_foldsNumber_108 : decode cX13_foldsNumber 108 = .ok (.lcmp, 1) := by decide +kernel
theorem dX13_foldsNumber_109 : decode cX13_foldsNumber 109 = .ok (.ifCond .le 8, 3) := by decide +kernel
theorem dX13_foldsNumber_112 : decode cX13_foldsNumber 112 = .ok (.aload_n 0, 1) := by decide +kernel
theorem dX13_foldsNumber_113 : decode cX13_foldsNumber 113 = .ok (.lload_n 3, 1) := by decide +kernel
theorem dX13_foldsNumber_114 : decode cX13_foldsNumber 114 = .ok (.putfield 370, 3) := by decide +kernel
theorem dX13_foldsNumber_117 : decode cX13_foldsNumber 117 = .ok (.return_, 1) := by decide +kernel
theorem dX13_foldsReal_0 : decode cX13_foldsReal 0 = .ok (.iload_n 1, 1) := by decide +kernel
theorem dX13_foldsReal_1 : decode cX13_foldsReal 1 = .ok (.iconst 4, 1) := by decide +kernel
theorem dX13_foldsReal_2 : decode cX13_foldsReal 2 = .ok (.if_icmp .ne 26, 3) := by decide +kernel
theorem dX13_foldsReal_5 : decode cX13_foldsReal 5 = .ok (.aload_n 0, 1) := by decide +kernel
theorem dX13_foldsReal_6 : decode cX13_foldsReal 6 = .ok (.dup, 1) := by decide +kernel
theorem dX13_foldsReal_7 : decode cX13_foldsReal 7 = .ok (.getfield 370, 3) := by decide +kernel
theorem dX13_foldsReal_10 : decode cX13_foldsReal 10 = .ok (.dload_n 2, 1) := by decide +kernel
theorem dX13_foldsReal_11 : decode cX13_foldsReal 11 = .ok (.dconst 0, 1) := by decide +kernel
theorem dX13_foldsReal_12 : decode cX13_foldsReal 12 = .ok (.dcmp .l, 1) := by decide +kernel
theorem dX13_foldsReal_13 : decode cX13_foldsReal 13 = .ok (.ifCond .eq 7, 3) := by decide +kernel
theorem dX13_foldsReal_16 : decode cX13_foldsReal 16 = .ok (.lconst 1, 1) := by decide +kernel
theorem dX13_foldsReal_17 : decode cX13_foldsReal 17 = .ok (.goto 4, 3) := by decide +kernel
theorem dX13_foldsReal_20 : decode cX13_foldsReal 20 = .ok (.lconst 0, 1) := by decide +kernel
theorem dX13_foldsReal_21 : decode cX13_foldsReal 21 = .ok (.ladd, 1) := by decide +kernel
theorem dX13_foldsReal_22 : decode cX13_foldsReal 22 = .ok (.putfield 370, 3) := by decide +kernel
theorem dX13_foldsReal_25 : decode cX13_foldsReal 25 = .ok (.goto 58, 3) := by decide +kernel
theorem dX13_foldsReal_28 : decode cX13_foldsReal 28 = .ok (.iload_n 1, 1) := by decide +kernel
theorem dX13_foldsReal_29 : decode cX13_foldsReal 29 = .ok (.ifCond .ne 16, 3) := by decide +kernel
theorem dX13_foldsReal_32 : decode cX13_foldsReal 32 = .ok (.aload_n 0, 1) := by decide +kernel
theorem dX13_foldsReal_33 : decode cX13_foldsReal 33 = .ok (.dup, 1) := by decide +kernel
theorem dX13_foldsReal_34 : decode cX13_foldsReal 34 = .ok (.getfield 376, 3) := by decide +kernel
theorem dX13_foldsReal_37 : decode cX13_foldsReal 37 = .ok (.dload_n 2, 1) := by decide +kernel
theorem dX13_foldsReal_38 : decode cX13_foldsReal 38 = .ok (.dadd, 1) := by decide +kernel
theorem dX13_foldsReal_39 : decode cX13_foldsReal 39 = .ok (.putfield 376, 3) := by decide +kernel
theorem dX13_foldsReal_42 : decode cX13_foldsReal 42 = .ok (.goto 41, 3) := by decide +kernel
theorem dX13_foldsReal_45 : decode cX13_foldsReal 45 = .ok (.aload_n 0, 1) := by decide +kernel
theorem dX13_foldsReal_46 : decode cX13_foldsReal 46 = .ok (.getfield 373, 3) := by decide +kernel
theorem dX13_foldsReal_49 : decode cX13_foldsReal 49 = .ok (.ifCond .eq 29, 3) := by decide +kernel
theorem dX13_foldsReal_52 : decode cX13_foldsReal 52 = .ok (.iload_n 1, 1) := by decide +kernel
theorem dX13_foldsReal_53 : decode cX13_foldsReal 53 = .ok (.iconst 1, 1) := by decide +kernel
theorem dX13_foldsReal_54 : decode cX13_foldsReal 54 = .ok (.if_icmp .ne 15, 3) := by decide +kernel
theorem dX13_foldsReal_57 : decode cX13_foldsReal 57 = .ok (.dload_n 2, 1) := by decide +kernel
theorem dX13_foldsReal_58 : decode cX13_foldsReal 58 = .ok (.aload_n 0, 1) := by decide +kernel
theorem dX13_foldsReal_59 : decode cX13_foldsReal 59 = .ok (.getfield 376, 3) := by decide +kernel
theorem dX13_foldsReal_62 : decode cX13_foldsReal 62 = .ok (.dcmp .g, 1) := by decide +kernel
theorem dX13_foldsReal_63 : decode cX13_foldsReal 63 = .ok (.ifCond .ge 20, 3) := by decide +kernel
theorem dX13_foldsReal_66 : decode cX13_foldsReal 66 = .ok (.goto 12, 3) := by decide +kernel
theorem dX13_foldsReal_69 : decode cX13_foldsReal 69 = .ok (.dload_n 2, 1) := by decide +kernel
theorem dX13_foldsReal_70 : decode cX13_foldsReal 70 = .ok (.aload_n 0, 1) := by decide +kernel
theorem dX13_foldsReal_71 : decode cX13_foldsReal 71 = .ok (.getfield 376, 3) := by decide +kernel
theorem dX13_foldsReal_74 : decode cX13_foldsReal 74 = .ok (.dcmp .l, 1) := by decide +kernel
theorem dX13_foldsReal_75 : decode cX13_foldsReal 75 = .ok (.ifCond .le 8, 3) := by decide +kernel
theorem dX13_foldsReal_78 : decode cX13_foldsReal 78 = .ok (.aload_n 0, 1) := by decide +kernel
theorem dX13_foldsReal_79 : decode cX13_foldsReal 79 = .ok (.dload_n 2, 1) := by decide +kernel
theorem dX13_foldsReal_80 : decode cX13_foldsReal 80 = .ok (.putfield 376, 3) := by decide +kernel
theorem dX13_foldsReal_83 : decode cX13_foldsReal 83 = .ok (.return_, 1) := by decide +kernel
theorem dX13_isAs_0 : decode cX13_isAs 0 = .ok (.iload_n 0, 1) := by decide +kernel
theorem dX13_isAs_1 : decode cX13_isAs 1 = .ok (.iconst 4, 1) := by decide +kernel
theorem dX13_isAs_2 : decode cX13_isAs 2 = .ok (.if_icmp .eq 14, 3) := by decide +kernel
theorem dX13_isAs_5 : decode cX13_isAs 5 = .ok (.iload_n 0, 1) := by decide +kernel
theorem dX13_isAs_6 : decode cX13_isAs 6 = .ok (.iconst 5, 1) := by decide +kernel
theorem dX13_isAs_7 : decode cX13_isAs 7 = .ok (.if_icmp .eq 9, 3) := by decide +kernel
theorem dX13_isAs_10 : decode cX13_isAs 10 = .ok (.iload_n 0, 1) := by decide +kernel
theorem dX13_isAs_11 : decode cX13_isAs 11 = .ok (.bipush 7, 2) := by decide +kernel
theorem dX13_isAs_13 : decode cX13_isAs 13 = .ok (.if_icmp .ne 7, 3) := by decide +kernel
theorem dX13_isAs_16 : decode cX13_isAs 16 = .ok (.iconst 1, 1) := by decide +kernel
theorem dX13_isAs_17 : decode cX13_isAs 17 = .ok (.goto 4, 3) := by decide +kernel
theorem dX13_isAs_20 : decode cX13_isAs 20 = .ok (.iconst 0, 1) := by decide +kernel
theorem dX13_isAs_21 : decode cX13_isAs 21 = .ok (.ireturn, 1) := by decide +kernel
theorem dX13_isOfWay_0 : decode cX13_isOfWay 0 = .ok (.iload_n 0, 1) := by decide +kernel
theorem dX13_isOfWay_1 : decode cX13_isOfWay 1 = .ok (.ifCond .ne 16, 3) := by decide +kernel
theorem dX13_isOfWay_4 : decode cX13_isOfWay 4 = .ok (.iload_n 2, 1) := by decide +kernel
theorem dX13_isOfWay_5 : decode cX13_isOfWay 5 = .ok (.iload_n 1, 1) := by decide +kernel
theorem dX13_isOfWay_6 : decode cX13_isOfWay 6 = .ok (.if_icmp .ne 7, 3) := by decide +kernel
theorem dX13_isOfWay_9 : decode cX13_isOfWay 9 = .ok (.iconst 1, 1) := by decide +kernel
theorem dX13_isOfWay_10 : decode cX13_isOfWay 10 = .ok (.goto 46, 3) := by decide +kernel
theorem dX13_isOfWay_13 : decode cX13_isOfWay 13 = .ok (.iconst 0, 1) := by decide +kernel
theorem dX13_isOfWay_14 : decode cX13_isOfWay 14 = .ok (.goto 42, 3) := by decide +kernel
theorem dX13_isOfWay_17 : decode cX13_isOfWay 17 = .ok (.iload_n 0, 1) := by decide +kernel
theorem dX13_isOfWay_18 : decode cX13_isOfWay 18 = .ok (.iconst 1, 1) := by decide +kernel
theorem dX13_isOfWay_19 : decode cX13_isOfWay 19 = .ok (.if_icmp .ne 16, 3) := by decide +kernel
theorem dX13_isOfWay_22 : decode cX13_isOfWay 22 = .ok (.iload_n 3, 1) := by decide +kernel
theorem dX13_isOfWay_23 : decode cX13_isOfWay 23 = .ok (.iload_n 1, 1) := by decide +kernel
theorem dX13_isOfWay_24 : decode cX13_isOfWay 24 = .ok (.if_icmp .ne 7, 3) := by decide +kernel
theorem dX13_isOfWay_27 : decode cX13_isOfWay 27 = .ok (.iconst 1, 1) := by decide +kernel
theorem dX13_isOfWay_28 : decode cX13_isOfWay 28 = .ok (.goto 28, 3) := by decide +kernel
theorem dX13_isOfWay_31 : decode cX13_isOfWay 31 = .ok (.iconst 0, 1) := by decide +kernel
theorem dX13_isOfWay_32 : decode cX13_isOfWay 32 = .ok (.goto 24, 3) := by decide +kernel
theorem dX13_isOfWay_35 : decode cX13_isOfWay 35 = .ok (.iload_n 0, 1) := by decide +kernel
theorem dX13_isOfWay_36 : decode cX13_isOfWay 36 = .ok (.iconst 2, 1) := by decide +kernel
theorem dX13_isOfWay_37 : decode cX13_isOfWay 37 = .ok (.if_icmp .ne 18, 3) := by decide +kernel
theorem dX13_isOfWay_40 : decode cX13_isOfWay 40 = .ok (.iload_n 2, 1) := by decide +kernel
theorem dX13_isOfWay_41 : decode cX13_isOfWay 41 = .ok (.iload_n 3, 1) := by decide +kernel
theorem dX13_isOfWay_42 : decode cX13_isOfWay 42 = .ok (.iadd, 1) := by decide +kernel
theorem dX13_isOfWay_43 : decode cX13_isOfWay 43 = .ok (.iload_n 1, 1) := by decide +kernel
theorem dX13_isOfWay_44 : decode cX13_isOfWay 44 = .ok (.if_icmp .ne 7, 3) := by decide +kernel
theorem dX13_isOfWay_47 : decode cX13_isOfWay 47 = .ok (.iconst 1, 1) := by decide +kernel
theorem dX13_isOfWay_48 : decode cX13_isOfWay 48 = .ok (.goto 8, 3) := by decide +kernel
theorem dX13_isOfWay_51 : decode cX13_isOfWay 51 = .ok (.iconst 0, 1) := by decide +kernel
theorem dX13_isOfWay_52 : decode cX13_isOfWay 52 = .ok (.goto 4, 3) := by decide +kernel
theorem dX13_isOfWay_55 : decode cX13_isOfWay 55 = .ok (.iconst 1, 1) := by decide +kernel
theorem dX13_isOfWay_56 : decode cX13_isOfWay 56 = .ok (.ireturn, 1) := by decide +kernel
theorem dX13_foldAnswer_0 : decode cX13_foldAnswer 0 = .ok (.iload_n 1, 1) := by decide +kernel
theorem dX13_foldAnswer_1 : decode cX13_foldAnswer 1 = .ok (.invokestatic 134, 3) := by decide +kernel
theorem dX13_foldAnswer_4 : decode cX13_foldAnswer 4 = .ok (.ifCond .eq 38, 3) := by decide +kernel
theorem dX13_foldAnswer_7 : decode cX13_foldAnswer 7 = .ok (.iload_n 2, 1) := by decide +kernel
theorem dX13_foldAnswer_8 : decode cX13_foldAnswer 8 = .ok (.iconst 0, 1) := by decide +kernel
theorem dX13_foldAnswer_9 : decode cX13_foldAnswer 9 = .ok (.iconst 3, 1) := by decide +kernel
theorem dX13_foldAnswer_10 : decode cX13_foldAnswer 10 = .ok (.invokestatic 109, 3) := by decide +kernel
theorem dX13_foldAnswer_13 : decode cX13_foldAnswer 13 = .ok (.ifCond .eq 29, 3) := by decide +kernel
theorem dX13_foldAnswer_16 : decode cX13_foldAnswer 16 = .ok (.iload_n 3, 1) := by decide +kernel
theorem dX13_foldAnswer_17 : decode cX13_foldAnswer 17 = .ok (.ifCond .lt 25, 3) := by decide +kernel
theorem dX13_foldAnswer_20 : decode cX13_foldAnswer 20 = .ok (.iload 4, 2) := by decide +kernel
theorem dX13_foldAnswer_22 : decode cX13_foldAnswer 22 = .ok (.iconst 0, 1) := by decide +kernel
theorem dX13_foldAnswer_23 : decode cX13_foldAnswer 23 = .ok (.iconst 4, 1) := by decide +kernel
theorem dX13_foldAnswer_24 : decode cX13_foldAnswer 24 = .ok (.invokestatic 109, 3) := by decide +kernel
theorem dX13_foldAnswer_27 : decode cX13_foldAnswer 27 = .ok (.ifCond .eq 15, 3) := by decide +kernel
theorem dX13_foldAnswer_30 : decode cX13_foldAnswer 30 = .ok (.iload 5, 2) := by decide +kernel
theorem dX13_foldAnswer_32 : decode cX13_foldAnswer 32 = .ok (.invokestatic 379, 3) := by decide +kernel
theorem dX13_foldAnswer_35 : decode cX13_foldAnswer 35 = .ok (.ifCond .eq 7, 3) := by decide +kernel
theorem dX13_foldAnswer_38 : decode cX13_foldAnswer 38 = .ok (.iconst 1, 1) := by decide +kernel
theorem dX13_foldAnswer_39 : decode cX13_foldAnswer 39 = .ok (.goto 4, 3) := by decide +kernel
theorem dX13_foldAnswer_42 : decode cX13_foldAnswer 42 = .ok (.iconst 0, 1) := by decide +kernel
theorem dX13_foldAnswer_43 : decode cX13_foldAnswer 43 = .ok (.istore 6, 2) := by decide +kernel
theorem dX13_foldAnswer_45 : decode cX13_foldAnswer 45 = .ok (.iload 6, 2) := by decide +kernel
theorem dX13_foldAnswer_47 : decode cX13_foldAnswer 47 = .ok (.ifCond .eq 25, 3) := by decide +kernel
theorem dX13_foldAnswer_50 : decode cX13_foldAnswer 50 = .ok (.iload_n 2, 1) := by decide +kernel
theorem dX13_foldAnswer_51 : decode cX13_foldAnswer 51 = .ok (.iconst 3, 1) := by decide +kernel
theorem dX13_foldAnswer_52 : decode cX13_foldAnswer 52 = .ok (.if_icmp .ne 7, 3) := by decide +kernel
theorem dX13_foldAnswer_55 : decode cX13_foldAnswer 55 = .ok (.iload_n 3, 1) := by decide +kernel
theorem dX13_foldAnswer_56 : decode cX13_foldAnswer 56 = .ok (.ifCond .ne 16, 3) := by decide +kernel
theorem dX13_foldAnswer_59 : decode cX13_foldAnswer 59 = .ok (.iload 4, 2) := by decide +kernel
theorem dX13_foldAnswer_61 : decode cX13_foldAnswer 61 = .ok (.iconst 3, 1) := by decide +kernel
theorem dX13_foldAnswer_62 : decode cX13_foldAnswer 62 = .ok (.if_icmp .ne 12, 3) := by decide +kernel
theorem dX13_foldAnswer_65 : decode cX13_foldAnswer 65 = .ok (.iload 5, 2) := by decide +kernel
theorem dX13_foldAnswer_67 : decode cX13_foldAnswer 67 = .ok (.bipush 7, 2) := by decide +kernel
theorem dX13_foldAnswer_69 : decode cX13_foldAnswer 69 = .ok (.if_icmp .ne 5, 3) := by decide +kernel
theorem dX13_foldAnswer_72 : decode cX13_foldAnswer 72 = .ok (.iconst (-1), 1) := by decide +kernel
theorem dX13_foldAnswer_73 : decode cX13_foldAnswer 73 = .ok (.ireturn, 1) := by decide +kernel
theorem dX13_foldAnswer_74 : decode cX13_foldAnswer 74 = .ok (.iload_n 2, 1) := by decide +kernel
theorem dX13_foldAnswer_75 : decode cX13_foldAnswer 75 = .ok (.ifCond .ne 12, 3) := by decide +kernel
