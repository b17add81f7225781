theorem dX9_lengthOf_3 : decode cX9_lengthOf 3 = .ok (.invokevirtual 94, 3) := by decide +kernel
theorem dX9_lengthOf_6 : decode cX9_lengthOf 6 = .ok (.astore_n 3, 1) := by decide +kernel
theorem dX9_lengthOf_7 : decode cX9_lengthOf 7 = .ok (.aload_n 3, 1) := by decide +kernel
theorem dX9_lengthOf_8 : decode cX9_lengthOf 8 = .ok (.ifnonnull 12, 3) := by decide +kernel
theorem dX9_lengthOf_11 : decode cX9_lengthOf 11 = .ok (.aload_n 0, 1) := by decide +kernel
theorem dX9_lengthOf_12 : decode cX9_lengthOf 12 = .ok (.iload_n 1, 1) := by decide +kernel
theorem dX9_lengthOf_13 : decode cX9_lengthOf 13 = .ok (.iload_n 2, 1) := by decide +kernel
theorem dX9_lengthOf_14 : decode cX9_lengthOf 14 = .ok (.invokevirtual 100, 3) := by decide +kernel
theorem dX9_lengthOf_17 : decode cX9_lengthOf 17 = .ok (.goto 7, 3) := by decide +kernel
theorem dX9_lengthOf_20 : decode cX9_lengthOf 20 = .ok (.aload_n 3, 1) := by decide +kernel
theorem dX9_lengthOf_21 : decode cX9_lengthOf 21 = .ok (.getfield 103, 3) := by decide +kernel
theorem dX9_lengthOf_24 : decode cX9_lengthOf 24 = .ok (.ireturn, 1) := by decide +kernel
theorem dX9_cellsAt_0 : decode cX9_cellsAt 0 = .ok (.aload_n 0, 1) := by decide +kernel
theorem dX9_cellsAt_1 : decode cX9_cellsAt 1 = .ok (.iload_n 1, 1) := by decide +kernel
theorem dX9_cellsAt_2 : decode cX9_cellsAt 2 = .ok (.iload_n 2, 1) := by decide +kernel
theorem dX9_cellsAt_3 : decode cX9_cellsAt 3 = .ok (.invokevirtual 94, 3) := by decide +kernel
theorem dX9_cellsAt_6 : decode cX9_cellsAt 6 = .ok (.astore_n 3, 1) := by decide +kernel
theorem dX9_cellsAt_7 : decode cX9_cellsAt 7 = .ok (.aload_n 3, 1) := by decide +kernel
theorem dX9_cellsAt_8 : decode cX9_cellsAt 8 = .ok (.ifnonnull 7, 3) := by decide +kernel
theorem dX9_cellsAt_11 : decode cX9_cellsAt 11 = .ok (.iconst 0, 1) := by decide +kernel
theorem dX9_cellsAt_12 : decode cX9_cellsAt 12 = .ok (.goto 7, 3) := by decide +kernel
theorem dX9_cellsAt_15 : decode cX9_cellsAt 15 = .ok (.aload_n 3, 1) := by decide +kernel
theorem dX9_cellsAt_16 : decode cX9_cellsAt 16 = .ok (.getfield 103, 3) := by decide +kernel
theorem dX9_cellsAt_19 : decode cX9_cellsAt 19 = .ok (.ireturn, 1) := by decide +kernel
theorem dX9_longestRow_0 : decode cX9_longestRow 0 = .ok (.iconst 0, 1) := by decide +kernel
theorem dX9_longestRow_1 : decode cX9_longestRow 1 = .ok (.istore_n 2, 1) := by decide +kernel
theorem dX9_longestRow_2 : decode cX9_longestRow 2 = .ok (.iconst 0, 1) := by decide +kernel
theorem dX9_longestRow_3 : decode cX9_longestRow 3 = .ok (.istore_n 3, 1) := by decide +kernel
theorem dX9_longestRow_4 : decode cX9_longestRow 4 = .ok (.iload_n 3, 1) := by decide +kernel
theorem dX9_longestRow_5 : decode cX9_longestRow 5 = .ok (.aload_n 0, 1) := by decide +kernel
theorem dX9_longestRow_6 : decode cX9_longestRow 6 = .ok (.getfield 9, 3) := by decide +kernel
theorem dX9_longestRow_9 : decode cX9_longestRow 9 = .ok (.iload_n 1, 1) := by decide +kernel
theorem dX9_longestRow_10 : decode cX9_longestRow 10 = .ok (.iaload, 1) := by decide +kernel
theorem dX9_longestRow_11 : decode cX9_longestRow 11 = .ok (.if_icmp .ge 20, 3) := by decide +kernel
theorem dX9_longestRow_14 : decode cX9_longestRow 14 = .ok (.iload_n 2, 1) := by decide +kernel
theorem dX9_longestRow_15 : decode cX9_longestRow 15 = .ok (.aload_n 0, 1) := by decide +kernel
theorem dX9_longestRow_16 : decode cX9_longestRow 16 = .ok (.iload_n 1, 1) := by decide +kernel
theorem dX9_longestRow_17 : decode cX9_longestRow 17 = .ok (.iload_n 3, 1) := by decide +kernel
theorem dX9_longestRow_18 : decode cX9_longestRow 18 = .ok (.invokevirtual 106, 3) := by decide +kernel
theorem dX9_longestRow_21 : decode cX9_longestRow 21 = .ok (.invokestatic 109, 3) := by decide +kernel
theorem dX9_longestRow_24 : decode cX9_longestRow 24 = .ok (.istore_n 2, 1) := by decide +kernel
theorem dX9_longestRow_25 : decode cX9_longestRow 25 = .ok (.iinc 3 1, 3) := by decide +kernel
theorem dX9_longestRow_28 : decode cX9_longestRow 28 = .ok (.goto (-24), 3) := by decide +kernel
theorem dX9_longestRow_31 : decode cX9_longestRow 31 = .ok (.iload_n 2, 1) := by decide +kernel
theorem dX9_longestRow_32 : decode cX9_longestRow 32 = .ok (.ireturn, 1) := by decide +kernel
theorem dX9_firstUnreadable_0 : decode cX9_firstUnreadable 0 = .ok (.iconst 0, 1) := by decide +kernel
theorem dX9_firstUnreadable_1 : decode cX9_firstUnreadable 1 = .ok (.istore_n 3, 1) := by decide +kernel
theorem dX9_firstUnreadable_2 : decode cX9_firstUnreadable 2 = .ok (.iload_n 3, 1) := by decide +kernel
theorem dX9_firstUnreadable_3 : decode cX9_firstUnreadable 3 = .ok (.aload_n 0, 1) := by decide +kernel
theorem dX9_firstUnreadable_4 : decode cX9_firstUnreadable 4 = .ok (.getfield 9, 3) := by decide +kernel
theorem dX9_firstUnreadable_7 : decode cX9_firstUnreadable 7 = .ok (.iload_n 1, 1) := by decide +kernel
theorem dX9_firstUnreadable_8 : decode cX9_firstUnreadable 8 = .ok (.iaload, 1) := by decide +kernel
theorem dX9_firstUnreadable_9 : decode cX9_firstUnreadable 9 = .ok (.if_icmp .ge 33, 3) := by decide +kernel
theorem dX9_firstUnreadable_12 : decode cX9_firstUnreadable 12 = .ok (.aload_n 0, 1) := by decide +kernel
theorem dX9_firstUnreadable_13 : decode cX9_firstUnreadable 13 = .ok (.iload_n 1, 1) := by decide +kernel
theorem dX9_firstUnreadable_14 : decode cX9_firstUnreadable 14 = .ok (.iload_n 3, 1) := by decide +kernel
theorem dX9_firstUnreadable_15 : decode cX9_firstUnreadable 15 = .ok (.invokevirtual 94, 3) := by decide +kernel
theorem dX9_firstUnreadable_18 : decode cX9_firstUnreadable 18 = .ok (.astore 4, 2) := by decide +kernel
theorem dX9_firstUnreadable_20 : decode cX9_firstUnreadable 20 = .ok (.aload 4, 2) := by decide +kernel
theorem dX9_firstUnreadable_22 : decode cX9_firstUnreadable 22 = .ok (.ifnull 14, 3) := by decide +kernel
theorem dX9_firstUnreadable_25 : decode cX9_firstUnreadable 25 = .ok (.aload 4, 2) := by decide +kernel
theorem dX9_firstUnreadable_27 : decode cX9_firstUnreadable 27 = .ok (.iload_n 2, 1) := by decide +kernel
theorem dX9_firstUnreadable_28 : decode cX9_firstUnreadable 28 = .ok (.invokevirtual 114, 3) := by decide +kernel
theorem dX9_firstUnreadable_31 : decode cX9_firstUnreadable 31 = .ok (.ifCond .ne 5, 3) := by decide +kernel
theorem dX9_firstUnreadable_34 : decode cX9_firstUnreadable 34 = .ok (.iload_n 3, 1) := by decide +kernel
theorem dX9_firstUnreadable_35 : decode cX9_firstUnreadable 35 = .ok (.ireturn, 1) := by decide +kernel
theorem dX9_firstUnreadable_36 : decode cX9_firstUnreadable 36 = .ok (.iinc 3 1, 3) := by decide +kernel
theorem dX9_firstUnreadable_39 : decode cX9_firstUnreadable 39 = .ok (.goto (-37), 3) := by decide +kernel
theorem dX9_firstUnreadable_42 : decode cX9_firstUnreadable 42 = .ok (.bipush (-9), 2) := by decide +kernel
theorem dX9_firstUnreadable_44 : decode cX9_firstUnreadable 44 = .ok (.ireturn, 1) := by decide +kernel
theorem dX9_presentGrids_0 : decode cX9_presentGrids 0 = .ok (.iconst 0, 1) := by decide +kernel
theorem dX9_presentGrids_1 : decode cX9_presentGrids 1 = .ok (.istore_n 1, 1) := by decide +kernel
theorem dX9_presentGrids_2 : decode cX9_presentGrids 2 = .ok (.iconst 0, 1) := by decide +kernel
theorem dX9_presentGrids_3 : decode cX9_presentGrids 3 = .ok (.istore_n 2, 1) := by decide +kernel
theorem dX9_presentGrids_4 : decode cX9_presentGrids 4 = .ok (.iload_n 2, 1) := by decide +kernel
theorem dX9_presentGrids_5 : decode cX9_presentGrids 5 = .ok (.iconst 4, 1) := by decide +kernel
theorem dX9_presentGrids_6 : decode cX9_presentGrids 6 = .ok (.if_icmp .ge 26, 3) := by decide +kernel
theorem dX9_presentGrids_9 : decode cX9_presentGrids 9 = .ok (.iload_n 1, 1) := by decide +kernel
theorem dX9_presentGrids_10 : decode cX9_presentGrids 10 = .ok (.aload_n 0, 1) := by decide +kernel
theorem dX9_presentGrids_11 : decode cX9_presentGrids 11 = .ok (.getfield 9, 3) := by decide +kernel
theorem dX9_presentGrids_14 : decode cX9_presentGrids 14 = .ok (.iload_n 2, 1) := by decide +kernel
theorem dX9_presentGrids_15 : decode cX9_presentGrids 15 = .ok (.iaload, 1) := by decide +kernel
theorem dX9_presentGrids_16 : decode cX9_presentGrids 16 = .ok (.ifCond .ge 7, 3) := by decide +kernel
theorem dX9_presentGrids_19 : decode cX9_presentGrids 19 = .ok (.iconst 0, 1) := by decide +kernel
theorem dX9_presentGrids_20 : decode cX9_presentGrids 20 = .ok (.goto 4, 3) := by decide +kernel
theorem dX9_presentGrids_23 : decode cX9_presentGrids 23 = .ok (.iconst 1, 1) := by decide +kernel
theorem dX9_presentGrids_24 : decode cX9_presentGrids 24 = .ok (.iadd, 1) := by decide +kernel
theorem dX9_presentGrids_25 : decode cX9_presentGrids 25 = .ok (.istore_n 1, 1) := by decide +kernel
theorem dX9_presentGrids_26 : decode cX9_presentGrids 26 = .ok (.iinc 2 1, 3) := by decide +kernel
theorem dX9_presentGrids_29 : decode cX9_presentGrids 29 = .ok (.goto (-25), 3) := by decide +kernel
theorem dX9_presentGrids_32 : decode cX9_presentGrids 32 = .ok (.iload_n 1, 1) := by decide +kernel
theorem dX9_presentGrids_33 : decode cX9_presentGrids 33 = .ok (.ireturn, 1) := by decide +kernel
theorem dX9_amountOf_0 : decode cX9_amountOf 0 = .ok (.iload_n 1, 1) := by decide +kernel
theorem dX9_amountOf_1 : decode cX9_amountOf 1 = .ok (.ifCond .ne 8, 3) := by decide +kernel
theorem dX9_amountOf_4 : decode cX9_amountOf 4 = .ok (.aload_n 0, 1) := by decide +kernel
theorem dX9_amountOf_5 : decode cX9_amountOf 5 = .ok (.invokevirtual 117, 3) := by decide +kernel
theorem dX9_amountOf_8 : decode cX9_amountOf 8 = .ok (.ireturn, 1) := by decide +kernel
theorem dX9_amountOf_9 : decode cX9_amountOf 9 = .ok (.iconst 0, 1) := by decide +kernel
theorem dX9_amountOf_10 : decode cX9_amountOf 10 = .ok (.istore_n 2, 1) := by decide +kernel
theorem dX9_amountOf_11 : decode cX9_amountOf 11 = .ok (.iconst 0, 1) := by decide +kernel
theorem dX9_amountOf_12 : decode cX9_amountOf 12 = .ok (.istore_n 3, 1) := by decide +kernel
theorem dX9_amountOf_13 : decode cX9_amountOf 13 = .ok (.iload_n 3, 1) := by decide +kernel
theorem dX9_amountOf_14 : decode cX9_amountOf 14 = .ok (.iconst 4, 1) := by decide +kernel
theorem dX9_amountOf_15 : decode cX9_amountOf 15 = .ok (.if_icmp .ge 40, 3) := by decide +kernel
theorem dX9_amountOf_18 : decode cX9_amountOf 18 = .ok (.iconst 0, 1) := by decide +kernel
theorem dX9_amountOf_19 : decode cX9_amountOf 19 = .ok (.istore 4, 2) := by decide +kernel
theorem dX9_amountOf_21 : decode cX9_amountOf 21 = .ok (.iload 4, 2) := by decide +kernel
theorem dX9_amountOf_23 : decode cX9_amountOf 23 = .ok (.aload_n 0, 1) := by decide +kernel
theorem dX9_amountOf_24 : decode cX9_amountOf 24 = .ok (.getfield 9, 3) := by decide +kernel
theorem dX9_amountOf_27 : decode cX9_amountOf 27 = .ok (.iload_n 3, 1) := by decide +kernel
theorem dX9_amountOf_28 : decode cX9_amountOf 28 = .ok (.iaload, 1) := by decide +kernel
theorem dX9_amountOf_29 : decode cX9_amountOf 29 = .ok (.if_icmp .ge 20, 3) := by decide +kernel
theorem dX9_amountOf_32 : decode cX9_amountOf 32 = .ok (.iload_n 2, 1) := by decide +kernel
theorem dX9_amountOf_33 : decode cX9_amountOf 33 = .ok (.aload_n 0, 1) := by decide +kernel
theorem dX9_amountOf_34 : decode cX9_amountOf 34 = .ok (.iload_n 1, 1) := by decide +kernel
theorem dX9_amountOf_35 : decode cX9_amountOf 35 = .ok (.iload_n 3, 1) := by decide +kernel
theorem dX9_amountOf_36 : decode cX9_amountOf 36 = .ok (.iload 4, 2) := by decide +kernel
theorem dX9_amountOf_38 : decode cX9_amountOf 38 = .ok (.invokevirtual 121, 3) := by decide +kernel
theorem dX9_amountOf_41 : decode cX9_amountOf 41 = .ok (.iadd, 1) := by decide +kernel
theorem dX9_amountOf_42 : decode cX9_amountOf 42 = .ok (.istore_n 2, 1) := by decide +kernel
theorem dX9_amountOf_43 : decode cX9_amountOf 43 = .ok (.iinc 4 1, 3) := by decide +kernel
theorem dX9_amountOf_46 : decode cX9_amountOf 46 = .ok (.goto (-25), 3) := by decide +kernel
theorem dX9_amountOf_49 : decode cX9_amountOf 49 = .ok (.iinc 3 1, 3) := by decide +kernel
theorem dX9_amountOf_52 : decode cX9_amountOf 52 = .ok (.goto (-39), 3) := by decide +kernel
theorem dX9_amountOf_55 : decode cX9_amountOf 55 = .ok (.iload_n 2, 1) := by decide +kernel
theorem dX9_amountOf_56 : decode cX9_amountOf 56 = .ok (.ireturn, 1) := by decide +kernel
theorem dX9_amountAt_0 : decode cX9_amountAt 0 = .ok (.aload_n 0, 1) := by decide +kernel
theorem dX9_amountAt_1 : decode cX9_amountAt 1 = .ok (.iload_n 2, 1) := by decide +kernel
theorem dX9_amountAt_2 : decode cX9_amountAt 2 = .ok (.iload_n 3, 1) := by decide +kernel
theorem dX9_amountAt_3 : decode cX9_amountAt 3 = .ok (.invokevirtual 94, 3) := by decide +kernel
theorem dX9_amountAt_6 : decode cX9_amountAt 6 = .ok (.astore 4, 2) := by decide +kernel
theorem dX9_amountAt_8 : decode cX9_amountAt 8 = .ok (.aload 4, 2) := by decide +kernel
theorem dX9_amountAt_10 : decode cX9_amountAt 10 = .ok (.ifnull 25, 3) := by decide +kernel
theorem dX9_amountAt_13 : decode cX9_amountAt 13 = .ok (.aload_n 0, 1) := by decide +kernel
theorem dX9_amountAt_14 : decode cX9_amountAt 14 = .ok (.aload 4, 2) := by decide +kernel
theorem dX9_amountAt_16 : decode cX9_amountAt 16 = .ok (.getfield 66, 3) := by decide +kernel
theorem dX9_amountAt_19 : decode cX9_amountAt 19 = .ok (.invokevirtual 59, 3) := by decide +kernel
theorem dX9_amountAt_22 : decode cX9_amountAt 22 = .ok (.iload_n 2, 1) := by decide +kernel
theorem dX9_amountAt_23 : decode cX9_amountAt 23 = .ok (.bipush 6, 2) := by decide +kernel
theorem dX9_amountAt_25 : decode cX9_amountAt 25 = .ok (.imul, 1) := by decide +kernel
theorem dX9_amountAt_26 : decode cX9_amountAt 26 = .ok (.iload_n 3, 1) := by decide +kernel
theorem dX9_amountAt_27 : decode cX9_amountAt 27 = .ok (.iadd, 1) := by decide +kernel
theorem dX9_amountAt_28 : decode cX9_amountAt 28 = .ok (.if_icmp .ne 7, 3) := by decide +kernel
theorem dX9_amountAt_31 : decode cX9_amountAt 31 = .ok (.iconst 1, 1) := by decide +kernel
theorem dX9_amountAt_32 : decode cX9_amountAt 32 = .ok (.goto 4, 3) := by decide +kernel
theorem dX9_amountAt_35 : decode cX9_amountAt 35 = .ok (.iconst 0, 1) := by decide +kernel
theorem dX9_amountAt_36 : decode cX9_amountAt 36 = .ok (.istore 5, 2) := by decide +kernel
theorem dX9_amountAt_38 : decode cX9_amountAt 38 = .ok (.iload_n 1, 1) := by decide +kernel
theorem dX9_amountAt_39 : decode cX9_amountAt 39 = .ok (.tableswitch 125 1 6 #[37, 39, 50, 61, 76, 98], 37) := by decide +kernel
theorem dX9_amountAt_76 : decode cX9_amountAt 76 = .ok (.iconst 1, 1) := by decide +kernel
theorem dX9_amountAt_77 : decode cX9_amountAt 77 = .ok (.ireturn, 1) := by decide +kernel
theorem dX9_amountAt_78 : decode cX9_amountAt 78 = .ok (.aload 4, 2) := by decide +kernel
theorem dX9_amountAt_80 : decode cX9_amountAt 80 = .ok (.ifnull 7, 3) := by decide +kernel
theorem dX9_amountAt_83 : decode cX9_amountAt 83 = .ok (.iconst 1, 1) := by decide +kernel
theorem dX9_amountAt_84 : decode cX9_amountAt 84 = .ok (.goto 4, 3) := by decide +kernel
theorem dX9_amountAt_87 : decode cX9_amountAt 87 = .ok (.iconst 0, 1) := by decide +kernel
theorem dX9_amountAt_88 : decode cX9_amountAt 88 = .ok (.ireturn, 1) := by decide +kernel
theorem dX9_amountAt_89 : decode cX9_amountAt 89 = .ok (.iload 5, 2) := by decide +kernel
theorem dX9_amountAt_91 : decode cX9_amountAt 91 = .ok (.ifCond .eq 7, 3) := by decide +kernel
theorem dX9_amountAt_94 : decode cX9_amountAt 94 = .ok (.iconst 1, 1) := by decide +kernel
theorem dX9_amountAt_95 : decode cX9_amountAt 95 = .ok (.goto 4, 3) := by decide +kernel
theorem dX9_amountAt_98 : decode cX9_amountAt 98 = .ok (.iconst 0, 1) := by decide +kernel
theorem dX9_amountAt_99 : decode cX9_amountAt 99 = .ok (.ireturn, 1) := by decide +kernel
theorem dX9_amountAt_100 : decode cX9_amountAt 100 = .ok (.iload 5, 2) := by decide +kernel
theorem dX9_amountAt_102 : decode cX9_amountAt 102 = .ok (.ifCond .eq 11, 3) := by decide +kernel
theorem dX9_amountAt_105 : decode cX9_amountAt 105 = .ok (.aload 4, 2) := by decide +kernel
theorem dX9_amountAt_107 : decode cX9_amountAt 107 = .ok (.getfield 103, 3) := by decide +kernel
theorem dX9_amountAt_110 : decode cX9_amountAt 110 = .ok (.goto 4, 3) := by decide +kernel
theorem dX9_amountAt_113 : decode cX9_amountAt 113 = .ok (.iconst 0, 1) := by decide +kernel
theorem dX9_amountAt_114 : decode cX9_amountAt 114 = .ok (.ireturn, 1) := by decide +kernel
theorem dX9_amountAt_115 : decode cX9_amountAt 115 = .ok (.aload_n 0, 1) := by decide +kernel
theorem dX9_amountAt_116 : decode cX9_amountAt 116 = .ok (.getfield 15, 3) := by decide +kernel
theorem dX9_amountAt_119 : decode cX9_amountAt 119 = .ok (.iload_n 2, 1) := by decide +kernel
theorem dX9_amountAt_120 : decode cX9_amountAt 120 = .ok (.bipush 6, 2) := by decide +kernel
theorem dX9_amountAt_122 : decode cX9_amountAt 122 = .ok (.imul, 1) := by decide +kernel
theorem dX9_amountAt_123 : decode cX9_amountAt 123 = .ok (.iload_n 3, 1) := by decide +kernel
theorem dX9_amountAt_124 : decode cX9_amountAt 124 = .ok (.iadd, 1) := by decide +kernel
theorem dX9_amountAt_125 : decode cX9_amountAt 125 = .ok (.iaload, 1) := by decide +kernel
theorem dX9_amountAt_126 : decode cX9_amountAt 126 = .ok (.bipush (-14), 2) := by decide +kernel
theorem dX9_amountAt_128 : decode cX9_amountAt 128 = .ok (.if_icmp .ne 7, 3) := by decide +kernel
theorem dX9_amountAt_131 : decode cX9_amountAt 131 = .ok (.iconst 1, 1) := by decide +kernel
theorem dX9_amountAt_132 : decode cX9_amountAt 132 = .ok (.goto 4, 3) := by decide +kernel
theorem dX9_amountAt_135 : decode cX9_amountAt 135 = .ok (.iconst 0, 1) := by decide +kernel
theorem dX9_amountAt_136 : decode cX9_amountAt 136 = .ok (.ireturn, 1) := by decide +kernel
theorem dX9_amountAt_137 : decode cX9_amountAt 137 = .ok (.aload 4, 2) := by decide +kernel
theorem dX9_amountAt_139 : decode cX9_amountAt 139 = .ok (.ifnonnull 23, 3) := by decide +kernel
theorem dX9_amountAt_142 : decode cX9_amountAt 142 = .ok (.aload_n 0, 1) := by decide +kernel
theorem dX9_amountAt_143 : decode cX9_amountAt 143 = .ok (.getfield 15, 3) := by decide +kernel
theorem dX9_amountAt_146 : decode cX9_amountAt 146 = .ok (.iload_n 2, 1) := by decide +kernel
theorem dX9_amountAt_147 : decode cX9_amountAt 147 = .ok (.bipush 6, 2) := by decide +kernel
theorem dX9_amountAt_149 : decode cX9_amountAt 149 = .ok (.imul, 1) := by decide +kernel
theorem dX9_amountAt_150 : decode cX9_amountAt 150 = .ok (.iload_n 3, 1) := by decide +kernel
theorem dX9_amountAt_151 : decode cX9_amountAt 151 = .ok (.iadd, 1) := by decide +kernel
theorem dX9_amountAt_152 : decode cX9_amountAt 152 = .ok (.iaload, 1) := by decide +kernel
theorem dX9_amountAt_153 : decode cX9_amountAt 153 = .ok (.bipush (-14), 2) := by decide +kernel
theorem dX9_amountAt_155 : decode cX9_amountAt 155 = .ok (.if_icmp .eq 7, 3) := by decide +kernel
theorem dX9_amountAt_158 : decode cX9_amountAt 158 = .ok (.iconst 1, 1) := by decide +kernel
theorem dX9_amountAt_159 : decode cX9_amountAt 159 = .ok (.goto 4, 3) := by decide +kernel
theorem dX9_amountAt_162 : decode cX9_amountAt 162 = .ok (.iconst 0, 1) := by decide +kernel
theorem dX9_amountAt_163 : decode cX9_amountAt 163 = .ok (.ireturn, 1) := by decide +kernel
theorem dX9_amountAt_164 : decode cX9_amountAt 164 = .ok (.iload 5, 2) := by decide +kernel
theorem dX9_amountAt_166 : decode cX9_amountAt 166 = .ok (.ifCond .eq 11, 3) := by decide +kernel
theorem dX9_amountAt_169 : decode cX9_amountAt 169 = .ok (.aload 4, 2) := by decide +kernel
theorem dX9_amountAt_171 : decode cX9_amountAt 171 = .ok (.invokestatic 125, 3) := by decide +kernel
theorem dX9_amountAt_174 : decode cX9_amountAt 174 = .ok (.goto 4, 3) := by decide +kernel
theorem dX9_amountAt_177 : decode cX9_amountAt 177 = .ok (.iconst 0, 1) := by decide +kernel
theorem dX9_amountAt_178 : decode cX9_amountAt 178 = .ok (.ireturn, 1) := by decide +kernel
theorem dX9_nullsOf_0 : decode cX9_nullsOf 0 = .ok (.iconst 0, 1) := by decide +kernel
theorem dX9_nullsOf_1 : decode cX9_nullsOf 1 = .ok (.istore_n 1, 1) := by decide +kernel
theorem dX9_nullsOf_2 : decode cX9_nullsOf 2 = .ok (.iconst 0, 1) := by decide +kernel
theorem dX9_nullsOf_3 : decode cX9_nullsOf 3 = .ok (.istore_n 2, 1) := by decide +kernel
theorem dX9_nullsOf_4 : decode cX9_nullsOf 4 = .ok (.iload_n 2, 1) := by decide +kernel
theorem dX9_nullsOf_5 : decode cX9_nullsOf 5 = .ok (.aload_n 0, 1) := by decide +kernel
theorem dX9_nullsOf_6 : decode cX9_nullsOf 6 = .ok (.getfield 103, 3) := by decide +kernel
theorem dX9_nullsOf_9 : decode cX9_nullsOf 9 = .ok (.if_icmp .ge 28, 3) := by decide +kernel
theorem dX9_nullsOf_12 : decode cX9_nullsOf 12 = .ok (.iload_n 1, 1) := by decide +kernel
theorem dX9_nullsOf_13 : decode cX9_nullsOf 13 = .ok (.aload_n 0, 1) := by decide +kernel
theorem dX9_nullsOf_14 : decode cX9_nullsOf 14 = .ok (.getfield 129, 3) := by decide +kernel
theorem dX9_nullsOf_17 : decode cX9_nullsOf 17 = .ok (.iload_n 2, 1) := by decide +kernel
theorem dX9_nullsOf_18 : decode cX9_nullsOf 18 = .ok (.iaload, 1) := by decide +kernel
theorem dX9_nullsOf_19 : decode cX9_nullsOf 19 = .ok (.bipush 11, 2) := by decide +kernel
theorem dX9_nullsOf_21 : decode cX9_nullsOf 21 = .ok (.if_icmp .ne 7, 3) := by decide +kernel
theorem dX9_nullsOf_24 : decode cX9_nullsOf 24 = .ok (.iconst 1, 1) := by decide +kernel
theorem dX9_nullsOf_25 : decode cX9_nullsOf 25 = .ok (.goto 4, 3) := by decide +kernel
theorem dX9_nullsOf_28 : decode cX9_nullsOf 28 = .ok (.iconst 0, 1) := by decide +kernel
theorem dX9_nullsOf_29 : decode cX9_nullsOf 29 = .ok (.iadd, 1) := by decide +kernel
theorem dX9_nullsOf_30 : decode cX9_nullsOf 30 = .ok (.istore_n 1, 1) := by decide +kernel
theorem dX9_nullsOf_31 : decode cX9_nullsOf 31 = .ok (.iinc 2 1, 3) := by decide +kernel
theorem dX9_nullsOf_34 : decode cX9_nullsOf 34 = .ok (.goto (-30), 3) := by decide +kernel
theorem dX9_nullsOf_37 : decode cX9_nullsOf 37 = .ok (.iload_n 1, 1) := by decide +kernel
theorem dX9_nullsOf_38 : decode cX9_nullsOf 38 = .ok (.ireturn, 1) := by decide +kernel
theorem dX9_rowsOfKind_0 : decode cX9_rowsOfKind 0 = .ok (.iconst 0, 1) := by decide +kernel
theorem dX9_rowsOfKind_1 : decode cX9_rowsOfKind 1 = .ok (.istore_n 2, 1) := by decide +kernel
theorem dX9_rowsOfKind_2 : decode cX9_rowsOfKind 2 = .ok (.iconst 0, 1) := by decide +kernel
theorem dX9_rowsOfKind_3 : decode cX9_rowsOfKind 3 = .ok (.istore_n 3, 1) := by decide +kernel
theorem dX9_rowsOfKind_4 : decode cX9_rowsOfKind 4 = .ok (.iload_n 3, 1) := by decide +kernel
theorem dX9_rowsOfKind_5 : decode cX9_rowsOfKind 5 = .ok (.bipush 31, 2) := by decide +kernel
theorem dX9_rowsOfKind_7 : decode cX9_rowsOfKind 7 = .ok (.if_icmp .ge 40, 3) := by decide +kernel
theorem dX9_rowsOfKind_10 : decode cX9_rowsOfKind 10 = .ok (.iload_n 2, 1) := by decide +kernel
theorem dX9_rowsOfKind_11 : decode cX9_rowsOfKind 11 = .ok (.aload_n 0, 1) := by decide +kernel
theorem dX9_rowsOfKind_12 : decode cX9_rowsOfKind 12 = .ok (.getfield 20, 3) := by decide +kernel
theorem dX9_rowsOfKind_15 : decode cX9_rowsOfKind 15 = .ok (.iload_n 3, 1) := by decide +kernel
theorem dX9_rowsOfKind_16 : decode cX9_rowsOfKind 16 = .ok (.aaload, 1) := by decide +kernel
theorem dX9_rowsOfKind_17 : decode cX9_rowsOfKind 17 = .ok (.getfield 97, 3) := by decide +kernel
theorem dX9_rowsOfKind_20 : decode cX9_rowsOfKind 20 = .ok (.iload_n 1, 1) := by decide +kernel
theorem dX9_rowsOfKind_21 : decode cX9_rowsOfKind 21 = .ok (.if_icmp .ne 17, 3) := by decide +kernel
theorem dX9_rowsOfKind_24 : decode cX9_rowsOfKind 24 = .ok (.aload_n 0, 1) := by decide +kernel
theorem dX9_rowsOfKind_25 : decode cX9_rowsOfKind 25 = .ok (.iload_n 3, 1) := by decide +kernel
theorem dX9_rowsOfKind_26 : decode cX9_rowsOfKind 26 = .ok (.invokevirtual 59, 3) := by decide +kernel
theorem dX9_rowsOfKind_29 : decode cX9_rowsOfKind 29 = .ok (.bipush (-9), 2) := by decide +kernel
theorem dX9_rowsOfKind_31 : decode cX9_rowsOfKind 31 = .ok (.if_icmp .eq 7, 3) := by decide +kernel
theorem dX9_rowsOfKind_34 : decode cX9_rowsOfKind 34 = .ok (.iconst 1, 1) := by decide +kernel
theorem dX9_rowsOfKind_35 : decode cX9_rowsOfKind 35 = .ok (.goto 4, 3) := by decide +kernel
theorem dX9_rowsOfKind_38 : decode cX9_rowsOfKind 38 = .ok (.iconst 0, 1) := by decide +kernel
theorem dX9_rowsOfKind_39 : decode cX9_rowsOfKind 39 = .ok (.iadd, 1) := by decide +kernel
theorem dX9_rowsOfKind_40 : decode cX9_rowsOfKind 40 = .ok (.istore_n 2, 1) := by decide +kernel
theorem dX9_rowsOfKind_41 : decode cX9_rowsOfKind 41 = .ok (.iinc 3 1, 3) := by decide +kernel
theorem dX9_rowsOfKind_44 : decode cX9_rowsOfKind 44 = .ok (.goto (-40), 3) := by decide +kernel
theorem dX9_rowsOfKind_47 : decode cX9_rowsOfKind 47 = .ok (.iload_n 2, 1) := by decide +kernel
theorem dX9_rowsOfKind_48 : decode cX9_rowsOfKind 48 = .ok (.ireturn, 1) := by decide +kernel
theorem dX9_checksum_0 : decode cX9_checksum 0 = .ok (.ldc2_w 132, 3) := by decide +kernel
theorem dX9_checksum_3 : decode cX9_checksum 3 = .ok (.lstore_n 1, 1) := by decide +kernel
theorem dX9_checksum_4 : decode cX9_checksum 4 = .ok (.iconst 0, 1) := by decide +kernel
theorem dX9_checksum_5 : decode cX9_checksum 5 = .ok (.istore_n 3, 1) := by decide +kernel
theorem dX9_checksum_6 : decode cX9_checksum 6 = .ok (.iload_n 3, 1) := by decide +kernel
theorem dX9_checksum_7 : decode cX9_checksum 7 = .ok (.iconst 4, 1) := by decide +kernel
theorem dX9_checksum_8 : decode cX9_checksum 8 = .ok (.if_icmp .ge 84, 3) := by decide +kernel
theorem dX9_checksum_11 : decode cX9_checksum 11 = .ok (.ldc2_w 134, 3) := by decide +kernel
theorem dX9_checksum_14 : decode cX9_checksum 14 = .ok (.lload_n 1, 1) := by decide +kernel
theorem dX9_checksum_15 : decode cX9_checksum 15 = .ok (.lmul, 1) := by decide +kernel
theorem dX9_checksum_16 : decode cX9_checksum 16 = .ok (.aload_n 0, 1) := by decide +kernel
theorem dX9_checksum_17 : decode cX9_checksum 17 = .ok (.getfield 9, 3) := by decide +kernel
theorem dX9_checksum_20 : decode cX9_checksum 20 = .ok (.iload_n 3, 1) := by decide +kernel
theorem dX9_checksum_21 : decode cX9_checksum 21 = .ok (.iaload, 1) := by decide +kernel
theorem dX9_checksum_22 : decode cX9_checksum 22 = .ok (.i2l, 1) := by decide +kernel
theorem dX9_checksum_23 : decode cX9_checksum 23 = .ok (.ladd, 1) := by decide +kernel
theorem dX9_checksum_24 : decode cX9_checksum 24 = .ok (.lstore_n 1, 1) := by decide +kernel
theorem dX9_checksum_25 : decode cX9_checksum 25 = .ok (.iconst 0, 1) := by decide +kernel
theorem dX9_checksum_26 : decode cX9_checksum 26 = .ok (.istore 4, 2) := by decide +kernel
theorem dX9_checksum_28 : decode cX9_checksum 28 = .ok (.iload 4, 2) := by decide +kernel
theorem dX9_checksum_30 : decode cX9_checksum 30 = .ok (.aload_n 0, 1) := by decide +kernel
theorem dX9_checksum_31 : decode cX9_checksum 31 = .ok (.getfield 9, 3) := by decide +kernel
theorem dX9_checksum_34 : decode cX9_checksum 34 = .ok (.iload_n 3, 1) := by decide +kernel
theorem dX9_checksum_35 : decode cX9_checksum 35 = .ok (.iaload, 1) := by decide +kernel
theorem dX9_checksum_36 : decode cX9_checksum 36 = .ok (.if_icmp .ge 50, 3) := by decide +kernel
theorem dX9_checksum_39 : decode cX9_checksum 39 = .ok (.ldc2_w 134, 3) := by decide +kernel
theorem dX9_checksum_42 : decode cX9_checksum 42 = .ok (.lload_n 1, 1) := by decide +kernel
theorem dX9_checksum_43 : decode cX9_checksum 43 = .ok (.lmul, 1) := by decide +kernel
theorem dX9_checksum_44 : decode cX9_checksum 44 = .ok (.aload_n 0, 1) := by decide +kernel
theorem dX9_checksum_45 : decode cX9_checksum 45 = .ok (.iload_n 3, 1) := by decide +kernel
theorem dX9_checksum_46 : decode cX9_checksum 46 = .ok (.iload 4, 2) := by decide +kernel
theorem dX9_checksum_48 : decode cX9_checksum 48 = .ok (.invokevirtual 91, 3) := by decide +kernel
theorem dX9_checksum_51 : decode cX9_checksum 51 = .ok (.i2l, 1) := by decide +kernel
theorem dX9_checksum_52 : decode cX9_checksum 52 = .ok (.ladd, 1) := by decide +kernel
theorem dX9_checksum_53 : decode cX9_checksum 53 = .ok (.lstore_n 1, 1) := by decide +kernel
theorem dX9_checksum_54 : decode cX9_checksum 54 = .ok (.aload_n 0, 1) := by decide +kernel
theorem dX9_checksum_55 : decode cX9_checksum 55 = .ok (.iload_n 3, 1) := by decide +kernel
theorem dX9_checksum_56 : decode cX9_checksum 56 = .ok (.iload 4, 2) := by decide +kernel
theorem dX9_checksum_58 : decode cX9_checksum 58 = .ok (.invokevirtual 94, 3) := by decide +kernel
theorem dX9_checksum_61 : decode cX9_checksum 61 = .ok (.astore 5, 2) := by decide +kernel
theorem dX9_checksum_63 : decode cX9_checksum 63 = .ok (.aload 5, 2) := by decide +kernel
theorem dX9_checksum_65 : decode cX9_checksum 65 = .ok (.ifnonnull 7, 3) := by decide +kernel
theorem dX9_checksum_68 : decode cX9_checksum 68 = .ok (.lload_n 1, 1) := by decide +kernel
theorem dX9_checksum_69 : decode cX9_checksum 69 = .ok (.goto 10, 3) := by decide +kernel
theorem dX9_checksum_72 : decode cX9_checksum 72 = .ok (.aload_n 0, 1) := by decide +kernel
theorem dX9_checksum_73 : decode cX9_checksum 73 = .ok (.lload_n 1, 1) := by decide +kernel
theorem dX9_checksum_74 : decode cX9_checksum 74 = .ok (.aload 5, 2) := by decide +kernel
theorem dX9_checksum_76 : decode cX9_checksum 76 = .ok (.invokevirtual 136, 3) := by decide +kernel
theorem dX9_checksum_79 : decode cX9_checksum 79 = .ok (.lstore_n 1, 1) := by decide +kernel
theorem dX9_checksum_80 : decode cX9_checksum 80 = .ok (.iinc 4 1, 3) := by decide +kernel
theorem dX9_checksum_83 : decode cX9_checksum 83 = .ok (.goto (-55), 3) := by decide +kernel
theorem dX9_checksum_86 : decode cX9_checksum 86 = .ok (.iinc 3 1, 3) := by decide +kernel
theorem dX9_checksum_89 : decode cX9_checksum 89 = .ok (.goto (-83), 3) := by decide +kernel
theorem dX9_checksum_92 : decode cX9_checksum 92 = .ok (.lload_n 1, 1) := by decide +kernel
theorem dX9_checksum_93 : decode cX9_checksum 93 = .ok (.lreturn, 1) := by decide +kernel
theorem dX9_checksumOfRow_0 : decode cX9_checksumOfRow 0 = .ok (.aload_n 0, 1) := by decide +kernel
theorem dX9_checksumOfRow_1 : decode cX9_checksumOfRow 1 = .ok (.aload_n 3, 1) := by decide +kernel
theorem dX9_checksumOfRow_2 : decode cX9_checksumOfRow 2 = .ok (.getfield 66, 3) := by decide +kernel
theorem dX9_checksumOfRow_5 : decode cX9_checksumOfRow 5 = .ok (.invokevirtual 59, 3) := by decide +kernel
theorem dX9_checksumOfRow_8 : decode cX9_checksumOfRow 8 = .ok (.istore 4, 2) := by decide +kernel
theorem dX9_checksumOfRow_10 : decode cX9_checksumOfRow 10 = .ok (.ldc2_w 134, 3) := by decide +kernel
theorem dX9_checksumOfRow_13 : decode cX9_checksumOfRow 13 = .ok (.lload_n 1, 1) := by decide +kernel
theorem dX9_checksumOfRow_14 : decode cX9_checksumOfRow 14 = .ok (.lmul, 1) := by decide +kernel
theorem dX9_checksumOfRow_15 : decode cX9_checksumOfRow 15 = .ok (.bipush 10, 2) := by decide +kernel
theorem dX9_checksumOfRow_17 : decode cX9_checksumOfRow 17 = .ok (.iload 4, 2) := by decide +kernel
theorem dX9_checksumOfRow_19 : decode cX9_checksumOfRow 19 = .ok (.bipush 6, 2) := by decide +kernel
theorem dX9_checksumOfRow_21 : decode cX9_checksumOfRow 21 = .ok (.idiv, 1) := by decide +kernel
theorem dX9_checksumOfRow_22 : decode cX9_checksumOfRow 22 = .ok (.imul, 1) := by decide +kernel
theorem dX9_checksumOfRow_23 : decode cX9_checksumOfRow 23 = .ok (.i2l, 1) := by decide +kernel
theorem dX9_checksumOfRow_24 : decode cX9_checksumOfRow 24 = .ok (.ladd, 1) := by decide +kernel
theorem dX9_checksumOfRow_25 : decode cX9_checksumOfRow 25 = .ok (.iload 4, 2) := by decide +kernel
theorem dX9_checksumOfRow_27 : decode cX9_checksumOfRow 27 = .ok (.bipush 6, 2) := by decide +kernel
theorem dX9_checksumOfRow_29 : decode cX9_checksumOfRow 29 = .ok (.irem, 1) := by decide +kernel
theorem dX9_checksumOfRow_30 : decode cX9_checksumOfRow 30 = .ok (.i2l, 1) := by decide +kernel
theorem dX9_checksumOfRow_31 : decode cX9_checksumOfRow 31 = .ok (.ladd, 1) := by decide +kernel
theorem dX9_checksumOfRow_32 : decode cX9_checksumOfRow 32 = .ok (.lstore 5, 2) := by decide +kernel
theorem dX9_checksumOfRow_34 : decode cX9_checksumOfRow 34 = .ok (.ldc2_w 134, 3) := by decide +kernel
theorem dX9_checksumOfRow_37 : decode cX9_checksumOfRow 37 = .ok (.lload 5, 2) := by decide +kernel
theorem dX9_checksumOfRow_39 : decode cX9_checksumOfRow 39 = .ok (.lmul, 1) := by decide +kernel
theorem dX9_checksumOfRow_40 : decode cX9_checksumOfRow 40 = .ok (.aload_n 3, 1) := by decide +kernel
theorem dX9_checksumOfRow_41 : decode cX9_checksumOfRow 41 = .ok (.getfield 103, 3) := by decide +kernel
theorem dX9_checksumOfRow_44 : decode cX9_checksumOfRow 44 = .ok (.i2l, 1) := by decide +kernel
theorem dX9_checksumOfRow_45 : decode cX9_checksumOfRow 45 = .ok (.ladd, 1) := by decide +kernel
theorem dX9_checksumOfRow_46 : decode cX9_checksumOfRow 46 = .ok (.lstore 5, 2) := by decide +kernel
theorem dX9_checksumOfRow_48 : decode cX9_checksumOfRow 48 = .ok (.iconst 0, 1) := by decide +kernel
theorem dX9_checksumOfRow_49 : decode cX9_checksumOfRow 49 = .ok (.istore 7, 2) := by decide +kernel
theorem dX9_checksumOfRow_51 : decode cX9_checksumOfRow 51 = .ok (.iload 7, 2) := by decide +kernel
theorem dX9_checksumOfRow_53 : decode cX9_checksumOfRow 53 = .ok (.aload_n 3, 1) := by decide +kernel
theorem dX9_checksumOfRow_54 : decode cX9_checksumOfRow 54 = .ok (.getfield 103, 3) := by decide +kernel
theorem dX9_checksumOfRow_57 : decode cX9_checksumOfRow 57 = .ok (.if_icmp .ge 41, 3) := by decide +kernel
theorem dX9_checksumOfRow_60 : decode cX9_checksumOfRow 60 = .ok (.ldc2_w 134, 3) := by decide +kernel
theorem dX9_checksumOfRow_63 : decode cX9_checksumOfRow 63 = .ok (.lload 5, 2) := by decide +kernel
theorem dX9_checksumOfRow_65 : decode cX9_checksumOfRow 65 = .ok (.lmul, 1) := by decide +kernel
theorem dX9_checksumOfRow_66 : decode cX9_checksumOfRow 66 = .ok (.aload_n 3, 1) := by decide +kernel
theorem dX9_checksumOfRow_67 : decode cX9_checksumOfRow 67 = .ok (.getfield 129, 3) := by decide +kernel
theorem dX9_checksumOfRow_70 : decode cX9_checksumOfRow 70 = .ok (.iload 7, 2) := by decide +kernel
theorem dX9_checksumOfRow_72 : decode cX9_checksumOfRow 72 = .ok (.iaload, 1) := by decide +kernel
theorem dX9_checksumOfRow_73 : decode cX9_checksumOfRow 73 = .ok (.i2l, 1) := by decide +kernel
theorem dX9_checksumOfRow_74 : decode cX9_checksumOfRow 74 = .ok (.ladd, 1) := by decide +kernel
theorem dX9_checksumOfRow_75 : decode cX9_checksumOfRow 75 = .ok (.lstore 5, 2) := by decide +kernel
theorem dX9_checksumOfRow_77 : decode cX9_checksumOfRow 77 = .ok (.ldc2_w 134, 3) := by decide +kernel
theorem dX9_checksumOfRow_80 : decode cX9_checksumOfRow 80 = .ok (.lload 5, 2) := by decide +kernel
theorem dX9_checksumOfRow_82 : decode cX9_checksumOfRow 82 = .ok (.lmul, 1) := by decide +kernel
theorem dX9_checksumOfRow_83 : decode cX9_checksumOfRow 83 = .ok (.aload_n 3, 1) := by decide +kernel
theorem dX9_checksumOfRow_84 : decode cX9_checksumOfRow 84 = .ok (.iload 7, 2) := by decide +kernel
theorem dX9_checksumOfRow_86 : decode cX9_checksumOfRow 86 = .ok (.invokevirtual 140, 3) := by decide +kernel
theorem dX9_checksumOfRow_89 : decode cX9_checksumOfRow 89 = .ok (.ladd, 1) := by decide +kernel
theorem dX9_checksumOfRow_90 : decode cX9_checksumOfRow 90 = .ok (.lstore 5, 2) := by decide +kernel
theorem dX9_checksumOfRow_92 : decode cX9_checksumOfRow 92 = .ok (.iinc 7 1, 3) := by decide +kernel
theorem dX9_checksumOfRow_95 : decode cX9_checksumOfRow 95 = .ok (.goto (-44), 3) := by decide +kernel
theorem dX9_checksumOfRow_98 : decode cX9_checksumOfRow 98 = .ok (.lload 5, 2) := by decide +kernel
theorem dX9_checksumOfRow_100 : decode cX9_checksumOfRow 100 = .ok (.lreturn, 1) := by decide +kernel
