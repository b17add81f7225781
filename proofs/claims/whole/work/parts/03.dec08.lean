theorem dX6_rotate_91 : decode cX6_rotate 91 = .ok (.iload 5, 2) := by decide +kernel
theorem dX6_rotate_93 : decode cX6_rotate 93 = .ok (.invokestatic 104, 3) := by decide +kernel
theorem dX6_rotate_96 : decode cX6_rotate 96 = .ok (.aload 4, 2) := by decide +kernel
theorem dX6_rotate_98 : decode cX6_rotate 98 = .ok (.getfield 92, 3) := by decide +kernel
theorem dX6_rotate_101 : decode cX6_rotate 101 = .ok (.ireturn, 1) := by decide +kernel
theorem dX6_sortRow_0 : decode cX6_sortRow 0 = .ok (.aload_n 0, 1) := by decide +kernel
theorem dX6_sortRow_1 : decode cX6_sortRow 1 = .ok (.getfield 23, 3) := by decide +kernel
theorem dX6_sortRow_4 : decode cX6_sortRow 4 = .ok (.iload_n 1, 1) := by decide +kernel
theorem dX6_sortRow_5 : decode cX6_sortRow 5 = .ok (.iload_n 2, 1) := by decide +kernel
theorem dX6_sortRow_6 : decode cX6_sortRow 6 = .ok (.invokevirtual 35, 3) := by decide +kernel
theorem dX6_sortRow_9 : decode cX6_sortRow 9 = .ok (.astore_n 3, 1) := by decide +kernel
theorem dX6_sortRow_10 : decode cX6_sortRow 10 = .ok (.aload_n 3, 1) := by decide +kernel
theorem dX6_sortRow_11 : decode cX6_sortRow 11 = .ok (.ifnonnull 13, 3) := by decide +kernel
theorem dX6_sortRow_14 : decode cX6_sortRow 14 = .ok (.aload_n 0, 1) := by decide +kernel
theorem dX6_sortRow_15 : decode cX6_sortRow 15 = .ok (.getfield 23, 3) := by decide +kernel
theorem dX6_sortRow_18 : decode cX6_sortRow 18 = .ok (.iload_n 1, 1) := by decide +kernel
theorem dX6_sortRow_19 : decode cX6_sortRow 19 = .ok (.iload_n 2, 1) := by decide +kernel
theorem dX6_sortRow_20 : decode cX6_sortRow 20 = .ok (.invokevirtual 41, 3) := by decide +kernel
theorem dX6_sortRow_23 : decode cX6_sortRow 23 = .ok (.ireturn, 1) := by decide +kernel
theorem dX6_sortRow_24 : decode cX6_sortRow 24 = .ok (.aload_n 3, 1) := by decide +kernel
theorem dX6_sortRow_25 : decode cX6_sortRow 25 = .ok (.getfield 48, 3) := by decide +kernel
theorem dX6_sortRow_28 : decode cX6_sortRow 28 = .ok (.invokestatic 78, 3) := by decide +kernel
theorem dX6_sortRow_31 : decode cX6_sortRow 31 = .ok (.ifCond .ne 6, 3) := by decide +kernel
theorem dX6_sortRow_34 : decode cX6_sortRow 34 = .ok (.bipush (-7), 2) := by decide +kernel
theorem dX6_sortRow_36 : decode cX6_sortRow 36 = .ok (.ireturn, 1) := by decide +kernel
theorem dX6_sortRow_37 : decode cX6_sortRow 37 = .ok (.aload_n 0, 1) := by decide +kernel
theorem dX6_sortRow_38 : decode cX6_sortRow 38 = .ok (.getfield 20, 3) := by decide +kernel
theorem dX6_sortRow_41 : decode cX6_sortRow 41 = .ok (.aload_n 3, 1) := by decide +kernel
theorem dX6_sortRow_42 : decode cX6_sortRow 42 = .ok (.invokevirtual 122, 3) := by decide +kernel
theorem dX6_sortRow_45 : decode cX6_sortRow 45 = .ok (.iconst 1, 1) := by decide +kernel
theorem dX6_sortRow_46 : decode cX6_sortRow 46 = .ok (.istore 4, 2) := by decide +kernel
theorem dX6_sortRow_48 : decode cX6_sortRow 48 = .ok (.iload 4, 2) := by decide +kernel
theorem dX6_sortRow_50 : decode cX6_sortRow 50 = .ok (.aload_n 3, 1) := by decide +kernel
theorem dX6_sortRow_51 : decode cX6_sortRow 51 = .ok (.getfield 92, 3) := by decide +kernel
theorem dX6_sortRow_54 : decode cX6_sortRow 54 = .ok (.if_icmp .ge 16, 3) := by decide +kernel
theorem dX6_sortRow_57 : decode cX6_sortRow 57 = .ok (.aload_n 0, 1) := by decide +kernel
theorem dX6_sortRow_58 : decode cX6_sortRow 58 = .ok (.aload_n 3, 1) := by decide +kernel
theorem dX6_sortRow_59 : decode cX6_sortRow 59 = .ok (.iload 4, 2) := by decide +kernel
theorem dX6_sortRow_61 : decode cX6_sortRow 61 = .ok (.invokevirtual 131, 3) := by decide +kernel
theorem dX6_sortRow_64 : decode cX6_sortRow 64 = .ok (.iinc 4 1, 3) := by decide +kernel
theorem dX6_sortRow_67 : decode cX6_sortRow 67 = .ok (.goto (-19), 3) := by decide +kernel
theorem dX6_sortRow_70 : decode cX6_sortRow 70 = .ok (.iconst 0, 1) := by decide +kernel
theorem dX6_sortRow_71 : decode cX6_sortRow 71 = .ok (.istore 4, 2) := by decide +kernel
theorem dX6_sortRow_73 : decode cX6_sortRow 73 = .ok (.iconst 0, 1) := by decide +kernel
theorem dX6_sortRow_74 : decode cX6_sortRow 74 = .ok (.istore 5, 2) := by decide +kernel
theorem dX6_sortRow_76 : decode cX6_sortRow 76 = .ok (.iload 5, 2) := by decide +kernel
theorem dX6_sortRow_78 : decode cX6_sortRow 78 = .ok (.aload_n 3, 1) := by decide +kernel
theorem dX6_sortRow_79 : decode cX6_sortRow 79 = .ok (.getfield 92, 3) := by decide +kernel
theorem dX6_sortRow_82 : decode cX6_sortRow 82 = .ok (.if_icmp .ge 34, 3) := by decide +kernel
theorem dX6_sortRow_85 : decode cX6_sortRow 85 = .ok (.iload 4, 2) := by decide +kernel
theorem dX6_sortRow_87 : decode cX6_sortRow 87 = .ok (.aload_n 3, 1) := by decide +kernel
theorem dX6_sortRow_88 : decode cX6_sortRow 88 = .ok (.iload 5, 2) := by decide +kernel
theorem dX6_sortRow_90 : decode cX6_sortRow 90 = .ok (.aload_n 0, 1) := by decide +kernel
theorem dX6_sortRow_91 : decode cX6_sortRow 91 = .ok (.getfield 20, 3) := by decide +kernel
theorem dX6_sortRow_94 : decode cX6_sortRow 94 = .ok (.iload 5, 2) := by decide +kernel
theorem dX6_sortRow_96 : decode cX6_sortRow 96 = .ok (.invokevirtual 95, 3) := by decide +kernel
theorem dX6_sortRow_99 : decode cX6_sortRow 99 = .ok (.ifCond .eq 7, 3) := by decide +kernel
theorem dX6_sortRow_102 : decode cX6_sortRow 102 = .ok (.iconst 0, 1) := by decide +kernel
theorem dX6_sortRow_103 : decode cX6_sortRow 103 = .ok (.goto 4, 3) := by decide +kernel
theorem dX6_sortRow_106 : decode cX6_sortRow 106 = .ok (.iconst 1, 1) := by decide +kernel
theorem dX6_sortRow_107 : decode cX6_sortRow 107 = .ok (.iadd, 1) := by decide +kernel
theorem dX6_sortRow_108 : decode cX6_sortRow 108 = .ok (.istore 4, 2) := by decide +kernel
theorem dX6_sortRow_110 : decode cX6_sortRow 110 = .ok (.iinc 5 1, 3) := by decide +kernel
theorem dX6_sortRow_113 : decode cX6_sortRow 113 = .ok (.goto (-37), 3) := by decide +kernel
theorem dX6_sortRow_116 : decode cX6_sortRow 116 = .ok (.iload 4, 2) := by decide +kernel
theorem dX6_sortRow_118 : decode cX6_sortRow 118 = .ok (.ireturn, 1) := by decide +kernel
theorem dX6_insert_0 : decode cX6_insert 0 = .ok (.aload_n 0, 1) := by decide +kernel
theorem dX6_insert_1 : decode cX6_insert 1 = .ok (.getfield 14, 3) := by decide +kernel
theorem dX6_insert_4 : decode cX6_insert 4 = .ok (.aload_n 1, 1) := by decide +kernel
theorem dX6_insert_5 : decode cX6_insert 5 = .ok (.getfield 48, 3) := by decide +kernel
theorem dX6_insert_8 : decode cX6_insert 8 = .ok (.iconst 1, 1) := by decide +kernel
theorem dX6_insert_9 : decode cX6_insert 9 = .ok (.invokevirtual 56, 3) := by decide +kernel
theorem dX6_insert_12 : decode cX6_insert 12 = .ok (.aload_n 0, 1) := by decide +kernel
theorem dX6_insert_13 : decode cX6_insert 13 = .ok (.getfield 14, 3) := by decide +kernel
theorem dX6_insert_16 : decode cX6_insert 16 = .ok (.iconst 0, 1) := by decide +kernel
theorem dX6_insert_17 : decode cX6_insert 17 = .ok (.aload_n 1, 1) := by decide +kernel
theorem dX6_insert_18 : decode cX6_insert 18 = .ok (.iload_n 2, 1) := by decide +kernel
theorem dX6_insert_19 : decode cX6_insert 19 = .ok (.invokevirtual 60, 3) := by decide +kernel
theorem dX6_insert_22 : decode cX6_insert 22 = .ok (.pop, 1) := by decide +kernel
theorem dX6_insert_23 : decode cX6_insert 23 = .ok (.iload_n 2, 1) := by decide +kernel
theorem dX6_insert_24 : decode cX6_insert 24 = .ok (.istore_n 3, 1) := by decide +kernel
theorem dX6_insert_25 : decode cX6_insert 25 = .ok (.iload_n 3, 1) := by decide +kernel
theorem dX6_insert_26 : decode cX6_insert 26 = .ok (.ifCond .le 34, 3) := by decide +kernel
theorem dX6_insert_29 : decode cX6_insert 29 = .ok (.aload_n 1, 1) := by decide +kernel
theorem dX6_insert_30 : decode cX6_insert 30 = .ok (.iload_n 3, 1) := by decide +kernel
theorem dX6_insert_31 : decode cX6_insert 31 = .ok (.iconst 1, 1) := by decide +kernel
theorem dX6_insert_32 : decode cX6_insert 32 = .ok (.isub, 1) := by decide +kernel
theorem dX6_insert_33 : decode cX6_insert 33 = .ok (.aload_n 0, 1) := by decide +kernel
theorem dX6_insert_34 : decode cX6_insert 34 = .ok (.getfield 14, 3) := by decide +kernel
theorem dX6_insert_37 : decode cX6_insert 37 = .ok (.iconst 0, 1) := by decide +kernel
theorem dX6_insert_38 : decode cX6_insert 38 = .ok (.invokevirtual 135, 3) := by decide +kernel
theorem dX6_insert_41 : decode cX6_insert 41 = .ok (.ifCond .eq 19, 3) := by decide +kernel
theorem dX6_insert_44 : decode cX6_insert 44 = .ok (.aload_n 1, 1) := by decide +kernel
theorem dX6_insert_45 : decode cX6_insert 45 = .ok (.iload_n 3, 1) := by decide +kernel
theorem dX6_insert_46 : decode cX6_insert 46 = .ok (.aload_n 1, 1) := by decide +kernel
theorem dX6_insert_47 : decode cX6_insert 47 = .ok (.iload_n 3, 1) := by decide +kernel
theorem dX6_insert_48 : decode cX6_insert 48 = .ok (.iconst 1, 1) := by decide +kernel
theorem dX6_insert_49 : decode cX6_insert 49 = .ok (.isub, 1) := by decide +kernel
theorem dX6_insert_50 : decode cX6_insert 50 = .ok (.invokevirtual 60, 3) := by decide +kernel
theorem dX6_insert_53 : decode cX6_insert 53 = .ok (.pop, 1) := by decide +kernel
theorem dX6_insert_54 : decode cX6_insert 54 = .ok (.iinc 3 (-1), 3) := by decide +kernel
theorem dX6_insert_57 : decode cX6_insert 57 = .ok (.goto (-32), 3) := by decide +kernel
theorem dX6_insert_60 : decode cX6_insert 60 = .ok (.aload_n 1, 1) := by decide +kernel
theorem dX6_insert_61 : decode cX6_insert 61 = .ok (.iload_n 3, 1) := by decide +kernel
theorem dX6_insert_62 : decode cX6_insert 62 = .ok (.aload_n 0, 1) := by decide +kernel
theorem dX6_insert_63 : decode cX6_insert 63 = .ok (.getfield 14, 3) := by decide +kernel
theorem dX6_insert_66 : decode cX6_insert 66 = .ok (.iconst 0, 1) := by decide +kernel
theorem dX6_insert_67 : decode cX6_insert 67 = .ok (.invokevirtual 60, 3) := by decide +kernel
theorem dX6_insert_70 : decode cX6_insert 70 = .ok (.pop, 1) := by decide +kernel
theorem dX6_insert_71 : decode cX6_insert 71 = .ok (.return_, 1) := by decide +kernel
theorem dX6_increase_0 : decode cX6_increase 0 = .ok (.iload_n 1, 1) := by decide +kernel
theorem dX6_increase_1 : decode cX6_increase 1 = .ok (.invokestatic 31, 3) := by decide +kernel
theorem dX6_increase_4 : decode cX6_increase 4 = .ok (.ifCond .eq 10, 3) := by decide +kernel
theorem dX6_increase_7 : decode cX6_increase 7 = .ok (.iload_n 3, 1) := by decide +kernel
theorem dX6_increase_8 : decode cX6_increase 8 = .ok (.invokestatic 78, 3) := by decide +kernel
theorem dX6_increase_11 : decode cX6_increase 11 = .ok (.ifCond .ne 5, 3) := by decide +kernel
theorem dX6_increase_14 : decode cX6_increase 14 = .ok (.iconst (-1), 1) := by decide +kernel
theorem dX6_increase_15 : decode cX6_increase 15 = .ok (.ireturn, 1) := by decide +kernel
theorem dX6_increase_16 : decode cX6_increase 16 = .ok (.aload_n 0, 1) := by decide +kernel
theorem dX6_increase_17 : decode cX6_increase 17 = .ok (.getfield 23, 3) := by decide +kernel
theorem dX6_increase_20 : decode cX6_increase 20 = .ok (.iload_n 1, 1) := by decide +kernel
theorem dX6_increase_21 : decode cX6_increase 21 = .ok (.iload_n 2, 1) := by decide +kernel
theorem dX6_increase_22 : decode cX6_increase 22 = .ok (.invokevirtual 35, 3) := by decide +kernel
theorem dX6_increase_25 : decode cX6_increase 25 = .ok (.astore 5, 2) := by decide +kernel
theorem dX6_increase_27 : decode cX6_increase 27 = .ok (.aload 5, 2) := by decide +kernel
theorem dX6_increase_29 : decode cX6_increase 29 = .ok (.ifnonnull 13, 3) := by decide +kernel
theorem dX6_increase_32 : decode cX6_increase 32 = .ok (.aload_n 0, 1) := by decide +kernel
theorem dX6_increase_33 : decode cX6_increase 33 = .ok (.getfield 23, 3) := by decide +kernel
theorem dX6_increase_36 : decode cX6_increase 36 = .ok (.iload_n 1, 1) := by decide +kernel
theorem dX6_increase_37 : decode cX6_increase 37 = .ok (.iload_n 2, 1) := by decide +kernel
theorem dX6_increase_38 : decode cX6_increase 38 = .ok (.invokevirtual 41, 3) := by decide +kernel
theorem dX6_increase_41 : decode cX6_increase 41 = .ok (.ireturn, 1) := by decide +kernel
theorem dX6_increase_42 : decode cX6_increase 42 = .ok (.aload 5, 2) := by decide +kernel
theorem dX6_increase_44 : decode cX6_increase 44 = .ok (.getfield 92, 3) := by decide +kernel
theorem dX6_increase_47 : decode cX6_increase 47 = .ok (.ifCond .le 15, 3) := by decide +kernel
theorem dX6_increase_50 : decode cX6_increase 50 = .ok (.aload 5, 2) := by decide +kernel
theorem dX6_increase_52 : decode cX6_increase 52 = .ok (.getfield 48, 3) := by decide +kernel
theorem dX6_increase_55 : decode cX6_increase 55 = .ok (.iload_n 3, 1) := by decide +kernel
theorem dX6_increase_56 : decode cX6_increase 56 = .ok (.if_icmp .eq 6, 3) := by decide +kernel
theorem dX6_increase_59 : decode cX6_increase 59 = .ok (.bipush (-7), 2) := by decide +kernel
theorem dX6_increase_61 : decode cX6_increase 61 = .ok (.ireturn, 1) := by decide +kernel
theorem dX6_increase_62 : decode cX6_increase 62 = .ok (.aload_n 0, 1) := by decide +kernel
theorem dX6_increase_63 : decode cX6_increase 63 = .ok (.getfield 14, 3) := by decide +kernel
theorem dX6_increase_66 : decode cX6_increase 66 = .ok (.iload_n 3, 1) := by decide +kernel
theorem dX6_increase_67 : decode cX6_increase 67 = .ok (.iload 4, 2) := by decide +kernel
theorem dX6_increase_69 : decode cX6_increase 69 = .ok (.i2l, 1) := by decide +kernel
theorem dX6_increase_70 : decode cX6_increase 70 = .ok (.invokevirtual 88, 3) := by decide +kernel
theorem dX6_increase_73 : decode cX6_increase 73 = .ok (.iconst 0, 1) := by decide +kernel
theorem dX6_increase_74 : decode cX6_increase 74 = .ok (.istore 6, 2) := by decide +kernel
theorem dX6_increase_76 : decode cX6_increase 76 = .ok (.iload 6, 2) := by decide +kernel
theorem dX6_increase_78 : decode cX6_increase 78 = .ok (.aload 5, 2) := by decide +kernel
theorem dX6_increase_80 : decode cX6_increase 80 = .ok (.getfield 92, 3) := by decide +kernel
theorem dX6_increase_83 : decode cX6_increase 83 = .ok (.if_icmp .ge 108, 3) := by decide +kernel
theorem dX6_increase_86 : decode cX6_increase 86 = .ok (.iload_n 3, 1) := by decide +kernel
theorem dX6_increase_87 : decode cX6_increase 87 = .ok (.bipush 6, 2) := by decide +kernel
theorem dX6_increase_89 : decode cX6_increase 89 = .ok (.if_icmp .ne 31, 3) := by decide +kernel
theorem dX6_increase_92 : decode cX6_increase 92 = .ok (.aload 5, 2) := by decide +kernel
theorem dX6_increase_94 : decode cX6_increase 94 = .ok (.getfield 138, 3) := by decide +kernel
theorem dX6_increase_97 : decode cX6_increase 97 = .ok (.iload 6, 2) := by decide +kernel
theorem dX6_increase_99 : decode cX6_increase 99 = .ok (.aload 5, 2) := by decide +kernel
theorem dX6_increase_101 : decode cX6_increase 101 = .ok (.iload 6, 2) := by decide +kernel
theorem dX6_increase_103 : decode cX6_increase 103 = .ok (.invokevirtual 142, 3) := by decide +kernel
theorem dX6_increase_106 : decode cX6_increase 106 = .ok (.aload_n 0, 1) := by decide +kernel
theorem dX6_increase_107 : decode cX6_increase 107 = .ok (.getfield 14, 3) := by decide +kernel
theorem dX6_increase_110 : decode cX6_increase 110 = .ok (.iconst 0, 1) := by decide +kernel
theorem dX6_increase_111 : decode cX6_increase 111 = .ok (.invokevirtual 142, 3) := by decide +kernel
theorem dX6_increase_114 : decode cX6_increase 114 = .ok (.fadd, 1) := by decide +kernel
theorem dX6_increase_115 : decode cX6_increase 115 = .ok (.f2d, 1) := by decide +kernel
theorem dX6_increase_116 : decode cX6_increase 116 = .ok (.dastore, 1) := by decide +kernel
theorem dX6_increase_117 : decode cX6_increase 117 = .ok (.goto 68, 3) := by decide +kernel
theorem dX6_increase_120 : decode cX6_increase 120 = .ok (.iload_n 3, 1) := by decide +kernel
theorem dX6_increase_121 : decode cX6_increase 121 = .ok (.bipush 7, 2) := by decide +kernel
theorem dX6_increase_123 : decode cX6_increase 123 = .ok (.if_icmp .ne 32, 3) := by decide +kernel
theorem dX6_increase_126 : decode cX6_increase 126 = .ok (.aload 5, 2) := by decide +kernel
theorem dX6_increase_128 : decode cX6_increase 128 = .ok (.getfield 138, 3) := by decide +kernel
theorem dX6_increase_131 : decode cX6_increase 131 = .ok (.iload 6, 2) := by decide +kernel
theorem dX6_increase_133 : decode cX6_increase 133 = .ok (.aload 5, 2) := by decide +kernel
theorem dX6_increase_135 : decode cX6_increase 135 = .ok (.getfield 138, 3) := by decide +kernel
theorem dX6_increase_138 : decode cX6_increase 138 = .ok (.iload 6, 2) := by decide +kernel
theorem dX6_increase_140 : decode cX6_increase 140 = .ok (.daload, 1) := by decide +kernel
theorem dX6_increase_141 : decode cX6_increase 141 = .ok (.aload_n 0, 1) := by decide +kernel
theorem dX6_increase_142 : decode cX6_increase 142 = .ok (.getfield 14, 3) := by decide +kernel
theorem dX6_increase_145 : decode cX6_increase 145 = .ok (.getfield 138, 3) := by decide +kernel
theorem dX6_increase_148 : decode cX6_increase 148 = .ok (.iconst 0, 1) := by decide +kernel
theorem dX6_increase_149 : decode cX6_increase 149 = .ok (.daload, 1) := by decide +kernel
theorem dX6_increase_150 : decode cX6_increase 150 = .ok (.dadd, 1) := by decide +kernel
theorem dX6_increase_151 : decode cX6_increase 151 = .ok (.dastore, 1) := by decide +kernel
theorem dX6_increase_152 : decode cX6_increase 152 = .ok (.goto 33, 3) := by decide +kernel
theorem dX6_increase_155 : decode cX6_increase 155 = .ok (.aload 5, 2) := by decide +kernel
theorem dX6_increase_157 : decode cX6_increase 157 = .ok (.getfield 146, 3) := by decide +kernel
theorem dX6_increase_160 : decode cX6_increase 160 = .ok (.iload 6, 2) := by decide +kernel
theorem dX6_increase_162 : decode cX6_increase 162 = .ok (.iload_n 3, 1) := by decide +kernel
theorem dX6_increase_163 : decode cX6_increase 163 = .ok (.aload 5, 2) := by decide +kernel
theorem dX6_increase_165 : decode cX6_increase 165 = .ok (.getfield 146, 3) := by decide +kernel
theorem dX6_increase_168 : decode cX6_increase 168 = .ok (.iload 6, 2) := by decide +kernel
theorem dX6_increase_170 : decode cX6_increase 170 = .ok (.laload, 1) := by decide +kernel
theorem dX6_increase_171 : decode cX6_increase 171 = .ok (.aload_n 0, 1) := by decide +kernel
theorem dX6_increase_172 : decode cX6_increase 172 = .ok (.getfield 14, 3) := by decide +kernel
theorem dX6_increase_175 : decode cX6_increase 175 = .ok (.getfield 146, 3) := by decide +kernel
theorem dX6_increase_178 : decode cX6_increase 178 = .ok (.iconst 0, 1) := by decide +kernel
theorem dX6_increase_179 : decode cX6_increase 179 = .ok (.laload, 1) := by decide +kernel
theorem dX6_increase_180 : decode cX6_increase 180 = .ok (.ladd, 1) := by decide +kernel
theorem dX6_increase_181 : decode cX6_increase 181 = .ok (.invokestatic 150, 3) := by decide +kernel
theorem dX6_increase_184 : decode cX6_increase 184 = .ok (.lastore, 1) := by decide +kernel
theorem dX6_increase_185 : decode cX6_increase 185 = .ok (.iinc 6 1, 3) := by decide +kernel
theorem dX6_increase_188 : decode cX6_increase 188 = .ok (.goto (-112), 3) := by decide +kernel
theorem dX6_increase_191 : decode cX6_increase 191 = .ok (.aload 5, 2) := by decide +kernel
theorem dX6_increase_193 : decode cX6_increase 193 = .ok (.getfield 92, 3) := by decide +kernel
theorem dX6_increase_196 : decode cX6_increase 196 = .ok (.ireturn, 1) := by decide +kernel
theorem dX6_markGreater_0 : decode cX6_markGreater 0 = .ok (.iload_n 1, 1) := by decide +kernel
theorem dX6_markGreater_1 : decode cX6_markGreater 1 = .ok (.invokestatic 31, 3) := by decide +kernel
theorem dX6_markGreater_4 : decode cX6_markGreater 4 = .ok (.ifCond .eq 14, 3) := by decide +kernel
theorem dX6_markGreater_7 : decode cX6_markGreater 7 = .ok (.iload_n 3, 1) := by decide +kernel
theorem dX6_markGreater_8 : decode cX6_markGreater 8 = .ok (.iconst 4, 1) := by decide +kernel
theorem dX6_markGreater_9 : decode cX6_markGreater 9 = .ok (.if_icmp .lt 9, 3) := by decide +kernel
theorem dX6_markGreater_12 : decode cX6_markGreater 12 = .ok (.iload_n 3, 1) := by decide +kernel
theorem dX6_markGreater_13 : decode cX6_markGreater 13 = .ok (.bipush 7, 2) := by decide +kernel
theorem dX6_markGreater_15 : decode cX6_markGreater 15 = .ok (.if_icmp .le 5, 3) := by decide +kernel
theorem dX6_markGreater_18 : decode cX6_markGreater 18 = .ok (.iconst (-1), 1) := by decide +kernel
theorem dX6_markGreater_19 : decode cX6_markGreater 19 = .ok (.ireturn, 1) := by decide +kernel
theorem dX6_markGreater_20 : decode cX6_markGreater 20 = .ok (.aload_n 0, 1) := by decide +kernel
theorem dX6_markGreater_21 : decode cX6_markGreater 21 = .ok (.getfield 23, 3) := by decide +kernel
theorem dX6_markGreater_24 : decode cX6_markGreater 24 = .ok (.iload_n 1, 1) := by decide +kernel
theorem dX6_markGreater_25 : decode cX6_markGreater 25 = .ok (.iload_n 2, 1) := by decide +kernel
theorem dX6_markGreater_26 : decode cX6_markGreater 26 = .ok (.invokevirtual 35, 3) := by decide +kernel
theorem dX6_markGreater_29 : decode cX6_markGreater 29 = .ok (.astore 7, 2) := by decide +kernel
theorem dX6_markGreater_31 : decode cX6_markGreater 31 = .ok (.aload 7, 2) := by decide +kernel
theorem dX6_markGreater_33 : decode cX6_markGreater 33 = .ok (.ifnonnull 13, 3) := by decide +kernel
theorem dX6_markGreater_36 : decode cX6_markGreater 36 = .ok (.aload_n 0, 1) := by decide +kernel
theorem dX6_markGreater_37 : decode cX6_markGreater 37 = .ok (.getfield 23, 3) := by decide +kernel
theorem dX6_markGreater_40 : decode cX6_markGreater 40 = .ok (.iload_n 1, 1) := by decide +kernel
theorem dX6_markGreater_41 : decode cX6_markGreater 41 = .ok (.iload_n 2, 1) := by decide +kernel
theorem dX6_markGreater_42 : decode cX6_markGreater 42 = .ok (.invokevirtual 41, 3) := by decide +kernel
theorem dX6_markGreater_45 : decode cX6_markGreater 45 = .ok (.ireturn, 1) := by decide +kernel
theorem dX6_markGreater_46 : decode cX6_markGreater 46 = .ok (.aload 7, 2) := by decide +kernel
theorem dX6_markGreater_48 : decode cX6_markGreater 48 = .ok (.iload_n 3, 1) := by decide +kernel
theorem dX6_markGreater_49 : decode cX6_markGreater 49 = .ok (.invokevirtual 154, 3) := by decide +kernel
theorem dX6_markGreater_52 : decode cX6_markGreater 52 = .ok (.ifCond .ne 6, 3) := by decide +kernel
theorem dX6_markGreater_55 : decode cX6_markGreater 55 = .ok (.bipush (-7), 2) := by decide +kernel
theorem dX6_markGreater_57 : decode cX6_markGreater 57 = .ok (.ireturn, 1) := by decide +kernel
theorem dX6_markGreater_58 : decode cX6_markGreater 58 = .ok (.aload_n 0, 1) := by decide +kernel
theorem dX6_markGreater_59 : decode cX6_markGreater 59 = .ok (.getfield 23, 3) := by decide +kernel
theorem dX6_markGreater_62 : decode cX6_markGreater 62 = .ok (.iload_n 1, 1) := by decide +kernel
theorem dX6_markGreater_63 : decode cX6_markGreater 63 = .ok (.iload 6, 2) := by decide +kernel
theorem dX6_markGreater_65 : decode cX6_markGreater 65 = .ok (.invokevirtual 98, 3) := by decide +kernel
theorem dX6_markGreater_68 : decode cX6_markGreater 68 = .ok (.ifCond .ne 6, 3) := by decide +kernel
theorem dX6_markGreater_71 : decode cX6_markGreater 71 = .ok (.bipush (-3), 2) := by decide +kernel
theorem dX6_markGreater_73 : decode cX6_markGreater 73 = .ok (.ireturn, 1) := by decide +kernel
theorem dX6_markGreater_74 : decode cX6_markGreater 74 = .ok (.aload_n 0, 1) := by decide +kernel
theorem dX6_markGreater_75 : decode cX6_markGreater 75 = .ok (.getfield 20, 3) := by decide +kernel
theorem dX6_markGreater_78 : decode cX6_markGreater 78 = .ok (.iload_n 3, 1) := by decide +kernel
theorem dX6_markGreater_79 : decode cX6_markGreater 79 = .ok (.aload 7, 2) := by decide +kernel
theorem dX6_markGreater_81 : decode cX6_markGreater 81 = .ok (.getfield 92, 3) := by decide +kernel
theorem dX6_markGreater_84 : decode cX6_markGreater 84 = .ok (.invokevirtual 56, 3) := by decide +kernel
theorem dX6_markGreater_87 : decode cX6_markGreater 87 = .ok (.aload_n 0, 1) := by decide +kernel
theorem dX6_markGreater_88 : decode cX6_markGreater 88 = .ok (.getfield 20, 3) := by decide +kernel
theorem dX6_markGreater_91 : decode cX6_markGreater 91 = .ok (.iconst 0, 1) := by decide +kernel
theorem dX6_markGreater_92 : decode cX6_markGreater 92 = .ok (.aload 7, 2) := by decide +kernel
theorem dX6_markGreater_94 : decode cX6_markGreater 94 = .ok (.iconst 0, 1) := by decide +kernel
theorem dX6_markGreater_95 : decode cX6_markGreater 95 = .ok (.aload 7, 2) := by decide +kernel
theorem dX6_markGreater_97 : decode cX6_markGreater 97 = .ok (.getfield 92, 3) := by decide +kernel
theorem dX6_markGreater_100 : decode cX6_markGreater 100 = .ok (.invokestatic 104, 3) := by decide +kernel
theorem dX6_markGreater_103 : decode cX6_markGreater 103 = .ok (.aload_n 0, 1) := by decide +kernel
theorem dX6_markGreater_104 : decode cX6_markGreater 104 = .ok (.getfield 14, 3) := by decide +kernel
theorem dX6_markGreater_107 : decode cX6_markGreater 107 = .ok (.iload_n 3, 1) := by decide +kernel
theorem dX6_markGreater_108 : decode cX6_markGreater 108 = .ok (.lload 4, 2) := by decide +kernel
theorem dX6_markGreater_110 : decode cX6_markGreater 110 = .ok (.invokevirtual 88, 3) := by decide +kernel
theorem dX6_markGreater_113 : decode cX6_markGreater 113 = .ok (.aload_n 0, 1) := by decide +kernel
theorem dX6_markGreater_114 : decode cX6_markGreater 114 = .ok (.getfield 23, 3) := by decide +kernel
theorem dX6_markGreater_117 : decode cX6_markGreater 117 = .ok (.iconst 0, 1) := by decide +kernel
theorem dX6_markGreater_118 : decode cX6_markGreater 118 = .ok (.aload 7, 2) := by decide +kernel
theorem dX6_markGreater_120 : decode cX6_markGreater 120 = .ok (.getfield 92, 3) := by decide +kernel
theorem dX6_markGreater_123 : decode cX6_markGreater 123 = .ok (.invokevirtual 101, 3) := by decide +kernel
theorem dX6_markGreater_126 : decode cX6_markGreater 126 = .ok (.astore 8, 2) := by decide +kernel
theorem dX6_markGreater_128 : decode cX6_markGreater 128 = .ok (.iconst 0, 1) := by decide +kernel
theorem dX6_markGreater_129 : decode cX6_markGreater 129 = .ok (.istore 9, 2) := by decide +kernel
theorem dX6_markGreater_131 : decode cX6_markGreater 131 = .ok (.iconst 0, 1) := by decide +kernel
theorem dX6_markGreater_132 : decode cX6_markGreater 132 = .ok (.istore 10, 2) := by decide +kernel
theorem dX6_markGreater_134 : decode cX6_markGreater 134 = .ok (.iload 10, 2) := by decide +kernel
theorem dX6_markGreater_136 : decode cX6_markGreater 136 = .ok (.aload_n 0, 1) := by decide +kernel
theorem dX6_markGreater_137 : decode cX6_markGreater 137 = .ok (.getfield 20, 3) := by decide +kernel
theorem dX6_markGreater_140 : decode cX6_markGreater 140 = .ok (.getfield 92, 3) := by decide +kernel
theorem dX6_markGreater_143 : decode cX6_markGreater 143 = .ok (.if_icmp .ge 38, 3) := by decide +kernel
theorem dX6_markGreater_146 : decode cX6_markGreater 146 = .ok (.aload_n 0, 1) := by decide +kernel
theorem dX6_markGreater_147 : decode cX6_markGreater 147 = .ok (.getfield 20, 3) := by decide +kernel
theorem dX6_markGreater_150 : decode cX6_markGreater 150 = .ok (.iload 10, 2) := by decide +kernel
theorem dX6_markGreater_152 : decode cX6_markGreater 152 = .ok (.aload_n 0, 1) := by decide +kernel
theorem dX6_markGreater_153 : decode cX6_markGreater 153 = .ok (.getfield 14, 3) := by decide +kernel
theorem dX6_markGreater_156 : decode cX6_markGreater 156 = .ok (.iconst 0, 1) := by decide +kernel
theorem dX6_markGreater_157 : decode cX6_markGreater 157 = .ok (.invokevirtual 135, 3) := by decide +kernel
theorem dX6_markGreater_160 : decode cX6_markGreater 160 = .ok (.ifCond .eq 15, 3) := by decide +kernel
theorem dX6_markGreater_163 : decode cX6_markGreater 163 = .ok (.aload 8, 2) := by decide +kernel
theorem dX6_markGreater_165 : decode cX6_markGreater 165 = .ok (.getfield 146, 3) := by decide +kernel
theorem dX6_markGreater_168 : decode cX6_markGreater 168 = .ok (.iload 10, 2) := by decide +kernel
theorem dX6_markGreater_170 : decode cX6_markGreater 170 = .ok (.lconst 1, 1) := by decide +kernel
theorem dX6_markGreater_171 : decode cX6_markGreater 171 = .ok (.lastore, 1) := by decide +kernel
theorem dX6_markGreater_172 : decode cX6_markGreater 172 = .ok (.iinc 9 1, 3) := by decide +kernel
theorem dX6_markGreater_175 : decode cX6_markGreater 175 = .ok (.iinc 10 1, 3) := by decide +kernel
theorem dX6_markGreater_178 : decode cX6_markGreater 178 = .ok (.goto (-44), 3) := by decide +kernel
theorem dX6_markGreater_181 : decode cX6_markGreater 181 = .ok (.aload_n 0, 1) := by decide +kernel
theorem dX6_markGreater_182 : decode cX6_markGreater 182 = .ok (.getfield 23, 3) := by decide +kernel
theorem dX6_markGreater_185 : decode cX6_markGreater 185 = .ok (.iload_n 1, 1) := by decide +kernel
theorem dX6_markGreater_186 : decode cX6_markGreater 186 = .ok (.iload 6, 2) := by decide +kernel
theorem dX6_markGreater_188 : decode cX6_markGreater 188 = .ok (.aload 8, 2) := by decide +kernel
theorem dX6_markGreater_190 : decode cX6_markGreater 190 = .ok (.invokevirtual 108, 3) := by decide +kernel
theorem dX6_markGreater_193 : decode cX6_markGreater 193 = .ok (.iload 9, 2) := by decide +kernel
theorem dX6_markGreater_195 : decode cX6_markGreater 195 = .ok (.ireturn, 1) := by decide +kernel
theorem dX6_pickTrue_0 : decode cX6_pickTrue 0 = .ok (.aload_n 0, 1) := by decide +kernel
theorem dX6_pickTrue_1 : decode cX6_pickTrue 1 = .ok (.getfield 23, 3) := by decide +kernel
theorem dX6_pickTrue_4 : decode cX6_pickTrue 4 = .ok (.iload_n 1, 1) := by decide +kernel
theorem dX6_pickTrue_5 : decode cX6_pickTrue 5 = .ok (.iload_n 2, 1) := by decide +kernel
theorem dX6_pickTrue_6 : decode cX6_pickTrue 6 = .ok (.invokevirtual 35, 3) := by decide +kernel
theorem dX6_pickTrue_9 : decode cX6_pickTrue 9 = .ok (.astore 4, 2) := by decide +kernel
theorem dX6_pickTrue_11 : decode cX6_pickTrue 11 = .ok (.aload 4, 2) := by decide +kernel
theorem dX6_pickTrue_13 : decode cX6_pickTrue 13 = .ok (.ifnonnull 13, 3) := by decide +kernel
theorem dX6_pickTrue_16 : decode cX6_pickTrue 16 = .ok (.aload_n 0, 1) := by decide +kernel
theorem dX6_pickTrue_17 : decode cX6_pickTrue 17 = .ok (.getfield 23, 3) := by decide +kernel
theorem dX6_pickTrue_20 : decode cX6_pickTrue 20 = .ok (.iload_n 1, 1) := by decide +kernel
theorem dX6_pickTrue_21 : decode cX6_pickTrue 21 = .ok (.iload_n 2, 1) := by decide +kernel
theorem dX6_pickTrue_22 : decode cX6_pickTrue 22 = .ok (.invokevirtual 41, 3) := by decide +kernel
theorem dX6_pickTrue_25 : decode cX6_pickTrue 25 = .ok (.ireturn, 1) := by decide +kernel
theorem dX6_pickTrue_26 : decode cX6_pickTrue 26 = .ok (.aload_n 0, 1) := by decide +kernel
theorem dX6_pickTrue_27 : decode cX6_pickTrue 27 = .ok (.getfield 23, 3) := by decide +kernel
theorem dX6_pickTrue_30 : decode cX6_pickTrue 30 = .ok (.iload_n 1, 1) := by decide +kernel
theorem dX6_pickTrue_31 : decode cX6_pickTrue 31 = .ok (.iload_n 3, 1) := by decide +kernel
theorem dX6_pickTrue_32 : decode cX6_pickTrue 32 = .ok (.invokevirtual 35, 3) := by decide +kernel
theorem dX6_pickTrue_35 : decode cX6_pickTrue 35 = .ok (.astore 5, 2) := by decide +kernel
theorem dX6_pickTrue_37 : decode cX6_pickTrue 37 = .ok (.aload 5, 2) := by decide +kernel
theorem dX6_pickTrue_39 : decode cX6_pickTrue 39 = .ok (.ifnonnull 13, 3) := by decide +kernel
theorem dX6_pickTrue_42 : decode cX6_pickTrue 42 = .ok (.aload_n 0, 1) := by decide +kernel
theorem dX6_pickTrue_43 : decode cX6_pickTrue 43 = .ok (.getfield 23, 3) := by decide +kernel
theorem dX6_pickTrue_46 : decode cX6_pickTrue 46 = .ok (.iload_n 1, 1) := by decide +kernel
theorem dX6_pickTrue_47 : decode cX6_pickTrue 47 = .ok (.iload_n 3, 1) := by decide +kernel
theorem dX6_pickTrue_48 : decode cX6_pickTrue 48 = .ok (.invokevirtual 41, 3) := by decide +kernel
theorem dX6_pickTrue_51 : decode cX6_pickTrue 51 = .ok (.ireturn, 1) := by decide +kernel
theorem dX6_pickTrue_52 : decode cX6_pickTrue 52 = .ok (.iconst 0, 1) := by decide +kernel
theorem dX6_pickTrue_53 : decode cX6_pickTrue 53 = .ok (.istore 6, 2) := by decide +kernel
theorem dX6_pickTrue_55 : decode cX6_pickTrue 55 = .ok (.iconst 0, 1) := by decide +kernel
theorem dX6_pickTrue_56 : decode cX6_pickTrue 56 = .ok (.istore 7, 2) := by decide +kernel
theorem dX6_pickTrue_58 : decode cX6_pickTrue 58 = .ok (.iload 7, 2) := by decide +kernel
theorem dX6_pickTrue_60 : decode cX6_pickTrue 60 = .ok (.aload 4, 2) := by decide +kernel
theorem dX6_pickTrue_62 : decode cX6_pickTrue 62 = .ok (.getfield 92, 3) := by decide +kernel
theorem dX6_pickTrue_65 : decode cX6_pickTrue 65 = .ok (.if_icmp .ge 60, 3) := by decide +kernel
theorem dX6_pickTrue_68 : decode cX6_pickTrue 68 = .ok (.aload 5, 2) := by decide +kernel
theorem dX6_pickTrue_70 : decode cX6_pickTrue 70 = .ok (.iload 7, 2) := by decide +kernel
theorem dX6_pickTrue_72 : decode cX6_pickTrue 72 = .ok (.invokevirtual 45, 3) := by decide +kernel
theorem dX6_pickTrue_75 : decode cX6_pickTrue 75 = .ok (.ifCond .ne 6, 3) := by decide +kernel
theorem dX6_pickTrue_78 : decode cX6_pickTrue 78 = .ok (.bipush (-6), 2) := by decide +kernel
theorem dX6_pickTrue_80 : decode cX6_pickTrue 80 = .ok (.ireturn, 1) := by decide +kernel
theorem dX6_pickTrue_81 : decode cX6_pickTrue 81 = .ok (.aload 5, 2) := by decide +kernel
theorem dX6_pickTrue_83 : decode cX6_pickTrue 83 = .ok (.getfield 48, 3) := by decide +kernel
theorem dX6_pickTrue_86 : decode cX6_pickTrue 86 = .ok (.iconst 0, 1) := by decide +kernel
theorem dX6_pickTrue_87 : decode cX6_pickTrue 87 = .ok (.invokestatic 52, 3) := by decide +kernel
theorem dX6_pickTrue_90 : decode cX6_pickTrue 90 = .ok (.ifCond .ne 6, 3) := by decide +kernel
theorem dX6_pickTrue_93 : decode cX6_pickTrue 93 = .ok (.bipush (-7), 2) := by decide +kernel
theorem dX6_pickTrue_95 : decode cX6_pickTrue 95 = .ok (.ireturn, 1) := by decide +kernel
theorem dX6_pickTrue_96 : decode cX6_pickTrue 96 = .ok (.iload 6, 2) := by decide +kernel
theorem dX6_pickTrue_98 : decode cX6_pickTrue 98 = .ok (.aload 5, 2) := by decide +kernel
theorem dX6_pickTrue_100 : decode cX6_pickTrue 100 = .ok (.getfield 146, 3) := by decide +kernel
theorem dX6_pickTrue_103 : decode cX6_pickTrue 103 = .ok (.iload 7, 2) := by decide +kernel
theorem dX6_pickTrue_105 : decode cX6_pickTrue 105 = .ok (.laload, 1) := by decide +kernel
theorem dX6_pickTrue_106 : decode cX6_pickTrue 106 = .ok (.lconst 1, 1) := by decide +kernel
theorem dX6_pickTrue_107 : decode cX6_pickTrue 107 = .ok (.lcmp, 1) := by decide +kernel
theorem dX6_pickTrue_108 : decode cX6_pickTrue 108 = .ok (.ifCond .ne 7, 3) := by decide +kernel
theorem dX6_pickTrue_111 : decode cX6_pickTrue 111 = .ok (.iconst 1, 1) := by decide +kernel
theorem dX6_pickTrue_112 : decode cX6_pickTrue 112 = .ok (.goto 4, 3) := by decide +kernel
theorem dX6_pickTrue_115 : decode cX6_pickTrue 115 = .ok (.iconst 0, 1) := by decide +kernel
theorem dX6_pickTrue_116 : decode cX6_pickTrue 116 = .ok (.iadd, 1) := by decide +kernel
theorem dX6_pickTrue_117 : decode cX6_pickTrue 117 = .ok (.istore 6, 2) := by decide +kernel
theorem dX6_pickTrue_119 : decode cX6_pickTrue 119 = .ok (.iinc 7 1, 3) := by decide +kernel
theorem dX6_pickTrue_122 : decode cX6_pickTrue 122 = .ok (.goto (-64), 3) := by decide +kernel
theorem dX6_pickTrue_125 : decode cX6_pickTrue 125 = .ok (.aload_n 0, 1) := by decide +kernel
theorem dX6_pickTrue_126 : decode cX6_pickTrue 126 = .ok (.getfield 23, 3) := by decide +kernel
theorem dX6_pickTrue_129 : decode cX6_pickTrue 129 = .ok (.aload 4, 2) := by decide +kernel
theorem dX6_pickTrue_131 : decode cX6_pickTrue 131 = .ok (.getfield 48, 3) := by decide +kernel
theorem dX6_pickTrue_134 : decode cX6_pickTrue 134 = .ok (.iload 6, 2) := by decide +kernel
theorem dX6_pickTrue_136 : decode cX6_pickTrue 136 = .ok (.invokevirtual 101, 3) := by decide +kernel
theorem dX6_pickTrue_139 : decode cX6_pickTrue 139 = .ok (.astore 7, 2) := by decide +kernel
theorem dX6_pickTrue_141 : decode cX6_pickTrue 141 = .ok (.iconst 0, 1) := by decide +kernel
theorem dX6_pickTrue_142 : decode cX6_pickTrue 142 = .ok (.istore 8, 2) := by decide +kernel
theorem dX6_pickTrue_144 : decode cX6_pickTrue 144 = .ok (.iconst 0, 1) := by decide +kernel
theorem dX6_pickTrue_145 : decode cX6_pickTrue 145 = .ok (.istore 9, 2) := by decide +kernel
theorem dX6_pickTrue_147 : decode cX6_pickTrue 147 = .ok (.iload 9, 2) := by decide +kernel
theorem dX6_pickTrue_149 : decode cX6_pickTrue 149 = .ok (.aload 4, 2) := by decide +kernel
theorem dX6_pickTrue_151 : decode cX6_pickTrue 151 = .ok (.getfield 92, 3) := by decide +kernel
theorem dX6_pickTrue_154 : decode cX6_pickTrue 154 = .ok (.if_icmp .ge 44, 3) := by decide +kernel
theorem dX6_pickTrue_157 : decode cX6_pickTrue 157 = .ok (.iload 8, 2) := by decide +kernel
theorem dX6_pickTrue_159 : decode cX6_pickTrue 159 = .ok (.iload 6, 2) := by decide +kernel
theorem dX6_pickTrue_161 : decode cX6_pickTrue 161 = .ok (.if_icmp .ge 37, 3) := by decide +kernel
theorem dX6_pickTrue_164 : decode cX6_pickTrue 164 = .ok (.aload 5, 2) := by decide +kernel
theorem dX6_pickTrue_166 : decode cX6_pickTrue 166 = .ok (.getfield 146, 3) := by decide +kernel
theorem dX6_pickTrue_169 : decode cX6_pickTrue 169 = .ok (.iload 9, 2) := by decide +kernel
theorem dX6_pickTrue_171 : decode cX6_pickTrue 171 = .ok (.laload, 1) := by decide +kernel
theorem dX6_pickTrue_172 : decode cX6_pickTrue 172 = .ok (.lconst 1, 1) := by decide +kernel
theorem dX6_pickTrue_173 : decode cX6_pickTrue 173 = .ok (.lcmp, 1) := by decide +kernel
theorem dX6_pickTrue_174 : decode cX6_pickTrue 174 = .ok (.ifCond .ne 18, 3) := by decide +kernel
theorem dX6_pickTrue_177 : decode cX6_pickTrue 177 = .ok (.aload 7, 2) := by decide +kernel
theorem dX6_pickTrue_179 : decode cX6_pickTrue 179 = .ok (.iload 8, 2) := by decide +kernel
theorem dX6_pickTrue_181 : decode cX6_pickTrue 181 = .ok (.aload 4, 2) := by decide +kernel
theorem dX6_pickTrue_183 : decode cX6_pickTrue 183 = .ok (.iload 9, 2) := by decide +kernel
theorem dX6_pickTrue_185 : decode cX6_pickTrue 185 = .ok (.invokevirtual 60, 3) := by decide +kernel
theorem dX6_pickTrue_188 : decode cX6_pickTrue 188 = .ok (.pop, 1) := by decide +kernel
theorem dX6_pickTrue_189 : decode cX6_pickTrue 189 = .ok (.iinc 8 1, 3) := by decide +kernel
theorem dX6_pickTrue_192 : decode cX6_pickTrue 192 = .ok (.iinc 9 1, 3) := by decide +kernel
theorem dX6_pickTrue_195 : decode cX6_pickTrue 195 = .ok (.goto (-48), 3) := by decide +kernel
theorem dX6_pickTrue_198 : decode cX6_pickTrue 198 = .ok (.aload_n 0, 1) := by decide +kernel
theorem dX6_pickTrue_199 : decode cX6_pickTrue 199 = .ok (.getfield 23, 3) := by decide +kernel
theorem dX6_pickTrue_202 : decode cX6_pickTrue 202 = .ok (.iload_n 1, 1) := by decide +kernel
theorem dX6_pickTrue_203 : decode cX6_pickTrue 203 = .ok (.iload_n 2, 1) := by decide +kernel
theorem dX6_pickTrue_204 : decode cX6_pickTrue 204 = .ok (.aload 7, 2) := by decide +kernel
theorem dX6_pickTrue_206 : decode cX6_pickTrue 206 = .ok (.invokevirtual 108, 3) := by decide +kernel
theorem dX6_pickTrue_209 : decode cX6_pickTrue 209 = .ok (.iload 6, 2) := by decide +kernel
theorem dX6_pickTrue_211 : decode cX6_pickTrue 211 = .ok (.ireturn, 1) := by decide +kernel
theorem dX7_init_0 : decode cX7_init 0 = .ok (.aload_n 0, 1) := by decide +kernel
theorem dX7_init_1 : decode cX7_init 1 = .ok (.invokespecial 3, 3) := by decide +kernel
theorem dX7_init_4 : decode cX7_init 4 = .ok (.aload_n 0, 1) := by decide +kernel
theorem dX7_init_5 : decode cX7_init 5 = .ok (.bipush 12, 2) := by decide +kernel
theorem dX7_init_7 : decode cX7_init 7 = .ok (.newarray .long, 2) := by decide +kernel
theorem dX7_init_9 : decode cX7_init 9 = .ok (.putfield 9, 3) := by decide +kernel
theorem dX7_init_12 : decode cX7_init 12 = .ok (.aload_n 0, 1) := by decide +kernel
theorem dX7_init_13 : decode cX7_init 13 = .ok (.bipush 12, 2) := by decide +kernel
theorem dX7_init_15 : decode cX7_init 15 = .ok (.newarray .long, 2) := by decide +kernel
theorem dX7_init_17 : decode cX7_init 17 = .ok (.putfield 15, 3) := by decide +kernel
theorem dX7_init_20 : decode cX7_init 20 = .ok (.aload_n 0, 1) := by decide +kernel
theorem dX7_init_21 : decode cX7_init 21 = .ok (.bipush 12, 2) := by decide +kernel
theorem dX7_init_23 : decode cX7_init 23 = .ok (.newarray .long, 2) := by decide +kernel
theorem dX7_init_25 : decode cX7_init 25 = .ok (.putfield 18, 3) := by decide +kernel
theorem dX7_init_28 : decode cX7_init 28 = .ok (.aload_n 0, 1) := by decide +kernel
theorem dX7_init_29 : decode cX7_init 29 = .ok (.aload_n 1, 1) := by decide +kernel
theorem dX7_init_30 : decode cX7_init 30 = .ok (.putfield 21, 3) := by decide +kernel
theorem dX7_init_33 : decode cX7_init 33 = .ok (.aload_n 0, 1) := by decide +kernel
theorem dX7_init_34 : decode cX7_init 34 = .ok (.aload_n 2, 1) := by decide +kernel
theorem dX7_init_35 : decode cX7_init 35 = .ok (.putfield 25, 3) := by decide +kernel
theorem dX7_init_38 : decode cX7_init 38 = .ok (.return_, 1) := by decide +kernel
theorem dX7_bestTrail_0 : decode cX7_bestTrail 0 = .ok (.aload_n 0, 1) := by decide +kernel
theorem dX7_bestTrail_1 : decode cX7_bestTrail 1 = .ok (.getfield 21, 3) := by decide +kernel
theorem dX7_bestTrail_4 : decode cX7_bestTrail 4 = .ok (.iload_n 1, 1) := by decide +kernel
theorem dX7_bestTrail_5 : decode cX7_bestTrail 5 = .ok (.invokevirtual 29, 3) := by decide +kernel
theorem dX7_bestTrail_8 : decode cX7_bestTrail 8 = .ok (.istore_n 2, 1) := by decide +kernel
theorem dX7_bestTrail_9 : decode cX7_bestTrail 9 = .ok (.iload_n 2, 1) := by decide +kernel
theorem dX7_bestTrail_10 : decode cX7_bestTrail 10 = .ok (.ifCond .ge 5, 3) := by decide +kernel
theorem dX7_bestTrail_13 : decode cX7_bestTrail 13 = .ok (.iload_n 2, 1) := by decide +kernel
theorem dX7_bestTrail_14 : decode cX7_bestTrail 14 = .ok (.ireturn, 1) := by decide +kernel
theorem dX7_bestTrail_15 : decode cX7_bestTrail 15 = .ok (.aload_n 0, 1) := by decide +kernel
theorem dX7_bestTrail_16 : decode cX7_bestTrail 16 = .ok (.getfield 21, 3) := by decide +kernel
theorem dX7_bestTrail_19 : decode cX7_bestTrail 19 = .ok (.iload_n 1, 1) := by decide +kernel
theorem dX7_bestTrail_20 : decode cX7_bestTrail 20 = .ok (.iconst 4, 1) := by decide +kernel
theorem dX7_bestTrail_21 : decode cX7_bestTrail 21 = .ok (.invokevirtual 35, 3) := by decide +kernel
theorem dX7_bestTrail_24 : decode cX7_bestTrail 24 = .ok (.bipush (-9), 2) := by decide +kernel
theorem dX7_bestTrail_26 : decode cX7_bestTrail 26 = .ok (.if_icmp .eq 6, 3) := by decide +kernel
theorem dX7_bestTrail_29 : decode cX7_bestTrail 29 = .ok (.bipush (-7), 2) := by decide +kernel
theorem dX7_bestTrail_31 : decode cX7_bestTrail 31 = .ok (.ireturn, 1) := by decide +kernel
theorem dX7_bestTrail_32 : decode cX7_bestTrail 32 = .ok (.aload_n 0, 1) := by decide +kernel
theorem dX7_bestTrail_33 : decode cX7_bestTrail 33 = .ok (.iload_n 1, 1) := by decide +kernel
theorem dX7_bestTrail_34 : decode cX7_bestTrail 34 = .ok (.invokevirtual 39, 3) := by decide +kernel
theorem dX7_bestTrail_37 : decode cX7_bestTrail 37 = .ok (.ifCond .eq 6, 3) := by decide +kernel
theorem dX7_bestTrail_40 : decode cX7_bestTrail 40 = .ok (.bipush (-9), 2) := by decide +kernel
theorem dX7_bestTrail_42 : decode cX7_bestTrail 42 = .ok (.ireturn, 1) := by decide +kernel
theorem dX7_bestTrail_43 : decode cX7_bestTrail 43 = .ok (.iconst 0, 1) := by decide +kernel
theorem dX7_bestTrail_44 : decode cX7_bestTrail 44 = .ok (.istore_n 3, 1) := by decide +kernel
theorem dX7_bestTrail_45 : decode cX7_bestTrail 45 = .ok (.iconst 0, 1) := by decide +kernel
theorem dX7_bestTrail_46 : decode cX7_bestTrail 46 = .ok (.istore 4, 2) := by decide +kernel
theorem dX7_bestTrail_48 : decode cX7_bestTrail 48 = .ok (.aload_n 0, 1) := by decide +kernel
theorem dX7_bestTrail_49 : decode cX7_bestTrail 49 = .ok (.getfield 21, 3) := by decide +kernel
theorem dX7_bestTrail_52 : decode cX7_bestTrail 52 = .ok (.getfield 43, 3) := by decide +kernel
theorem dX7_bestTrail_55 : decode cX7_bestTrail 55 = .ok (.iload_n 1, 1) := by decide +kernel
theorem dX7_bestTrail_56 : decode cX7_bestTrail 56 = .ok (.iaload, 1) := by decide +kernel
theorem dX7_bestTrail_57 : decode cX7_bestTrail 57 = .ok (.iconst 1, 1) := by decide +kernel
theorem dX7_bestTrail_58 : decode cX7_bestTrail 58 = .ok (.isub, 1) := by decide +kernel
theorem dX7_bestTrail_59 : decode cX7_bestTrail 59 = .ok (.istore 5, 2) := by decide +kernel
theorem dX7_bestTrail_61 : decode cX7_bestTrail 61 = .ok (.iload 5, 2) := by decide +kernel
theorem dX7_bestTrail_63 : decode cX7_bestTrail 63 = .ok (.ifCond .lt 53, 3) := by decide +kernel
theorem dX7_bestTrail_66 : decode cX7_bestTrail 66 = .ok (.aload_n 0, 1) := by decide +kernel
theorem dX7_bestTrail_67 : decode cX7_bestTrail 67 = .ok (.getfield 21, 3) := by decide +kernel
theorem dX7_bestTrail_70 : decode cX7_bestTrail 70 = .ok (.iload_n 1, 1) := by decide +kernel
theorem dX7_bestTrail_71 : decode cX7_bestTrail 71 = .ok (.iload 5, 2) := by decide +kernel
theorem dX7_bestTrail_73 : decode cX7_bestTrail 73 = .ok (.invokevirtual 47, 3) := by decide +kernel
theorem dX7_bestTrail_76 : decode cX7_bestTrail 76 = .ok (.astore 6, 2) := by decide +kernel
theorem dX7_bestTrail_78 : decode cX7_bestTrail 78 = .ok (.aload 6, 2) := by decide +kernel
theorem dX7_bestTrail_80 : decode cX7_bestTrail 80 = .ok (.ifnull 30, 3) := by decide +kernel
theorem dX7_bestTrail_83 : decode cX7_bestTrail 83 = .ok (.aload_n 0, 1) := by decide +kernel
theorem dX7_bestTrail_84 : decode cX7_bestTrail 84 = .ok (.aload 6, 2) := by decide +kernel
theorem dX7_bestTrail_86 : decode cX7_bestTrail 86 = .ok (.iload_n 3, 1) := by decide +kernel
theorem dX7_bestTrail_87 : decode cX7_bestTrail 87 = .ok (.ifCond .le 7, 3) := by decide +kernel
theorem dX7_bestTrail_90 : decode cX7_bestTrail 90 = .ok (.iconst 1, 1) := by decide +kernel
theorem dX7_bestTrail_91 : decode cX7_bestTrail 91 = .ok (.goto 4, 3) := by decide +kernel
theorem dX7_bestTrail_94 : decode cX7_bestTrail 94 = .ok (.iconst 0, 1) := by decide +kernel
theorem dX7_bestTrail_95 : decode cX7_bestTrail 95 = .ok (.iload 4, 2) := by decide +kernel
theorem dX7_bestTrail_97 : decode cX7_bestTrail 97 = .ok (.invokevirtual 51, 3) := by decide +kernel
theorem dX7_bestTrail_100 : decode cX7_bestTrail 100 = .ok (.aload 6, 2) := by decide +kernel
theorem dX7_bestTrail_102 : decode cX7_bestTrail 102 = .ok (.getfield 55, 3) := by decide +kernel
theorem dX7_bestTrail_105 : decode cX7_bestTrail 105 = .ok (.istore 4, 2) := by decide +kernel
theorem dX7_bestTrail_107 : decode cX7_bestTrail 107 = .ok (.iinc 3 1, 3) := by decide +kernel
theorem dX7_bestTrail_110 : decode cX7_bestTrail 110 = .ok (.iinc 5 (-1), 3) := by decide +kernel
theorem dX7_bestTrail_113 : decode cX7_bestTrail 113 = .ok (.goto (-52), 3) := by decide +kernel
theorem dX7_bestTrail_116 : decode cX7_bestTrail 116 = .ok (.aload_n 0, 1) := by decide +kernel
theorem dX7_bestTrail_117 : decode cX7_bestTrail 117 = .ok (.iload 4, 2) := by decide +kernel
theorem dX7_bestTrail_119 : decode cX7_bestTrail 119 = .ok (.invokevirtual 61, 3) := by decide +kernel
theorem dX7_bestTrail_122 : decode cX7_bestTrail 122 = .ok (.iload_n 3, 1) := by decide +kernel
theorem dX7_bestTrail_123 : decode cX7_bestTrail 123 = .ok (.ireturn, 1) := by decide +kernel
theorem dX7_hasEmptyRow_0 : decode cX7_hasEmptyRow 0 = .ok (.iconst 0, 1) := by decide +kernel
theorem dX7_hasEmptyRow_1 : decode cX7_hasEmptyRow 1 = .ok (.istore_n 2, 1) := by decide +kernel
theorem dX7_hasEmptyRow_2 : decode cX7_hasEmptyRow 2 = .ok (.iload_n 2, 1) := by decide +kernel
theorem dX7_hasEmptyRow_3 : decode cX7_hasEmptyRow 3 = .ok (.aload_n 0, 1) := by decide +kernel
theorem dX7_hasEmptyRow_4 : decode cX7_hasEmptyRow 4 = .ok (.getfield 21, 3) := by decide +kernel
theorem dX7_hasEmptyRow_7 : decode cX7_hasEmptyRow 7 = .ok (.getfield 43, 3) := by decide +kernel
theorem dX7_hasEmptyRow_10 : decode cX7_hasEmptyRow 10 = .ok (.iload_n 1, 1) := by decide +kernel
theorem dX7_hasEmptyRow_11 : decode cX7_hasEmptyRow 11 = .ok (.iaload, 1) := by decide +kernel
theorem dX7_hasEmptyRow_12 : decode cX7_hasEmptyRow 12 = .ok (.if_icmp .ge 32, 3) := by decide +kernel
theorem dX7_hasEmptyRow_15 : decode cX7_hasEmptyRow 15 = .ok (.aload_n 0, 1) := by decide +kernel
theorem dX7_hasEmptyRow_16 : decode cX7_hasEmptyRow 16 = .ok (.getfield 21, 3) := by decide +kernel
theorem dX7_hasEmptyRow_19 : decode cX7_hasEmptyRow 19 = .ok (.iload_n 1, 1) := by decide +kernel
theorem dX7_hasEmptyRow_20 : decode cX7_hasEmptyRow 20 = .ok (.iload_n 2, 1) := by decide +kernel
theorem dX7_hasEmptyRow_21 : decode cX7_hasEmptyRow 21 = .ok (.invokevirtual 47, 3) := by decide +kernel
theorem dX7_hasEmptyRow_24 : decode cX7_hasEmptyRow 24 = .ok (.astore_n 3, 1) := by decide +kernel
theorem dX7_hasEmptyRow_25 : decode cX7_hasEmptyRow 25 = .ok (.aload_n 3, 1) := by decide +kernel
theorem dX7_hasEmptyRow_26 : decode cX7_hasEmptyRow 26 = .ok (.ifnull 12, 3) := by decide +kernel
theorem dX7_hasEmptyRow_29 : decode cX7_hasEmptyRow 29 = .ok (.aload_n 3, 1) := by decide +kernel
theorem dX7_hasEmptyRow_30 : decode cX7_hasEmptyRow 30 = .ok (.getfield 55, 3) := by decide +kernel
theorem dX7_hasEmptyRow_33 : decode cX7_hasEmptyRow 33 = .ok (.ifCond .ne 5, 3) := by decide +kernel
theorem dX7_hasEmptyRow_36 : decode cX7_hasEmptyRow 36 = .ok (.iconst 1, 1) := by decide +kernel
theorem dX7_hasEmptyRow_37 : decode cX7_hasEmptyRow 37 = .ok (.ireturn, 1) := by decide +kernel
theorem dX7_hasEmptyRow_38 : decode cX7_hasEmptyRow 38 = .ok (.iinc 2 1, 3) := by decide +kernel
theorem dX7_hasEmptyRow_41 : decode cX7_hasEmptyRow 41 = .ok (.goto (-39), 3) := by decide +kernel
theorem dX7_hasEmptyRow_44 : decode cX7_hasEmptyRow 44 = .ok (.iconst 0, 1) := by decide +kernel
theorem dX7_hasEmptyRow_45 : decode cX7_hasEmptyRow 45 = .ok (.ireturn, 1) := by decide +kernel
theorem dX7_extendPaths_0 : decode cX7_extendPaths 0 = .ok (.aload_n 0, 1) := by decide +kernel
theorem dX7_extendPaths_1 : decode cX7_extendPaths 1 = .ok (.getfield 9, 3) := by decide +kernel
theorem dX7_extendPaths_4 : decode cX7_extendPaths 4 = .ok (.iconst 0, 1) := by decide +kernel
theorem dX7_extendPaths_5 : decode cX7_extendPaths 5 = .ok (.aload_n 0, 1) := by decide +kernel
theorem dX7_extendPaths_6 : decode cX7_extendPaths 6 = .ok (.getfield 15, 3) := by decide +kernel
theorem dX7_extendPaths_9 : decode cX7_extendPaths 9 = .ok (.iconst 0, 1) := by decide +kernel
theorem dX7_extendPaths_10 : decode cX7_extendPaths 10 = .ok (.bipush 12, 2) := by decide +kernel
theorem dX7_extendPaths_12 : decode cX7_extendPaths 12 = .ok (.invokestatic 65, 3) := by decide +kernel
theorem dX7_extendPaths_15 : decode cX7_extendPaths 15 = .ok (.iconst 0, 1) := by decide +kernel
theorem dX7_extendPaths_16 : decode cX7_extendPaths 16 = .ok (.istore 4, 2) := by decide +kernel
theorem dX7_extendPaths_18 : decode cX7_extendPaths 18 = .ok (.iload 4, 2) := by decide +kernel
theorem dX7_extendPaths_20 : decode cX7_extendPaths 20 = .ok (.aload_n 1, 1) := by decide +kernel
theorem dX7_extendPaths_21 : decode cX7_extendPaths 21 = .ok (.getfield 55, 3) := by decide +kernel
theorem dX7_extendPaths_24 : decode cX7_extendPaths 24 = .ok (.if_icmp .ge 58, 3) := by decide +kernel
theorem dX7_extendPaths_27 : decode cX7_extendPaths 27 = .ok (.iload_n 2, 1) := by decide +kernel
theorem dX7_extendPaths_28 : decode cX7_extendPaths 28 = .ok (.ifCond .eq 13, 3) := by decide +kernel
theorem dX7_extendPaths_31 : decode cX7_extendPaths 31 = .ok (.aload_n 0, 1) := by decide +kernel
theorem dX7_extendPaths_32 : decode cX7_extendPaths 32 = .ok (.iload 4, 2) := by decide +kernel
theorem dX7_extendPaths_34 : decode cX7_extendPaths 34 = .ok (.iload_n 3, 1) := by decide +kernel
theorem dX7_extendPaths_35 : decode cX7_extendPaths 35 = .ok (.invokevirtual 71, 3) := by decide +kernel
theorem dX7_extendPaths_38 : decode cX7_extendPaths 38 = .ok (.goto 4, 3) := by decide +kernel
theorem dX7_extendPaths_41 : decode cX7_extendPaths 41 = .ok (.lconst 0, 1) := by decide +kernel
theorem dX7_extendPaths_42 : decode cX7_extendPaths 42 = .ok (.lstore 5, 2) := by decide +kernel
theorem dX7_extendPaths_44 : decode cX7_extendPaths 44 = .ok (.aload_n 0, 1) := by decide +kernel
theorem dX7_extendPaths_45 : decode cX7_extendPaths 45 = .ok (.getfield 9, 3) := by decide +kernel
theorem dX7_extendPaths_48 : decode cX7_extendPaths 48 = .ok (.iload 4, 2) := by decide +kernel
theorem dX7_extendPaths_50 : decode cX7_extendPaths 50 = .ok (.lload 5, 2) := by decide +kernel
theorem dX7_extendPaths_52 : decode cX7_extendPaths 52 = .ok (.ldc2_w 75, 3) := by decide +kernel
theorem dX7_extendPaths_55 : decode cX7_extendPaths 55 = .ok (.lcmp, 1) := by decide +kernel
theorem dX7_extendPaths_56 : decode cX7_extendPaths 56 = .ok (.ifCond .ne 9, 3) := by decide +kernel
theorem dX7_extendPaths_59 : decode cX7_extendPaths 59 = .ok (.ldc2_w 75, 3) := by decide +kernel
theorem dX7_extendPaths_62 : decode cX7_extendPaths 62 = .ok (.goto 13, 3) := by decide +kernel
theorem dX7_extendPaths_65 : decode cX7_extendPaths 65 = .ok (.lload 5, 2) := by decide +kernel
theorem dX7_extendPaths_67 : decode cX7_extendPaths 67 = .ok (.aload_n 1, 1) := by decide +kernel
theorem dX7_extendPaths_68 : decode cX7_extendPaths 68 = .ok (.getfield 77, 3) := by decide +kernel
theorem dX7_extendPaths_71 : decode cX7_extendPaths 71 = .ok (.iload 4, 2) := by decide +kernel
theorem dX7_extendPaths_73 : decode cX7_extendPaths 73 = .ok (.laload, 1) := by decide +kernel
theorem dX7_extendPaths_74 : decode cX7_extendPaths 74 = .ok (.ladd, 1) := by decide +kernel
theorem dX7_extendPaths_75 : decode cX7_extendPaths 75 = .ok (.lastore, 1) := by decide +kernel
theorem dX7_extendPaths_76 : decode cX7_extendPaths 76 = .ok (.iinc 4 1, 3) := by decide +kernel
theorem dX7_extendPaths_79 : decode cX7_extendPaths 79 = .ok (.goto (-61), 3) := by decide +kernel
theorem dX7_extendPaths_82 : decode cX7_extendPaths 82 = .ok (.return_, 1) := by decide +kernel
theorem dX7_bestNear_0 : decode cX7_bestNear 0 = .ok (.ldc2_w 75, 3) := by decide +kernel
theorem dX7_bestNear_3 : decode cX7_bestNear 3 = .ok (.lstore_n 3, 1) := by decide +kernel
theorem dX7_bestNear_4 : decode cX7_bestNear 4 = .ok (.iconst 0, 1) := by decide +kernel
theorem dX7_bestNear_5 : decode cX7_bestNear 5 = .ok (.iload_n 1, 1) := by decide +kernel
theorem dX7_bestNear_6 : decode cX7_bestNear 6 = .ok (.iconst 1, 1) := by decide +kernel
theorem dX7_bestNear_7 : decode cX7_bestNear 7 = .ok (.isub, 1) := by decide +kernel
theorem dX7_bestNear_8 : decode cX7_bestNear 8 = .ok (.invokestatic 80, 3) := by decide +kernel
theorem dX7_bestNear_11 : decode cX7_bestNear 11 = .ok (.istore 5, 2) := by decide +kernel
theorem dX7_bestNear_13 : decode cX7_bestNear 13 = .ok (.iload 5, 2) := by decide +kernel
theorem dX7_bestNear_15 : decode cX7_bestNear 15 = .ok (.iload_n 1, 1) := by decide +kernel
theorem dX7_bestNear_16 : decode cX7_bestNear 16 = .ok (.iconst 1, 1) := by decide +kernel
theorem dX7_bestNear_17 : decode cX7_bestNear 17 = .ok (.iadd, 1) := by decide +kernel
theorem dX7_bestNear_18 : decode cX7_bestNear 18 = .ok (.if_icmp .gt 27, 3) := by decide +kernel
theorem dX7_bestNear_21 : decode cX7_bestNear 21 = .ok (.iload 5, 2) := by decide +kernel
theorem dX7_bestNear_23 : decode cX7_bestNear 23 = .ok (.iload_n 2, 1) := by decide +kernel
theorem dX7_bestNear_24 : decode cX7_bestNear 24 = .ok (.if_icmp .ge 21, 3) := by decide +kernel
theorem dX7_bestNear_27 : decode cX7_bestNear 27 = .ok (.lload_n 3, 1) := by decide +kernel
theorem dX7_bestNear_28 : decode cX7_bestNear 28 = .ok (.aload_n 0, 1) := by decide +kernel
theorem dX7_bestNear_29 : decode cX7_bestNear 29 = .ok (.getfield 15, 3) := by decide +kernel
theorem dX7_bestNear_32 : decode cX7_bestNear 32 = .ok (.iload 5, 2) := by decide +kernel
theorem dX7_bestNear_34 : decode cX7_bestNear 34 = .ok (.laload, 1) := by decide +kernel
theorem dX7_bestNear_35 : decode cX7_bestNear 35 = .ok (.invokestatic 85, 3) := by decide +kernel
theorem dX7_bestNear_38 : decode cX7_bestNear 38 = .ok (.lstore_n 3, 1) := by decide +kernel
theorem dX7_bestNear_39 : decode cX7_bestNear 39 = .ok (.iinc 5 1, 3) := by decide +kernel
theorem dX7_bestNear_42 : decode cX7_bestNear 42 = .ok (.goto (-29), 3) := by decide +kernel
theorem dX7_bestNear_45 : decode cX7_bestNear 45 = .ok (.lload_n 3, 1) := by decide +kernel
theorem dX7_bestNear_46 : decode cX7_bestNear 46 = .ok (.lreturn, 1) := by decide +kernel
theorem dX7_reportTrail_0 : decode cX7_reportTrail 0 = .ok (.aload_n 0, 1) := by decide +kernel
theorem dX7_reportTrail_1 : decode cX7_reportTrail 1 = .ok (.getfield 25, 3) := by decide +kernel
theorem dX7_reportTrail_4 : decode cX7_reportTrail 4 = .ok (.lconst 0, 1) := by decide +kernel
theorem dX7_reportTrail_5 : decode cX7_reportTrail 5 = .ok (.putfield 88, 3) := by decide +kernel
theorem dX7_reportTrail_8 : decode cX7_reportTrail 8 = .ok (.aload_n 0, 1) := by decide +kernel
theorem dX7_reportTrail_9 : decode cX7_reportTrail 9 = .ok (.getfield 25, 3) := by decide +kernel
theorem dX7_reportTrail_12 : decode cX7_reportTrail 12 = .ok (.bipush (-9), 2) := by decide +kernel
theorem dX7_reportTrail_14 : decode cX7_reportTrail 14 = .ok (.putfield 94, 3) := by decide +kernel
theorem dX7_reportTrail_17 : decode cX7_reportTrail 17 = .ok (.iconst 0, 1) := by decide +kernel
theorem dX7_reportTrail_18 : decode cX7_reportTrail 18 = .ok (.istore_n 2, 1) := by decide +kernel
theorem dX7_reportTrail_19 : decode cX7_reportTrail 19 = .ok (.iload_n 2, 1) := by decide +kernel
theorem dX7_reportTrail_20 : decode cX7_reportTrail 20 = .ok (.iload_n 1, 1) := by decide +kernel
theorem dX7_reportTrail_21 : decode cX7_reportTrail 21 = .ok (.if_icmp .ge 59, 3) := by decide +kernel
theorem dX7_reportTrail_24 : decode cX7_reportTrail 24 = .ok (.aload_n 0, 1) := by decide +kernel
theorem dX7_reportTrail_25 : decode cX7_reportTrail 25 = .ok (.getfield 25, 3) := by decide +kernel
theorem dX7_reportTrail_28 : decode cX7_reportTrail 28 = .ok (.getfield 94, 3) := by decide +kernel
theorem dX7_reportTrail_31 : decode cX7_reportTrail 31 = .ok (.bipush (-9), 2) := by decide +kernel
theorem dX7_reportTrail_33 : decode cX7_reportTrail 33 = .ok (.if_icmp .eq 20, 3) := by decide +kernel
theorem dX7_reportTrail_36 : decode cX7_reportTrail 36 = .ok (.aload_n 0, 1) := by decide +kernel
theorem dX7_reportTrail_37 : decode cX7_reportTrail 37 = .ok (.getfield 9, 3) := by decide +kernel
theorem dX7_reportTrail_40 : decode cX7_reportTrail 40 = .ok (.iload_n 2, 1) := by decide +kernel
theorem dX7_reportTrail_41 : decode cX7_reportTrail 41 = .ok (.laload, 1) := by decide +kernel
theorem dX7_reportTrail_42 : decode cX7_reportTrail 42 = .ok (.aload_n 0, 1) := by decide +kernel
theorem dX7_reportTrail_43 : decode cX7_reportTrail 43 = .ok (.getfield 25, 3) := by decide +kernel
theorem dX7_reportTrail_46 : decode cX7_reportTrail 46 = .ok (.getfield 88, 3) := by decide +kernel
theorem dX7_reportTrail_49 : decode cX7_reportTrail 49 = .ok (.lcmp, 1) := by decide +kernel
theorem dX7_reportTrail_50 : decode cX7_reportTrail 50 = .ok (.ifCond .le 24, 3) := by decide +kernel
theorem dX7_reportTrail_53 : decode cX7_reportTrail 53 = .ok (.aload_n 0, 1) := by decide +kernel
theorem dX7_reportTrail_54 : decode cX7_reportTrail 54 = .ok (.getfield 25, 3) := by decide +kernel
theorem dX7_reportTrail_57 : decode cX7_reportTrail 57 = .ok (.aload_n 0, 1) := by decide +kernel
theorem dX7_reportTrail_58 : decode cX7_reportTrail 58 = .ok (.getfield 9, 3) := by decide +kernel
theorem dX7_reportTrail_61 : decode cX7_reportTrail 61 = .ok (.iload_n 2, 1) := by decide +kernel
theorem dX7_reportTrail_62 : decode cX7_reportTrail 62 = .ok (.laload, 1) := by decide +kernel
theorem dX7_reportTrail_63 : decode cX7_reportTrail 63 = .ok (.putfield 88, 3) := by decide +kernel
theorem dX7_reportTrail_66 : decode cX7_reportTrail 66 = .ok (.aload_n 0, 1) := by decide +kernel
theorem dX7_reportTrail_67 : decode cX7_reportTrail 67 = .ok (.getfield 25, 3) := by decide +kernel
theorem dX7_reportTrail_70 : decode cX7_reportTrail 70 = .ok (.iload_n 2, 1) := by decide +kernel
theorem dX7_reportTrail_71 : decode cX7_reportTrail 71 = .ok (.putfield 94, 3) := by decide +kernel
theorem dX7_reportTrail_74 : decode cX7_reportTrail 74 = .ok (.iinc 2 1, 3) := by decide +kernel
theorem dX7_reportTrail_77 : decode cX7_reportTrail 77 = .ok (.goto (-58), 3) := by decide +kernel
theorem dX7_reportTrail_80 : decode cX7_reportTrail 80 = .ok (.return_, 1) := by decide +kernel
theorem dX7_bestBlock_0 : decode cX7_bestBlock 0 = .ok (.aload_n 0, 1) := by decide +kernel
theorem dX7_bestBlock_1 : decode cX7_bestBlock 1 = .ok (.getfield 21, 3) := by decide +kernel
theorem dX7_bestBlock_4 : decode cX7_bestBlock 4 = .ok (.iload_n 1, 1) := by decide +kernel
theorem dX7_bestBlock_5 : decode cX7_bestBlock 5 = .ok (.invokevirtual 29, 3) := by decide +kernel
theorem dX7_bestBlock_8 : decode cX7_bestBlock 8 = .ok (.istore_n 2, 1) := by decide +kernel
theorem dX7_bestBlock_9 : decode cX7_bestBlock 9 = .ok (.iload_n 2, 1) := by decide +kernel
theorem dX7_bestBlock_10 : decode cX7_bestBlock 10 = .ok (.ifCond .ge 5, 3) := by decide +kernel
theorem dX7_bestBlock_13 : decode cX7_bestBlock 13 = .ok (.iload_n 2, 1) := by decide +kernel
theorem dX7_bestBlock_14 : decode cX7_bestBlock 14 = .ok (.ireturn, 1) := by decide +kernel
theorem dX7_bestBlock_15 : decode cX7_bestBlock 15 = .ok (.aload_n 0, 1) := by decide +kernel
theorem dX7_bestBlock_16 : decode cX7_bestBlock 16 = .ok (.bipush (-9), 2) := by decide +kernel
theorem dX7_bestBlock_18 : decode cX7_bestBlock 18 = .ok (.putfield 97, 3) := by decide +kernel
theorem dX7_bestBlock_21 : decode cX7_bestBlock 21 = .ok (.iconst 0, 1) := by decide +kernel
theorem dX7_bestBlock_22 : decode cX7_bestBlock 22 = .ok (.istore_n 3, 1) := by decide +kernel
theorem dX7_bestBlock_23 : decode cX7_bestBlock 23 = .ok (.iload_n 3, 1) := by decide +kernel
theorem dX7_bestBlock_24 : decode cX7_bestBlock 24 = .ok (.aload_n 0, 1) := by decide +kernel
theorem dX7_bestBlock_25 : decode cX7_bestBlock 25 = .ok (.getfield 21, 3) := by decide +kernel
theorem dX7_bestBlock_28 : decode cX7_bestBlock 28 = .ok (.getfield 43, 3) := by decide +kernel
theorem dX7_bestBlock_31 : decode cX7_bestBlock 31 = .ok (.iload_n 1, 1) := by decide +kernel
theorem dX7_bestBlock_32 : decode cX7_bestBlock 32 = .ok (.iaload, 1) := by decide +kernel
theorem dX7_bestBlock_33 : decode cX7_bestBlock 33 = .ok (.if_icmp .ge 33, 3) := by decide +kernel
theorem dX7_bestBlock_36 : decode cX7_bestBlock 36 = .ok (.iconst 0, 1) := by decide +kernel
theorem dX7_bestBlock_37 : decode cX7_bestBlock 37 = .ok (.istore 4, 2) := by decide +kernel
theorem dX7_bestBlock_39 : decode cX7_bestBlock 39 = .ok (.iload 4, 2) := by decide +kernel
theorem dX7_bestBlock_41 : decode cX7_bestBlock 41 = .ok (.bipush 12, 2) := by decide +kernel
theorem dX7_bestBlock_43 : decode cX7_bestBlock 43 = .ok (.if_icmp .ge 17, 3) := by decide +kernel
theorem dX7_bestBlock_46 : decode cX7_bestBlock 46 = .ok (.aload_n 0, 1) := by decide +kernel
theorem dX7_bestBlock_47 : decode cX7_bestBlock 47 = .ok (.iload_n 1, 1) := by decide +kernel
theorem dX7_bestBlock_48 : decode cX7_bestBlock 48 = .ok (.iload_n 3, 1) := by decide +kernel
theorem dX7_bestBlock_49 : decode cX7_bestBlock 49 = .ok (.iload 4, 2) := by decide +kernel
theorem dX7_bestBlock_51 : decode cX7_bestBlock 51 = .ok (.invokevirtual 100, 3) := by decide +kernel
theorem dX7_bestBlock_54 : decode cX7_bestBlock 54 = .ok (.iinc 4 1, 3) := by decide +kernel
theorem dX7_bestBlock_57 : decode cX7_bestBlock 57 = .ok (.goto (-18), 3) := by decide +kernel
theorem dX7_bestBlock_60 : decode cX7_bestBlock 60 = .ok (.iinc 3 1, 3) := by decide +kernel
theorem dX7_bestBlock_63 : decode cX7_bestBlock 63 = .ok (.goto (-40), 3) := by decide +kernel
theorem dX7_bestBlock_66 : decode cX7_bestBlock 66 = .ok (.aload_n 0, 1) := by decide +kernel
theorem dX7_bestBlock_67 : decode cX7_bestBlock 67 = .ok (.getfield 97, 3) := by decide +kernel
theorem dX7_bestBlock_70 : decode cX7_bestBlock 70 = .ok (.bipush (-9), 2) := by decide +kernel
theorem dX7_bestBlock_72 : decode cX7_bestBlock 72 = .ok (.if_icmp .eq 14, 3) := by decide +kernel
theorem dX7_bestBlock_75 : decode cX7_bestBlock 75 = .ok (.aload_n 0, 1) := by decide +kernel
theorem dX7_bestBlock_76 : decode cX7_bestBlock 76 = .ok (.getfield 25, 3) := by decide +kernel
theorem dX7_bestBlock_79 : decode cX7_bestBlock 79 = .ok (.aload_n 0, 1) := by decide +kernel
theorem dX7_bestBlock_80 : decode cX7_bestBlock 80 = .ok (.getfield 104, 3) := by decide +kernel
theorem dX7_bestBlock_83 : decode cX7_bestBlock 83 = .ok (.putfield 88, 3) := by decide +kernel
theorem dX7_bestBlock_86 : decode cX7_bestBlock 86 = .ok (.aload_n 0, 1) := by decide +kernel
theorem dX7_bestBlock_87 : decode cX7_bestBlock 87 = .ok (.getfield 97, 3) := by decide +kernel
theorem dX7_bestBlock_90 : decode cX7_bestBlock 90 = .ok (.ireturn, 1) := by decide +kernel
theorem dX7_tryBlocks_0 : decode cX7_tryBlocks 0 = .ok (.aload_n 0, 1) := by decide +kernel
theorem dX7_tryBlocks_1 : decode cX7_tryBlocks 1 = .ok (.getfield 18, 3) := by decide +kernel
theorem dX7_tryBlocks_4 : decode cX7_tryBlocks 4 = .ok (.lconst 0, 1) := by decide +kernel
theorem dX7_tryBlocks_5 : decode cX7_tryBlocks 5 = .ok (.invokestatic 107, 3) := by decide +kernel
theorem dX7_tryBlocks_8 : decode cX7_tryBlocks 8 = .ok (.bipush 12, 2) := by decide +kernel
theorem dX7_tryBlocks_10 : decode cX7_tryBlocks 10 = .ok (.istore 4, 2) := by decide +kernel
theorem dX7_tryBlocks_12 : decode cX7_tryBlocks 12 = .ok (.iload_n 2, 1) := by decide +kernel
theorem dX7_tryBlocks_13 : decode cX7_tryBlocks 13 = .ok (.istore 5, 2) := by decide +kernel
theorem dX7_tryBlocks_15 : decode cX7_tryBlocks 15 = .ok (.iload 5, 2) := by decide +kernel
theorem dX7_tryBlocks_17 : decode cX7_tryBlocks 17 = .ok (.aload_n 0, 1) := by decide +kernel
theorem dX7_tryBlocks_18 : decode cX7_tryBlocks 18 = .ok (.getfield 21, 3) := by decide +kernel
theorem dX7_tryBlocks_21 : decode cX7_tryBlocks 21 = .ok (.getfield 43, 3) := by decide +kernel
theorem dX7_tryBlocks_24 : decode cX7_tryBlocks 24 = .ok (.iload_n 1, 1) := by decide +kernel
theorem dX7_tryBlocks_25 : decode cX7_tryBlocks 25 = .ok (.iaload, 1) := by decide +kernel
theorem dX7_tryBlocks_26 : decode cX7_tryBlocks 26 = .ok (.if_icmp .ge 148, 3) := by decide +kernel
theorem dX7_tryBlocks_29 : decode cX7_tryBlocks 29 = .ok (.aload_n 0, 1) := by decide +kernel
theorem dX7_tryBlocks_30 : decode cX7_tryBlocks 30 = .ok (.getfield 21, 3) := by decide +kernel
theorem dX7_tryBlocks_33 : decode cX7_tryBlocks 33 = .ok (.iload_n 1, 1) := by decide +kernel
theorem dX7_tryBlocks_34 : decode cX7_tryBlocks 34 = .ok (.iload 5, 2) := by decide +kernel
theorem dX7_tryBlocks_36 : decode cX7_tryBlocks 36 = .ok (.invokevirtual 47, 3) := by decide +kernel
theorem dX7_tryBlocks_39 : decode cX7_tryBlocks 39 = .ok (.astore 6, 2) := by decide +kernel
theorem dX7_tryBlocks_41 : decode cX7_tryBlocks 41 = .ok (.aload 6, 2) := by decide +kernel
theorem dX7_tryBlocks_43 : decode cX7_tryBlocks 43 = .ok (.ifnull 15, 3) := by decide +kernel
theorem dX7_tryBlocks_46 : decode cX7_tryBlocks 46 = .ok (.aload 6, 2) := by decide +kernel
theorem dX7_tryBlocks_48 : decode cX7_tryBlocks 48 = .ok (.getfield 113, 3) := by decide +kernel
theorem dX7_tryBlocks_51 : decode cX7_tryBlocks 51 = .ok (.iconst 4, 1) := by decide +kernel
theorem dX7_tryBlocks_52 : decode cX7_tryBlocks 52 = .ok (.invokestatic 116, 3) := by decide +kernel
theorem dX7_tryBlocks_55 : decode cX7_tryBlocks 55 = .ok (.ifCond .ne 4, 3) := by decide +kernel
theorem dX7_tryBlocks_58 : decode cX7_tryBlocks 58 = .ok (.return_, 1) := by decide +kernel
theorem dX7_tryBlocks_59 : decode cX7_tryBlocks 59 = .ok (.iload 4, 2) := by decide +kernel
theorem dX7_tryBlocks_61 : decode cX7_tryBlocks 61 = .ok (.aload 6, 2) := by decide +kernel
theorem dX7_tryBlocks_63 : decode cX7_tryBlocks 63 = .ok (.getfield 55, 3) := by decide +kernel
theorem dX7_tryBlocks_66 : decode cX7_tryBlocks 66 = .ok (.invokestatic 120, 3) := by decide +kernel
theorem dX7_tryBlocks_69 : decode cX7_tryBlocks 69 = .ok (.istore 4, 2) := by decide +kernel
theorem dX7_tryBlocks_71 : decode cX7_tryBlocks 71 = .ok (.lconst 0, 1) := by decide +kernel
theorem dX7_tryBlocks_72 : decode cX7_tryBlocks 72 = .ok (.lstore 7, 2) := by decide +kernel
theorem dX7_tryBlocks_74 : decode cX7_tryBlocks 74 = .ok (.iload_n 3, 1) := by decide +kernel
theorem dX7_tryBlocks_75 : decode cX7_tryBlocks 75 = .ok (.istore 9, 2) := by decide +kernel
theorem dX7_tryBlocks_77 : decode cX7_tryBlocks 77 = .ok (.iload 9, 2) := by decide +kernel
theorem dX7_tryBlocks_79 : decode cX7_tryBlocks 79 = .ok (.iload 4, 2) := by decide +kernel
theorem dX7_tryBlocks_81 : decode cX7_tryBlocks 81 = .ok (.if_icmp .ge 87, 3) := by decide +kernel
theorem dX7_tryBlocks_84 : decode cX7_tryBlocks 84 = .ok (.aload_n 0, 1) := by decide +kernel
theorem dX7_tryBlocks_85 : decode cX7_tryBlocks 85 = .ok (.getfield 18, 3) := by decide +kernel
theorem dX7_tryBlocks_88 : decode cX7_tryBlocks 88 = .ok (.iload 9, 2) := by decide +kernel
theorem dX7_tryBlocks_90 : decode cX7_tryBlocks 90 = .ok (.dup2, 1) := by decide +kernel
theorem dX7_tryBlocks_91 : decode cX7_tryBlocks 91 = .ok (.laload, 1) := by decide +kernel
theorem dX7_tryBlocks_92 : decode cX7_tryBlocks 92 = .ok (.aload 6, 2) := by decide +kernel
theorem dX7_tryBlocks_94 : decode cX7_tryBlocks 94 = .ok (.getfield 77, 3) := by decide +kernel
theorem dX7_tryBlocks_97 : decode cX7_tryBlocks 97 = .ok (.iload 9, 2) := by decide +kernel
theorem dX7_tryBlocks_99 : decode cX7_tryBlocks 99 = .ok (.laload, 1) := by decide +kernel
theorem dX7_tryBlocks_100 : decode cX7_tryBlocks 100 = .ok (.ladd, 1) := by decide +kernel
theorem dX7_tryBlocks_101 : decode cX7_tryBlocks 101 = .ok (.lastore, 1) := by decide +kernel
theorem dX7_tryBlocks_102 : decode cX7_tryBlocks 102 = .ok (.lload 7, 2) := by decide +kernel
theorem dX7_tryBlocks_104 : decode cX7_tryBlocks 104 = .ok (.aload_n 0, 1) := by decide +kernel
theorem dX7_tryBlocks_105 : decode cX7_tryBlocks 105 = .ok (.getfield 18, 3) := by decide +kernel
theorem dX7_tryBlocks_108 : decode cX7_tryBlocks 108 = .ok (.iload 9, 2) := by decide +kernel
theorem dX7_tryBlocks_110 : decode cX7_tryBlocks 110 = .ok (.laload, 1) := by decide +kernel
theorem dX7_tryBlocks_111 : decode cX7_tryBlocks 111 = .ok (.ladd, 1) := by decide +kernel
theorem dX7_tryBlocks_112 : decode cX7_tryBlocks 112 = .ok (.lstore 7, 2) := by decide +kernel
theorem dX7_tryBlocks_114 : decode cX7_tryBlocks 114 = .ok (.aload_n 0, 1) := by decide +kernel
theorem dX7_tryBlocks_115 : decode cX7_tryBlocks 115 = .ok (.getfield 97, 3) := by decide +kernel
theorem dX7_tryBlocks_118 : decode cX7_tryBlocks 118 = .ok (.bipush (-9), 2) := by decide +kernel
theorem dX7_tryBlocks_120 : decode cX7_tryBlocks 120 = .ok (.if_icmp .eq 13, 3) := by decide +kernel
theorem dX7_tryBlocks_123 : decode cX7_tryBlocks 123 = .ok (.lload 7, 2) := by decide +kernel
theorem dX7_tryBlocks_125 : decode cX7_tryBlocks 125 = .ok (.aload_n 0, 1) := by decide +kernel
theorem dX7_tryBlocks_126 : decode cX7_tryBlocks 126 = .ok (.getfield 104, 3) := by decide +kernel
theorem dX7_tryBlocks_129 : decode cX7_tryBlocks 129 = .ok (.lcmp, 1) := by decide +kernel
theorem dX7_tryBlocks_130 : decode cX7_tryBlocks 130 = .ok (.ifCond .le 32, 3) := by decide +kernel
theorem dX7_tryBlocks_133 : decode cX7_tryBlocks 133 = .ok (.aload_n 0, 1) := by decide +kernel
theorem dX7_tryBlocks_134 : decode cX7_tryBlocks 134 = .ok (.ldc 123, 2) := by decide +kernel
theorem dX7_tryBlocks_136 : decode cX7_tryBlocks 136 = .ok (.iload_n 2, 1) := by decide +kernel
theorem dX7_tryBlocks_137 : decode cX7_tryBlocks 137 = .ok (.imul, 1) := by decide +kernel
theorem dX7_tryBlocks_138 : decode cX7_tryBlocks 138 = .ok (.sipush 10000, 3) := by decide +kernel
theorem dX7_tryBlocks_141 : decode cX7_tryBlocks 141 = .ok (.iload_n 3, 1) := by decide +kernel
theorem dX7_tryBlocks_142 : decode cX7_tryBlocks 142 = .ok (.imul, 1) := by decide +kernel
theorem dX7_tryBlocks_143 : decode cX7_tryBlocks 143 = .ok (.iadd, 1) := by decide +kernel
theorem dX7_tryBlocks_144 : decode cX7_tryBlocks 144 = .ok (.bipush 100, 2) := by decide +kernel
theorem dX7_tryBlocks_146 : decode cX7_tryBlocks 146 = .ok (.iload 5, 2) := by decide +kernel
theorem dX7_tryBlocks_148 : decode cX7_tryBlocks 148 = .ok (.imul, 1) := by decide +kernel
theorem dX7_tryBlocks_149 : decode cX7_tryBlocks 149 = .ok (.iadd, 1) := by decide +kernel
theorem dX7_tryBlocks_150 : decode cX7_tryBlocks 150 = .ok (.iload 9, 2) := by decide +kernel
theorem dX7_tryBlocks_152 : decode cX7_tryBlocks 152 = .ok (.iadd, 1) := by decide +kernel
theorem dX7_tryBlocks_153 : decode cX7_tryBlocks 153 = .ok (.putfield 97, 3) := by decide +kernel
theorem dX7_tryBlocks_156 : decode cX7_tryBlocks 156 = .ok (.aload_n 0, 1) := by decide +kernel
theorem dX7_tryBlocks_157 : decode cX7_tryBlocks 157 = .ok (.lload 7, 2) := by decide +kernel
theorem dX7_tryBlocks_159 : decode cX7_tryBlocks 159 = .ok (.putfield 104, 3) := by decide +kernel
theorem dX7_tryBlocks_162 : decode cX7_tryBlocks 162 = .ok (.iinc 9 1, 3) := by decide +kernel
theorem dX7_tryBlocks_165 : decode cX7_tryBlocks 165 = .ok (.goto (-88), 3) := by decide +kernel
theorem dX7_tryBlocks_168 : decode cX7_tryBlocks 168 = .ok (.iinc 5 1, 3) := by decide +kernel
theorem dX7_tryBlocks_171 : decode cX7_tryBlocks 171 = .ok (.goto (-156), 3) := by decide +kernel
theorem dX7_tryBlocks_174 : decode cX7_tryBlocks 174 = .ok (.return_, 1) := by decide +kernel
theorem dX7_findGrid_0 : decode cX7_findGrid 0 = .ok (.iload_n 1, 1) := by decide +kernel
theorem dX7_findGrid_1 : decode cX7_findGrid 1 = .ok (.invokestatic 124, 3) := by decide +kernel
theorem dX7_findGrid_4 : decode cX7_findGrid 4 = .ok (.ifCond .eq 14, 3) := by decide +kernel
theorem dX7_findGrid_7 : decode cX7_findGrid 7 = .ok (.iload_n 2, 1) := by decide +kernel
theorem dX7_findGrid_8 : decode cX7_findGrid 8 = .ok (.invokestatic 124, 3) := by decide +kernel
theorem dX7_findGrid_11 : decode cX7_findGrid 11 = .ok (.ifCond .eq 7, 3) := by decide +kernel
theorem dX7_findGrid_14 : decode cX7_findGrid 14 = .ok (.iload_n 3, 1) := by decide +kernel
theorem dX7_findGrid_15 : decode cX7_findGrid 15 = .ok (.ifCond .ge 5, 3) := by decide +kernel
theorem dX7_findGrid_18 : decode cX7_findGrid 18 = .ok (.iconst (-1), 1) := by decide +kernel
theorem dX7_findGrid_19 : decode cX7_findGrid 19 = .ok (.ireturn, 1) := by decide +kernel
theorem dX7_findGrid_20 : decode cX7_findGrid 20 = .ok (.aload_n 0, 1) := by decide +kernel
theorem dX7_findGrid_21 : decode cX7_findGrid 21 = .ok (.getfield 21, 3) := by decide +kernel
theorem dX7_findGrid_24 : decode cX7_findGrid 24 = .ok (.getfield 43, 3) := by decide +kernel
theorem dX7_findGrid_27 : decode cX7_findGrid 27 = .ok (.iload_n 1, 1) := by decide +kernel
theorem dX7_findGrid_28 : decode cX7_findGrid 28 = .ok (.iaload, 1) := by decide +kernel
theorem dX7_findGrid_29 : decode cX7_findGrid 29 = .ok (.ifCond .lt 15, 3) := by decide +kernel
theorem dX7_findGrid_32 : decode cX7_findGrid 32 = .ok (.aload_n 0, 1) := by decide +kernel
theorem dX7_findGrid_33 : decode cX7_findGrid 33 = .ok (.getfield 21, 3) := by decide +kernel
theorem dX7_findGrid_36 : decode cX7_findGrid 36 = .ok (.getfield 43, 3) := by decide +kernel
theorem dX7_findGrid_39 : decode cX7_findGrid 39 = .ok (.iload_n 2, 1) := by decide +kernel
theorem dX7_findGrid_40 : decode cX7_findGrid 40 = .ok (.iaload, 1) := by decide +kernel
theorem dX7_findGrid_41 : decode cX7_findGrid 41 = .ok (.ifCond .ge 6, 3) := by decide +kernel
theorem dX7_findGrid_44 : decode cX7_findGrid 44 = .ok (.bipush (-2), 2) := by decide +kernel
theorem dX7_findGrid_46 : decode cX7_findGrid 46 = .ok (.ireturn, 1) := by decide +kernel
theorem dX7_findGrid_47 : decode cX7_findGrid 47 = .ok (.iconst 0, 1) := by decide +kernel
theorem dX7_findGrid_48 : decode cX7_findGrid 48 = .ok (.istore 4, 2) := by decide +kernel
theorem dX7_findGrid_50 : decode cX7_findGrid 50 = .ok (.bipush (-9), 2) := by decide +kernel
theorem dX7_findGrid_52 : decode cX7_findGrid 52 = .ok (.istore 5, 2) := by decide +kernel
theorem dX7_findGrid_54 : decode cX7_findGrid 54 = .ok (.iconst 0, 1) := by decide +kernel
theorem dX7_findGrid_55 : decode cX7_findGrid 55 = .ok (.istore 6, 2) := by decide +kernel
theorem dX7_findGrid_57 : decode cX7_findGrid 57 = .ok (.iload 6, 2) := by decide +kernel
theorem dX7_findGrid_59 : decode cX7_findGrid 59 = .ok (.aload_n 0, 1) := by decide +kernel
theorem dX7_findGrid_60 : decode cX7_findGrid 60 = .ok (.getfield 21, 3) := by decide +kernel
theorem dX7_findGrid_63 : decode cX7_findGrid 63 = .ok (.getfield 43, 3) := by decide +kernel
theorem dX7_findGrid_66 : decode cX7_findGrid 66 = .ok (.iload_n 1, 1) := by decide +kernel
theorem dX7_findGrid_67 : decode cX7_findGrid 67 = .ok (.iaload, 1) := by decide +kernel
theorem dX7_findGrid_68 : decode cX7_findGrid 68 = .ok (.aload_n 0, 1) := by decide +kernel
theorem dX7_findGrid_69 : decode cX7_findGrid 69 = .ok (.getfield 21, 3) := by decide +kernel
theorem dX7_findGrid_72 : decode cX7_findGrid 72 = .ok (.getfield 43, 3) := by decide +kernel
theorem dX7_findGrid_75 : decode cX7_findGrid 75 = .ok (.iload_n 2, 1) := by decide +kernel
theorem dX7_findGrid_76 : decode cX7_findGrid 76 = .ok (.iaload, 1) := by decide +kernel
theorem dX7_findGrid_77 : decode cX7_findGrid 77 = .ok (.isub, 1) := by decide +kernel
theorem dX7_findGrid_78 : decode cX7_findGrid 78 = .ok (.if_icmp .gt 62, 3) := by decide +kernel
theorem dX7_findGrid_81 : decode cX7_findGrid 81 = .ok (.iconst 0, 1) := by decide +kernel
theorem dX7_findGrid_82 : decode cX7_findGrid 82 = .ok (.istore 7, 2) := by decide +kernel
theorem dX7_findGrid_84 : decode cX7_findGrid 84 = .ok (.iload 7, 2) := by decide +kernel
theorem dX7_findGrid_86 : decode cX7_findGrid 86 = .ok (.bipush 12, 2) := by decide +kernel
theorem dX7_findGrid_88 : decode cX7_findGrid 88 = .ok (.if_icmp .ge 46, 3) := by decide +kernel
theorem dX7_findGrid_91 : decode cX7_findGrid 91 = .ok (.aload_n 0, 1) := by decide +kernel
theorem dX7_findGrid_92 : decode cX7_findGrid 92 = .ok (.iload_n 1, 1) := by decide +kernel
theorem dX7_findGrid_93 : decode cX7_findGrid 93 = .ok (.iload_n 2, 1) := by decide +kernel
theorem dX7_findGrid_94 : decode cX7_findGrid 94 = .ok (.iload 6, 2) := by decide +kernel
theorem dX7_findGrid_96 : decode cX7_findGrid 96 = .ok (.iload 7, 2) := by decide +kernel
theorem dX7_findGrid_98 : decode cX7_findGrid 98 = .ok (.invokevirtual 127, 3) := by decide +kernel
theorem dX7_findGrid_101 : decode cX7_findGrid 101 = .ok (.ifCond .eq 27, 3) := by decide +kernel
theorem dX7_findGrid_104 : decode cX7_findGrid 104 = .ok (.iload 4, 2) := by decide +kernel
theorem dX7_findGrid_106 : decode cX7_findGrid 106 = .ok (.iload_n 3, 1) := by decide +kernel
theorem dX7_findGrid_107 : decode cX7_findGrid 107 = .ok (.if_icmp .ne 14, 3) := by decide +kernel
theorem dX7_findGrid_110 : decode cX7_findGrid 110 = .ok (.bipush 100, 2) := by decide +kernel
theorem dX7_findGrid_112 : decode cX7_findGrid 112 = .ok (.iload 6, 2) := by decide +kernel
theorem dX7_findGrid_114 : decode cX7_findGrid 114 = .ok (.imul, 1) := by decide +kernel
theorem dX7_findGrid_115 : decode cX7_findGrid 115 = .ok (.iload 7, 2) := by decide +kernel
theorem dX7_findGrid_117 : decode cX7_findGrid 117 = .ok (.iadd, 1) := by decide +kernel
theorem dX7_findGrid_118 : decode cX7_findGrid 118 = .ok (.goto 5, 3) := by decide +kernel
theorem dX7_findGrid_121 : decode cX7_findGrid 121 = .ok (.iload 5, 2) := by decide +kernel
theorem dX7_findGrid_123 : decode cX7_findGrid 123 = .ok (.istore 5, 2) := by decide +kernel
theorem dX7_findGrid_125 : decode cX7_findGrid 125 = .ok (.iinc 4 1, 3) := by decide +kernel
theorem dX7_findGrid_128 : decode cX7_findGrid 128 = .ok (.iinc 7 1, 3) := by decide +kernel
theorem dX7_findGrid_131 : decode cX7_findGrid 131 = .ok (.goto (-47), 3) := by decide +kernel
theorem dX7_findGrid_134 : decode cX7_findGrid 134 = .ok (.iinc 6 1, 3) := by decide +kernel
theorem dX7_findGrid_137 : decode cX7_findGrid 137 = .ok (.goto (-80), 3) := by decide +kernel
theorem dX7_findGrid_140 : decode cX7_findGrid 140 = .ok (.iload 5, 2) := by decide +kernel
theorem dX7_findGrid_142 : decode cX7_findGrid 142 = .ok (.bipush (-9), 2) := by decide +kernel
theorem dX7_findGrid_144 : decode cX7_findGrid 144 = .ok (.if_icmp .eq 13, 3) := by decide +kernel
theorem dX7_findGrid_147 : decode cX7_findGrid 147 = .ok (.aload_n 0, 1) := by decide +kernel
theorem dX7_findGrid_148 : decode cX7_findGrid 148 = .ok (.getfield 25, 3) := by decide +kernel
theorem dX7_findGrid_151 : decode cX7_findGrid 151 = .ok (.iload 4, 2) := by decide +kernel
theorem dX7_findGrid_153 : decode cX7_findGrid 153 = .ok (.i2l, 1) := by decide +kernel
theorem dX7_findGrid_154 : decode cX7_findGrid 154 = .ok (.putfield 88, 3) := by decide +kernel
theorem dX7_findGrid_157 : decode cX7_findGrid 157 = .ok (.iload 5, 2) := by decide +kernel
theorem dX7_findGrid_159 : decode cX7_findGrid 159 = .ok (.ireturn, 1) := by decide +kernel
theorem dX7_occursAt_0 : decode cX7_occursAt 0 = .ok (.iconst 0, 1) := by decide +kernel
theorem dX7_occursAt_1 : decode cX7_occursAt 1 = .ok (.istore 5, 2) := by decide +kernel
theorem dX7_occursAt_3 : decode cX7_occursAt 3 = .ok (.iload 5, 2) := by decide +kernel
theorem dX7_occursAt_5 : decode cX7_occursAt 5 = .ok (.aload_n 0, 1) := by decide +kernel
theorem dX7_occursAt_6 : decode cX7_occursAt 6 = .ok (.getfield 21, 3) := by decide +kernel
theorem dX7_occursAt_9 : decode cX7_occursAt 9 = .ok (.getfield 43, 3) := by decide +kernel
theorem dX7_occursAt_12 : decode cX7_occursAt 12 = .ok (.iload_n 2, 1) := by decide +kernel
theorem dX7_occursAt_13 : decode cX7_occursAt 13 = .ok (.iaload, 1) := by decide +kernel
theorem dX7_occursAt_14 : decode cX7_occursAt 14 = .ok (.if_icmp .ge 50, 3) := by decide +kernel
theorem dX7_occursAt_17 : decode cX7_occursAt 17 = .ok (.aload_n 0, 1) := by decide +kernel
theorem dX7_occursAt_18 : decode cX7_occursAt 18 = .ok (.getfield 21, 3) := by decide +kernel
theorem dX7_occursAt_21 : decode cX7_occursAt 21 = .ok (.iload_n 2, 1) := by decide +kernel
theorem dX7_occursAt_22 : decode cX7_occursAt 22 = .ok (.iload 5, 2) := by decide +kernel
theorem dX7_occursAt_24 : decode cX7_occursAt 24 = .ok (.invokevirtual 47, 3) := by decide +kernel
theorem dX7_occursAt_27 : decode cX7_occursAt 27 = .ok (.astore 6, 2) := by decide +kernel
theorem dX7_occursAt_29 : decode cX7_occursAt 29 = .ok (.aload 6, 2) := by decide +kernel
theorem dX7_occursAt_31 : decode cX7_occursAt 31 = .ok (.ifnull 27, 3) := by decide +kernel
theorem dX7_occursAt_34 : decode cX7_occursAt 34 = .ok (.aload 6, 2) := by decide +kernel
theorem dX7_occursAt_36 : decode cX7_occursAt 36 = .ok (.aload_n 0, 1) := by decide +kernel
theorem dX7_occursAt_37 : decode cX7_occursAt 37 = .ok (.getfield 21, 3) := by decide +kernel
theorem dX7_occursAt_40 : decode cX7_occursAt 40 = .ok (.iload_n 1, 1) := by decide +kernel
theorem dX7_occursAt_41 : decode cX7_occursAt 41 = .ok (.iload_n 3, 1) := by decide +kernel
theorem dX7_occursAt_42 : decode cX7_occursAt 42 = .ok (.iload 5, 2) := by decide +kernel
theorem dX7_occursAt_44 : decode cX7_occursAt 44 = .ok (.iadd, 1) := by decide +kernel
theorem dX7_occursAt_45 : decode cX7_occursAt 45 = .ok (.invokevirtual 47, 3) := by decide +kernel
theorem dX7_occursAt_48 : decode cX7_occursAt 48 = .ok (.iload 4, 2) := by decide +kernel
theorem dX7_occursAt_50 : decode cX7_occursAt 50 = .ok (.invokestatic 131, 3) := by decide +kernel
theorem dX7_occursAt_53 : decode cX7_occursAt 53 = .ok (.ifCond .ne 5, 3) := by decide +kernel
theorem dX7_occursAt_56 : decode cX7_occursAt 56 = .ok (.iconst 0, 1) := by decide +kernel
theorem dX7_occursAt_57 : decode cX7_occursAt 57 = .ok (.ireturn, 1) := by decide +kernel
theorem dX7_occursAt_58 : decode cX7_occursAt 58 = .ok (.iinc 5 1, 3) := by decide +kernel
theorem dX7_occursAt_61 : decode cX7_occursAt 61 = .ok (.goto (-58), 3) := by decide +kernel
theorem dX7_occursAt_64 : decode cX7_occursAt 64 = .ok (.iconst 1, 1) := by decide +kernel
theorem dX7_occursAt_65 : decode cX7_occursAt 65 = .ok (.ireturn, 1) := by decide +kernel
theorem dX7_rowOccurs_0 : decode cX7_rowOccurs 0 = .ok (.iconst 0, 1) := by decide +kernel
theorem dX7_rowOccurs_1 : decode cX7_rowOccurs 1 = .ok (.istore_n 3, 1) := by decide +kernel
theorem dX7_rowOccurs_2 : decode cX7_rowOccurs 2 = .ok (.iload_n 3, 1) := by decide +kernel
theorem dX7_rowOccurs_3 : decode cX7_rowOccurs 3 = .ok (.aload_n 0, 1) := by decide +kernel
theorem dX7_rowOccurs_4 : decode cX7_rowOccurs 4 = .ok (.getfield 55, 3) := by decide +kernel
theorem dX7_rowOccurs_7 : decode cX7_rowOccurs 7 = .ok (.if_icmp .ge 50, 3) := by decide +kernel
theorem dX7_rowOccurs_10 : decode cX7_rowOccurs 10 = .ok (.aload_n 1, 1) := by decide +kernel
theorem dX7_rowOccurs_11 : decode cX7_rowOccurs 11 = .ok (.ifnull 13, 3) := by decide +kernel
theorem dX7_rowOccurs_14 : decode cX7_rowOccurs 14 = .ok (.aload_n 1, 1) := by decide +kernel
theorem dX7_rowOccurs_15 : decode cX7_rowOccurs 15 = .ok (.iload_n 2, 1) := by decide +kernel
theorem dX7_rowOccurs_16 : decode cX7_rowOccurs 16 = .ok (.iload_n 3, 1) := by decide +kernel
theorem dX7_rowOccurs_17 : decode cX7_rowOccurs 17 = .ok (.iadd, 1) := by decide +kernel
theorem dX7_rowOccurs_18 : decode cX7_rowOccurs 18 = .ok (.invokevirtual 135, 3) := by decide +kernel
theorem dX7_rowOccurs_21 : decode cX7_rowOccurs 21 = .ok (.ifCond .ne 5, 3) := by decide +kernel
theorem dX7_rowOccurs_24 : decode cX7_rowOccurs 24 = .ok (.iconst 0, 1) := by decide +kernel
theorem dX7_rowOccurs_25 : decode cX7_rowOccurs 25 = .ok (.ireturn, 1) := by decide +kernel
theorem dX7_rowOccurs_26 : decode cX7_rowOccurs 26 = .ok (.aload_n 0, 1) := by decide +kernel
theorem dX7_rowOccurs_27 : decode cX7_rowOccurs 27 = .ok (.getfield 138, 3) := by decide +kernel
theorem dX7_rowOccurs_30 : decode cX7_rowOccurs 30 = .ok (.iload_n 3, 1) := by decide +kernel
theorem dX7_rowOccurs_31 : decode cX7_rowOccurs 31 = .ok (.iaload, 1) := by decide +kernel
theorem dX7_rowOccurs_32 : decode cX7_rowOccurs 32 = .ok (.bipush 11, 2) := by decide +kernel
theorem dX7_rowOccurs_34 : decode cX7_rowOccurs 34 = .ok (.if_icmp .eq 17, 3) := by decide +kernel
theorem dX7_rowOccurs_37 : decode cX7_rowOccurs 37 = .ok (.aload_n 0, 1) := by decide +kernel
theorem dX7_rowOccurs_38 : decode cX7_rowOccurs 38 = .ok (.iload_n 3, 1) := by decide +kernel
theorem dX7_rowOccurs_39 : decode cX7_rowOccurs 39 = .ok (.aload_n 1, 1) := by decide +kernel
theorem dX7_rowOccurs_40 : decode cX7_rowOccurs 40 = .ok (.iload_n 2, 1) := by decide +kernel
theorem dX7_rowOccurs_41 : decode cX7_rowOccurs 41 = .ok (.iload_n 3, 1) := by decide +kernel
theorem dX7_rowOccurs_42 : decode cX7_rowOccurs 42 = .ok (.iadd, 1) := by decide +kernel
theorem dX7_rowOccurs_43 : decode cX7_rowOccurs 43 = .ok (.invokevirtual 141, 3) := by decide +kernel
theorem dX7_rowOccurs_46 : decode cX7_rowOccurs 46 = .ok (.ifCond .ne 5, 3) := by decide +kernel
theorem dX7_rowOccurs_49 : decode cX7_rowOccurs 49 = .ok (.iconst 0, 1) := by decide +kernel
theorem dX7_rowOccurs_50 : decode cX7_rowOccurs 50 = .ok (.ireturn, 1) := by decide +kernel
theorem dX7_rowOccurs_51 : decode cX7_rowOccurs 51 = .ok (.iinc 3 1, 3) := by decide +kernel
theorem dX7_rowOccurs_54 : decode cX7_rowOccurs 54 = .ok (.goto (-52), 3) := by decide +kernel
theorem dX7_rowOccurs_57 : decode cX7_rowOccurs 57 = .ok (.iconst 1, 1) := by decide +kernel
theorem dX7_rowOccurs_58 : decode cX7_rowOccurs 58 = .ok (.ireturn, 1) := by decide +kernel
theorem dX9_init_0 : decode cX9_init 0 = .ok (.aload_n 0, 1) := by decide +kernel
theorem dX9_init_1 : decode cX9_init 1 = .ok (.invokespecial 3, 3) := by decide +kernel
theorem dX9_init_4 : decode cX9_init 4 = .ok (.aload_n 0, 1) := by decide +kernel
theorem dX9_init_5 : decode cX9_init 5 = .ok (.iconst 5, 1) := by decide +kernel
theorem dX9_init_6 : decode cX9_init 6 = .ok (.newarray .int, 2) := by decide +kernel
theorem dX9_init_8 : decode cX9_init 8 = .ok (.putfield 9, 3) := by decide +kernel
theorem dX9_init_11 : decode cX9_init 11 = .ok (.aload_n 0, 1) := by decide +kernel
theorem dX9_init_12 : decode cX9_init 12 = .ok (.bipush 30, 2) := by decide +kernel
theorem dX9_init_14 : decode cX9_init 14 = .ok (.newarray .int, 2) := by decide +kernel
theorem dX9_init_16 : decode cX9_init 16 = .ok (.putfield 15, 3) := by decide +kernel
theorem dX9_init_19 : decode cX9_init 19 = .ok (.aload_n 0, 1) := by decide +kernel
theorem dX9_init_20 : decode cX9_init 20 = .ok (.bipush 31, 2) := by decide +kernel
theorem dX9_init_22 : decode cX9_init 22 = .ok (.anewarray 18, 3) := by decide +kernel
theorem dX9_init_25 : decode cX9_init 25 = .ok (.putfield 20, 3) := by decide +kernel
theorem dX9_init_28 : decode cX9_init 28 = .ok (.aload_n 0, 1) := by decide +kernel
theorem dX9_init_29 : decode cX9_init 29 = .ok (.getfield 9, 3) := by decide +kernel
theorem dX9_init_32 : decode cX9_init 32 = .ok (.iconst (-1), 1) := by decide +kernel
theorem dX9_init_33 : decode cX9_init 33 = .ok (.invokestatic 24, 3) := by decide +kernel
theorem dX9_init_36 : decode cX9_init 36 = .ok (.aload_n 0, 1) := by decide +kernel
theorem dX9_init_37 : decode cX9_init 37 = .ok (.getfield 15, 3) := by decide +kernel
theorem dX9_init_40 : decode cX9_init 40 = .ok (.bipush (-14), 2) := by decide +kernel
theorem dX9_init_42 : decode cX9_init 42 = .ok (.invokestatic 24, 3) := by decide +kernel
theorem dX9_init_45 : decode cX9_init 45 = .ok (.iconst 0, 1) := by decide +kernel
theorem dX9_init_46 : decode cX9_init 46 = .ok (.istore_n 1, 1) := by decide +kernel
theorem dX9_init_47 : decode cX9_init 47 = .ok (.iload_n 1, 1) := by decide +kernel
theorem dX9_init_48 : decode cX9_init 48 = .ok (.bipush 31, 2) := by decide +kernel
theorem dX9_init_50 : decode cX9_init 50 = .ok (.if_icmp .ge 23, 3) := by decide +kernel
theorem dX9_init_53 : decode cX9_init 53 = .ok (.aload_n 0, 1) := by decide +kernel
theorem dX9_init_54 : decode cX9_init 54 = .ok (.getfield 20, 3) := by decide +kernel
theorem dX9_init_57 : decode cX9_init 57 = .ok (.iload_n 1, 1) := by decide +kernel
theorem dX9_init_58 : decode cX9_init 58 = .ok (.new 18, 3) := by decide +kernel
theorem dX9_init_61 : decode cX9_init 61 = .ok (.dup, 1) := by decide +kernel
theorem dX9_init_62 : decode cX9_init 62 = .ok (.iload_n 1, 1) := by decide +kernel
theorem dX9_init_63 : decode cX9_init 63 = .ok (.invokespecial 30, 3) := by decide +kernel
theorem dX9_init_66 : decode cX9_init 66 = .ok (.aastore, 1) := by decide +kernel
theorem dX9_init_67 : decode cX9_init 67 = .ok (.iinc 1 1, 3) := by decide +kernel
theorem dX9_init_70 : decode cX9_init 70 = .ok (.goto (-23), 3) := by decide +kernel
theorem dX9_init_73 : decode cX9_init 73 = .ok (.return_, 1) := by decide +kernel
theorem dX9_copyFrom_0 : decode cX9_copyFrom 0 = .ok (.aload_n 1, 1) := by decide +kernel
theorem dX9_copyFrom_1 : decode cX9_copyFrom 1 = .ok (.getfield 9, 3) := by decide +kernel
theorem dX9_copyFrom_4 : decode cX9_copyFrom 4 = .ok (.iconst 0, 1) := by decide +kernel
theorem dX9_copyFrom_5 : decode cX9_copyFrom 5 = .ok (.aload_n 0, 1) := by decide +kernel
theorem dX9_copyFrom_6 : decode cX9_copyFrom 6 = .ok (.getfield 9, 3) := by decide +kernel
theorem dX9_copyFrom_9 : decode cX9_copyFrom 9 = .ok (.iconst 0, 1) := by decide +kernel
theorem dX9_copyFrom_10 : decode cX9_copyFrom 10 = .ok (.aload_n 0, 1) := by decide +kernel
theorem dX9_copyFrom_11 : decode cX9_copyFrom 11 = .ok (.getfield 9, 3) := by decide +kernel
theorem dX9_copyFrom_14 : decode cX9_copyFrom 14 = .ok (.arraylength, 1) := by decide +kernel
theorem dX9_copyFrom_15 : decode cX9_copyFrom 15 = .ok (.invokestatic 33, 3) := by decide +kernel
theorem dX9_copyFrom_18 : decode cX9_copyFrom 18 = .ok (.aload_n 1, 1) := by decide +kernel
theorem dX9_copyFrom_19 : decode cX9_copyFrom 19 = .ok (.getfield 15, 3) := by decide +kernel
theorem dX9_copyFrom_22 : decode cX9_copyFrom 22 = .ok (.iconst 0, 1) := by decide +kernel
theorem dX9_copyFrom_23 : decode cX9_copyFrom 23 = .ok (.aload_n 0, 1) := by decide +kernel
theorem dX9_copyFrom_24 : decode cX9_copyFrom 24 = .ok (.getfield 15, 3) := by decide +kernel
theorem dX9_copyFrom_27 : decode cX9_copyFrom 27 = .ok (.iconst 0, 1) := by decide +kernel
theorem dX9_copyFrom_28 : decode cX9_copyFrom 28 = .ok (.aload_n 0, 1) := by decide +kernel
theorem dX9_copyFrom_29 : decode cX9_copyFrom 29 = .ok (.getfield 15, 3) := by decide +kernel
theorem dX9_copyFrom_32 : decode cX9_copyFrom 32 = .ok (.arraylength, 1) := by decide +kernel
theorem dX9_copyFrom_33 : decode cX9_copyFrom 33 = .ok (.invokestatic 33, 3) := by decide +kernel
theorem dX9_copyFrom_36 : decode cX9_copyFrom 36 = .ok (.iconst 0, 1) := by decide +kernel
theorem dX9_copyFrom_37 : decode cX9_copyFrom 37 = .ok (.istore_n 2, 1) := by decide +kernel
theorem dX9_copyFrom_38 : decode cX9_copyFrom 38 = .ok (.iload_n 2, 1) := by decide +kernel
theorem dX9_copyFrom_39 : decode cX9_copyFrom 39 = .ok (.bipush 31, 2) := by decide +kernel
theorem dX9_copyFrom_41 : decode cX9_copyFrom 41 = .ok (.if_icmp .ge 24, 3) := by decide +kernel
theorem dX9_copyFrom_44 : decode cX9_copyFrom 44 = .ok (.aload_n 0, 1) := by decide +kernel
theorem dX9_copyFrom_45 : decode cX9_copyFrom 45 = .ok (.getfield 20, 3) := by decide +kernel
theorem dX9_copyFrom_48 : decode cX9_copyFrom 48 = .ok (.iload_n 2, 1) := by decide +kernel
theorem dX9_copyFrom_49 : decode cX9_copyFrom 49 = .ok (.aaload, 1) := by decide +kernel
theorem dX9_copyFrom_50 : decode cX9_copyFrom 50 = .ok (.aload_n 1, 1) := by decide +kernel
theorem dX9_copyFrom_51 : decode cX9_copyFrom 51 = .ok (.getfield 20, 3) := by decide +kernel
theorem dX9_copyFrom_54 : decode cX9_copyFrom 54 = .ok (.iload_n 2, 1) := by decide +kernel
theorem dX9_copyFrom_55 : decode cX9_copyFrom 55 = .ok (.aaload, 1) := by decide +kernel
theorem dX9_copyFrom_56 : decode cX9_copyFrom 56 = .ok (.invokevirtual 39, 3) := by decide +kernel
theorem dX9_copyFrom_59 : decode cX9_copyFrom 59 = .ok (.iinc 2 1, 3) := by decide +kernel
theorem dX9_copyFrom_62 : decode cX9_copyFrom 62 = .ok (.goto (-24), 3) := by decide +kernel
theorem dX9_copyFrom_65 : decode cX9_copyFrom 65 = .ok (.return_, 1) := by decide +kernel
theorem dX9_hasPlace_0 : decode cX9_hasPlace 0 = .ok (.iload_n 1, 1) := by decide +kernel
theorem dX9_hasPlace_1 : decode cX9_hasPlace 1 = .ok (.ifCond .lt 26, 3) := by decide +kernel
theorem dX9_hasPlace_4 : decode cX9_hasPlace 4 = .ok (.iload_n 1, 1) := by decide +kernel
theorem dX9_hasPlace_5 : decode cX9_hasPlace 5 = .ok (.iconst 4, 1) := by decide +kernel
theorem dX9_hasPlace_6 : decode cX9_hasPlace 6 = .ok (.if_icmp .ge 21, 3) := by decide +kernel
theorem dX9_hasPlace_9 : decode cX9_hasPlace 9 = .ok (.iload_n 2, 1) := by decide +kernel
theorem dX9_hasPlace_10 : decode cX9_hasPlace 10 = .ok (.ifCond .lt 17, 3) := by decide +kernel
theorem dX9_hasPlace_13 : decode cX9_hasPlace 13 = .ok (.iload_n 2, 1) := by decide +kernel
theorem dX9_hasPlace_14 : decode cX9_hasPlace 14 = .ok (.aload_n 0, 1) := by decide +kernel
theorem dX9_hasPlace_15 : decode cX9_hasPlace 15 = .ok (.getfield 9, 3) := by decide +kernel
theorem dX9_hasPlace_18 : decode cX9_hasPlace 18 = .ok (.iload_n 1, 1) := by decide +kernel
theorem dX9_hasPlace_19 : decode cX9_hasPlace 19 = .ok (.iaload, 1) := by decide +kernel
theorem dX9_hasPlace_20 : decode cX9_hasPlace 20 = .ok (.if_icmp .ge 7, 3) := by decide +kernel
theorem dX9_hasPlace_23 : decode cX9_hasPlace 23 = .ok (.iconst 1, 1) := by decide +kernel
theorem dX9_hasPlace_24 : decode cX9_hasPlace 24 = .ok (.goto 4, 3) := by decide +kernel
theorem dX9_hasPlace_27 : decode cX9_hasPlace 27 = .ok (.iconst 0, 1) := by decide +kernel
theorem dX9_hasPlace_28 : decode cX9_hasPlace 28 = .ok (.ireturn, 1) := by decide +kernel
theorem dX9_rowAt_0 : decode cX9_rowAt 0 = .ok (.aload_n 0, 1) := by decide +kernel
theorem dX9_rowAt_1 : decode cX9_rowAt 1 = .ok (.iload_n 1, 1) := by decide +kernel
theorem dX9_rowAt_2 : decode cX9_rowAt 2 = .ok (.iload_n 2, 1) := by decide +kernel
theorem dX9_rowAt_3 : decode cX9_rowAt 3 = .ok (.invokevirtual 43, 3) := by decide +kernel
theorem dX9_rowAt_6 : decode cX9_rowAt 6 = .ok (.ifCond .ne 5, 3) := by decide +kernel
theorem dX9_rowAt_9 : decode cX9_rowAt 9 = .ok (.aconst_null, 1) := by decide +kernel
theorem dX9_rowAt_10 : decode cX9_rowAt 10 = .ok (.areturn, 1) := by decide +kernel
theorem dX9_rowAt_11 : decode cX9_rowAt 11 = .ok (.aload_n 0, 1) := by decide +kernel
theorem dX9_rowAt_12 : decode cX9_rowAt 12 = .ok (.getfield 15, 3) := by decide +kernel
theorem dX9_rowAt_15 : decode cX9_rowAt 15 = .ok (.iload_n 1, 1) := by decide +kernel
theorem dX9_rowAt_16 : decode cX9_rowAt 16 = .ok (.bipush 6, 2) := by decide +kernel
theorem dX9_rowAt_18 : decode cX9_rowAt 18 = .ok (.imul, 1) := by decide +kernel
theorem dX9_rowAt_19 : decode cX9_rowAt 19 = .ok (.iload_n 2, 1) := by decide +kernel
theorem dX9_rowAt_20 : decode cX9_rowAt 20 = .ok (.iadd, 1) := by decide +kernel
theorem dX9_rowAt_21 : decode cX9_rowAt 21 = .ok (.iaload, 1) := by decide +kernel
theorem dX9_rowAt_22 : decode cX9_rowAt 22 = .ok (.istore_n 3, 1) := by decide +kernel
theorem dX9_rowAt_23 : decode cX9_rowAt 23 = .ok (.iload_n 3, 1) := by decide +kernel
theorem dX9_rowAt_24 : decode cX9_rowAt 24 = .ok (.ifCond .ge 7, 3) := by decide +kernel
theorem dX9_rowAt_27 : decode cX9_rowAt 27 = .ok (.aconst_null, 1) := by decide +kernel
theorem dX9_rowAt_28 : decode cX9_rowAt 28 = .ok (.goto 9, 3) := by decide +kernel
theorem dX9_rowAt_31 : decode cX9_rowAt 31 = .ok (.aload_n 0, 1) := by decide +kernel
theorem dX9_rowAt_32 : decode cX9_rowAt 32 = .ok (.getfield 20, 3) := by decide +kernel
theorem dX9_rowAt_35 : decode cX9_rowAt 35 = .ok (.iload_n 3, 1) := by decide +kernel
theorem dX9_rowAt_36 : decode cX9_rowAt 36 = .ok (.aaload, 1) := by decide +kernel
theorem dX9_rowAt_37 : decode cX9_rowAt 37 = .ok (.areturn, 1) := by decide +kernel
theorem dX9_gridFault_0 : decode cX9_gridFault 0 = .ok (.iload_n 1, 1) := by decide +kernel
theorem dX9_gridFault_1 : decode cX9_gridFault 1 = .ok (.invokestatic 47, 3) := by decide +kernel
theorem dX9_gridFault_4 : decode cX9_gridFault 4 = .ok (.ifCond .ne 5, 3) := by decide +kernel
theorem dX9_gridFault_7 : decode cX9_gridFault 7 = .ok (.iconst (-1), 1) := by decide +kernel
theorem dX9_gridFault_8 : decode cX9_gridFault 8 = .ok (.ireturn, 1) := by decide +kernel
theorem dX9_gridFault_9 : decode cX9_gridFault 9 = .ok (.aload_n 0, 1) := by decide +kernel
theorem dX9_gridFault_10 : decode cX9_gridFault 10 = .ok (.getfield 9, 3) := by decide +kernel
theorem dX9_gridFault_13 : decode cX9_gridFault 13 = .ok (.iload_n 1, 1) := by decide +kernel
theorem dX9_gridFault_14 : decode cX9_gridFault 14 = .ok (.iaload, 1) := by decide +kernel
theorem dX9_gridFault_15 : decode cX9_gridFault 15 = .ok (.ifCond .ge 8, 3) := by decide +kernel
theorem dX9_gridFault_18 : decode cX9_gridFault 18 = .ok (.bipush (-2), 2) := by decide +kernel
theorem dX9_gridFault_20 : decode cX9_gridFault 20 = .ok (.goto 4, 3) := by decide +kernel
theorem dX9_gridFault_23 : decode cX9_gridFault 23 = .ok (.iconst 0, 1) := by decide +kernel
theorem dX9_gridFault_24 : decode cX9_gridFault 24 = .ok (.ireturn, 1) := by decide +kernel
theorem dX9_placeFault_0 : decode cX9_placeFault 0 = .ok (.aload_n 0, 1) := by decide +kernel
theorem dX9_placeFault_1 : decode cX9_placeFault 1 = .ok (.iload_n 1, 1) := by decide +kernel
theorem dX9_placeFault_2 : decode cX9_placeFault 2 = .ok (.invokevirtual 51, 3) := by decide +kernel
theorem dX9_placeFault_5 : decode cX9_placeFault 5 = .ok (.istore_n 3, 1) := by decide +kernel
theorem dX9_placeFault_6 : decode cX9_placeFault 6 = .ok (.iload_n 3, 1) := by decide +kernel
theorem dX9_placeFault_7 : decode cX9_placeFault 7 = .ok (.ifCond .ge 5, 3) := by decide +kernel
theorem dX9_placeFault_10 : decode cX9_placeFault 10 = .ok (.iload_n 3, 1) := by decide +kernel
theorem dX9_placeFault_11 : decode cX9_placeFault 11 = .ok (.ireturn, 1) := by decide +kernel
theorem dX9_placeFault_12 : decode cX9_placeFault 12 = .ok (.aload_n 0, 1) := by decide +kernel
theorem dX9_placeFault_13 : decode cX9_placeFault 13 = .ok (.iload_n 1, 1) := by decide +kernel
theorem dX9_placeFault_14 : decode cX9_placeFault 14 = .ok (.iload_n 2, 1) := by decide +kernel
theorem dX9_placeFault_15 : decode cX9_placeFault 15 = .ok (.invokevirtual 43, 3) := by decide +kernel
theorem dX9_placeFault_18 : decode cX9_placeFault 18 = .ok (.ifCond .eq 7, 3) := by decide +kernel
theorem dX9_placeFault_21 : decode cX9_placeFault 21 = .ok (.iconst 0, 1) := by decide +kernel
theorem dX9_placeFault_22 : decode cX9_placeFault 22 = .ok (.goto 5, 3) := by decide +kernel
theorem dX9_placeFault_25 : decode cX9_placeFault 25 = .ok (.bipush (-3), 2) := by decide +kernel
theorem dX9_placeFault_27 : decode cX9_placeFault 27 = .ok (.ireturn, 1) := by decide +kernel
theorem dX9_rowFault_0 : decode cX9_rowFault 0 = .ok (.aload_n 0, 1) := by decide +kernel
theorem dX9_rowFault_1 : decode cX9_rowFault 1 = .ok (.iload_n 1, 1) := by decide +kernel
theorem dX9_rowFault_2 : decode cX9_rowFault 2 = .ok (.iload_n 2, 1) := by decide +kernel
theorem dX9_rowFault_3 : decode cX9_rowFault 3 = .ok (.invokevirtual 55, 3) := by decide +kernel
theorem dX9_rowFault_6 : decode cX9_rowFault 6 = .ok (.istore_n 3, 1) := by decide +kernel
theorem dX9_rowFault_7 : decode cX9_rowFault 7 = .ok (.iload_n 3, 1) := by decide +kernel
theorem dX9_rowFault_8 : decode cX9_rowFault 8 = .ok (.ifCond .ge 5, 3) := by decide +kernel
theorem dX9_rowFault_11 : decode cX9_rowFault 11 = .ok (.iload_n 3, 1) := by decide +kernel
theorem dX9_rowFault_12 : decode cX9_rowFault 12 = .ok (.ireturn, 1) := by decide +kernel
theorem dX9_rowFault_13 : decode cX9_rowFault 13 = .ok (.aload_n 0, 1) := by decide +kernel
theorem dX9_rowFault_14 : decode cX9_rowFault 14 = .ok (.getfield 15, 3) := by decide +kernel
theorem dX9_rowFault_17 : decode cX9_rowFault 17 = .ok (.iload_n 1, 1) := by decide +kernel
theorem dX9_rowFault_18 : decode cX9_rowFault 18 = .ok (.bipush 6, 2) := by decide +kernel
theorem dX9_rowFault_20 : decode cX9_rowFault 20 = .ok (.imul, 1) := by decide +kernel
theorem dX9_rowFault_21 : decode cX9_rowFault 21 = .ok (.iload_n 2, 1) := by decide +kernel
theorem dX9_rowFault_22 : decode cX9_rowFault 22 = .ok (.iadd, 1) := by decide +kernel
theorem dX9_rowFault_23 : decode cX9_rowFault 23 = .ok (.iaload, 1) := by decide +kernel
theorem dX9_rowFault_24 : decode cX9_rowFault 24 = .ok (.bipush (-14), 2) := by decide +kernel
theorem dX9_rowFault_26 : decode cX9_rowFault 26 = .ok (.if_icmp .ne 8, 3) := by decide +kernel
theorem dX9_rowFault_29 : decode cX9_rowFault 29 = .ok (.bipush (-4), 2) := by decide +kernel
theorem dX9_rowFault_31 : decode cX9_rowFault 31 = .ok (.goto 5, 3) := by decide +kernel
theorem dX9_rowFault_34 : decode cX9_rowFault 34 = .ok (.bipush (-5), 2) := by decide +kernel
theorem dX9_rowFault_36 : decode cX9_rowFault 36 = .ok (.ireturn, 1) := by decide +kernel
theorem dX9_firstHolder_0 : decode cX9_firstHolder 0 = .ok (.iconst 0, 1) := by decide +kernel
theorem dX9_firstHolder_1 : decode cX9_firstHolder 1 = .ok (.istore_n 2, 1) := by decide +kernel
theorem dX9_firstHolder_2 : decode cX9_firstHolder 2 = .ok (.iload_n 2, 1) := by decide +kernel
theorem dX9_firstHolder_3 : decode cX9_firstHolder 3 = .ok (.aload_n 0, 1) := by decide +kernel
theorem dX9_firstHolder_4 : decode cX9_firstHolder 4 = .ok (.getfield 15, 3) := by decide +kernel
theorem dX9_firstHolder_7 : decode cX9_firstHolder 7 = .ok (.arraylength, 1) := by decide +kernel
theorem dX9_firstHolder_8 : decode cX9_firstHolder 8 = .ok (.if_icmp .ge 21, 3) := by decide +kernel
theorem dX9_firstHolder_11 : decode cX9_firstHolder 11 = .ok (.aload_n 0, 1) := by decide +kernel
theorem dX9_firstHolder_12 : decode cX9_firstHolder 12 = .ok (.getfield 15, 3) := by decide +kernel
theorem dX9_firstHolder_15 : decode cX9_firstHolder 15 = .ok (.iload_n 2, 1) := by decide +kernel
theorem dX9_firstHolder_16 : decode cX9_firstHolder 16 = .ok (.iaload, 1) := by decide +kernel
theorem dX9_firstHolder_17 : decode cX9_firstHolder 17 = .ok (.iload_n 1, 1) := by decide +kernel
theorem dX9_firstHolder_18 : decode cX9_firstHolder 18 = .ok (.if_icmp .ne 5, 3) := by decide +kernel
theorem dX9_firstHolder_21 : decode cX9_firstHolder 21 = .ok (.iload_n 2, 1) := by decide +kernel
theorem dX9_firstHolder_22 : decode cX9_firstHolder 22 = .ok (.ireturn, 1) := by decide +kernel
theorem dX9_firstHolder_23 : decode cX9_firstHolder 23 = .ok (.iinc 2 1, 3) := by decide +kernel
theorem dX9_firstHolder_26 : decode cX9_firstHolder 26 = .ok (.goto (-24), 3) := by decide +kernel
theorem dX9_firstHolder_29 : decode cX9_firstHolder 29 = .ok (.bipush (-9), 2) := by decide +kernel
theorem dX9_firstHolder_31 : decode cX9_firstHolder 31 = .ok (.ireturn, 1) := by decide +kernel
theorem dX9_freshRow_0 : decode cX9_freshRow 0 = .ok (.iconst 0, 1) := by decide +kernel
theorem dX9_freshRow_1 : decode cX9_freshRow 1 = .ok (.istore_n 3, 1) := by decide +kernel
theorem dX9_freshRow_2 : decode cX9_freshRow 2 = .ok (.iload_n 3, 1) := by decide +kernel
theorem dX9_freshRow_3 : decode cX9_freshRow 3 = .ok (.bipush 30, 2) := by decide +kernel
theorem dX9_freshRow_5 : decode cX9_freshRow 5 = .ok (.if_icmp .ge 19, 3) := by decide +kernel
theorem dX9_freshRow_8 : decode cX9_freshRow 8 = .ok (.aload_n 0, 1) := by decide +kernel
theorem dX9_freshRow_9 : decode cX9_freshRow 9 = .ok (.iload_n 3, 1) := by decide +kernel
theorem dX9_freshRow_10 : decode cX9_freshRow 10 = .ok (.invokevirtual 59, 3) := by decide +kernel
theorem dX9_freshRow_13 : decode cX9_freshRow 13 = .ok (.bipush (-9), 2) := by decide +kernel
theorem dX9_freshRow_15 : decode cX9_freshRow 15 = .ok (.if_icmp .eq 9, 3) := by decide +kernel
theorem dX9_freshRow_18 : decode cX9_freshRow 18 = .ok (.iinc 3 1, 3) := by decide +kernel
theorem dX9_freshRow_21 : decode cX9_freshRow 21 = .ok (.goto (-19), 3) := by decide +kernel
theorem dX9_freshRow_24 : decode cX9_freshRow 24 = .ok (.aload_n 0, 1) := by decide +kernel
theorem dX9_freshRow_25 : decode cX9_freshRow 25 = .ok (.getfield 20, 3) := by decide +kernel
theorem dX9_freshRow_28 : decode cX9_freshRow 28 = .ok (.iload_n 3, 1) := by decide +kernel
theorem dX9_freshRow_29 : decode cX9_freshRow 29 = .ok (.aaload, 1) := by decide +kernel
theorem dX9_freshRow_30 : decode cX9_freshRow 30 = .ok (.iload_n 1, 1) := by decide +kernel
theorem dX9_freshRow_31 : decode cX9_freshRow 31 = .ok (.iload_n 2, 1) := by decide +kernel
theorem dX9_freshRow_32 : decode cX9_freshRow 32 = .ok (.invokevirtual 62, 3) := by decide +kernel
theorem dX9_freshRow_35 : decode cX9_freshRow 35 = .ok (.aload_n 0, 1) := by decide +kernel
theorem dX9_freshRow_36 : decode cX9_freshRow 36 = .ok (.getfield 20, 3) := by decide +kernel
theorem dX9_freshRow_39 : decode cX9_freshRow 39 = .ok (.iload_n 3, 1) := by decide +kernel
theorem dX9_freshRow_40 : decode cX9_freshRow 40 = .ok (.aaload, 1) := by decide +kernel
theorem dX9_freshRow_41 : decode cX9_freshRow 41 = .ok (.areturn, 1) := by decide +kernel
theorem dX9_place_0 : decode cX9_place 0 = .ok (.aload_n 0, 1) := by decide +kernel
theorem dX9_place_1 : decode cX9_place 1 = .ok (.getfield 15, 3) := by decide +kernel
theorem dX9_place_4 : decode cX9_place 4 = .ok (.iload_n 1, 1) := by decide +kernel
theorem dX9_place_5 : decode cX9_place 5 = .ok (.bipush 6, 2) := by decide +kernel
theorem dX9_place_7 : decode cX9_place 7 = .ok (.imul, 1) := by decide +kernel
theorem dX9_place_8 : decode cX9_place 8 = .ok (.iload_n 2, 1) := by decide +kernel
theorem dX9_place_9 : decode cX9_place 9 = .ok (.iadd, 1) := by decide +kernel
theorem dX9_place_10 : decode cX9_place 10 = .ok (.aload_n 3, 1) := by decide +kernel
theorem dX9_place_11 : decode cX9_place 11 = .ok (.getfield 66, 3) := by decide +kernel
theorem dX9_place_14 : decode cX9_place 14 = .ok (.iastore, 1) := by decide +kernel
theorem dX9_place_15 : decode cX9_place 15 = .ok (.return_, 1) := by decide +kernel
theorem dX9_startGrid_0 : decode cX9_startGrid 0 = .ok (.aload_n 0, 1) := by decide +kernel
theorem dX9_startGrid_1 : decode cX9_startGrid 1 = .ok (.getfield 9, 3) := by decide +kernel
theorem dX9_startGrid_4 : decode cX9_startGrid 4 = .ok (.iconst 4, 1) := by decide +kernel
theorem dX9_startGrid_5 : decode cX9_startGrid 5 = .ok (.iload_n 1, 1) := by decide +kernel
theorem dX9_startGrid_6 : decode cX9_startGrid 6 = .ok (.iastore, 1) := by decide +kernel
theorem dX9_startGrid_7 : decode cX9_startGrid 7 = .ok (.return_, 1) := by decide +kernel
theorem dX9_rowOfNewGrid_0 : decode cX9_rowOfNewGrid 0 = .ok (.aload_n 0, 1) := by decide +kernel
theorem dX9_rowOfNewGrid_1 : decode cX9_rowOfNewGrid 1 = .ok (.iload_n 2, 1) := by decide +kernel
theorem dX9_rowOfNewGrid_2 : decode cX9_rowOfNewGrid 2 = .ok (.iload_n 3, 1) := by decide +kernel
theorem dX9_rowOfNewGrid_3 : decode cX9_rowOfNewGrid 3 = .ok (.invokevirtual 70, 3) := by decide +kernel
theorem dX9_rowOfNewGrid_6 : decode cX9_rowOfNewGrid 6 = .ok (.astore 4, 2) := by decide +kernel
theorem dX9_rowOfNewGrid_8 : decode cX9_rowOfNewGrid 8 = .ok (.aload_n 0, 1) := by decide +kernel
theorem dX9_rowOfNewGrid_9 : decode cX9_rowOfNewGrid 9 = .ok (.iconst 4, 1) := by decide +kernel
theorem dX9_rowOfNewGrid_10 : decode cX9_rowOfNewGrid 10 = .ok (.iload_n 1, 1) := by decide +kernel
theorem dX9_rowOfNewGrid_11 : decode cX9_rowOfNewGrid 11 = .ok (.aload 4, 2) := by decide +kernel
theorem dX9_rowOfNewGrid_13 : decode cX9_rowOfNewGrid 13 = .ok (.invokevirtual 74, 3) := by decide +kernel
theorem dX9_rowOfNewGrid_16 : decode cX9_rowOfNewGrid 16 = .ok (.aload 4, 2) := by decide +kernel
theorem dX9_rowOfNewGrid_18 : decode cX9_rowOfNewGrid 18 = .ok (.areturn, 1) := by decide +kernel
theorem dX9_finishGrid_0 : decode cX9_finishGrid 0 = .ok (.aload_n 0, 1) := by decide +kernel
theorem dX9_finishGrid_1 : decode cX9_finishGrid 1 = .ok (.getfield 9, 3) := by decide +kernel
theorem dX9_finishGrid_4 : decode cX9_finishGrid 4 = .ok (.iload_n 1, 1) := by decide +kernel
theorem dX9_finishGrid_5 : decode cX9_finishGrid 5 = .ok (.aload_n 0, 1) := by decide +kernel
theorem dX9_finishGrid_6 : decode cX9_finishGrid 6 = .ok (.getfield 9, 3) := by decide +kernel
theorem dX9_finishGrid_9 : decode cX9_finishGrid 9 = .ok (.iconst 4, 1) := by decide +kernel
theorem dX9_finishGrid_10 : decode cX9_finishGrid 10 = .ok (.iaload, 1) := by decide +kernel
theorem dX9_finishGrid_11 : decode cX9_finishGrid 11 = .ok (.iastore, 1) := by decide +kernel
theorem dX9_finishGrid_12 : decode cX9_finishGrid 12 = .ok (.iconst 0, 1) := by decide +kernel
theorem dX9_finishGrid_13 : decode cX9_finishGrid 13 = .ok (.istore_n 2, 1) := by decide +kernel
theorem dX9_finishGrid_14 : decode cX9_finishGrid 14 = .ok (.iload_n 2, 1) := by decide +kernel
theorem dX9_finishGrid_15 : decode cX9_finishGrid 15 = .ok (.bipush 6, 2) := by decide +kernel
theorem dX9_finishGrid_17 : decode cX9_finishGrid 17 = .ok (.if_icmp .ge 40, 3) := by decide +kernel
theorem dX9_finishGrid_20 : decode cX9_finishGrid 20 = .ok (.aload_n 0, 1) := by decide +kernel
theorem dX9_finishGrid_21 : decode cX9_finishGrid 21 = .ok (.getfield 15, 3) := by decide +kernel
theorem dX9_finishGrid_24 : decode cX9_finishGrid 24 = .ok (.iload_n 1, 1) := by decide +kernel
theorem dX9_finishGrid_25 : decode cX9_finishGrid 25 = .ok (.bipush 6, 2) := by decide +kernel
theorem dX9_finishGrid_27 : decode cX9_finishGrid 27 = .ok (.imul, 1) := by decide +kernel
theorem dX9_finishGrid_28 : decode cX9_finishGrid 28 = .ok (.iload_n 2, 1) := by decide +kernel
theorem dX9_finishGrid_29 : decode cX9_finishGrid 29 = .ok (.iadd, 1) := by decide +kernel
theorem dX9_finishGrid_30 : decode cX9_finishGrid 30 = .ok (.aload_n 0, 1) := by decide +kernel
theorem dX9_finishGrid_31 : decode cX9_finishGrid 31 = .ok (.getfield 15, 3) := by decide +kernel
theorem dX9_finishGrid_34 : decode cX9_finishGrid 34 = .ok (.bipush 24, 2) := by decide +kernel
theorem dX9_finishGrid_36 : decode cX9_finishGrid 36 = .ok (.iload_n 2, 1) := by decide +kernel
theorem dX9_finishGrid_37 : decode cX9_finishGrid 37 = .ok (.iadd, 1) := by decide +kernel
theorem dX9_finishGrid_38 : decode cX9_finishGrid 38 = .ok (.iaload, 1) := by decide +kernel
theorem dX9_finishGrid_39 : decode cX9_finishGrid 39 = .ok (.iastore, 1) := by decide +kernel
theorem dX9_finishGrid_40 : decode cX9_finishGrid 40 = .ok (.aload_n 0, 1) := by decide +kernel
theorem dX9_finishGrid_41 : decode cX9_finishGrid 41 = .ok (.getfield 15, 3) := by decide +kernel
theorem dX9_finishGrid_44 : decode cX9_finishGrid 44 = .ok (.bipush 24, 2) := by decide +kernel
theorem dX9_finishGrid_46 : decode cX9_finishGrid 46 = .ok (.iload_n 2, 1) := by decide +kernel
theorem dX9_finishGrid_47 : decode cX9_finishGrid 47 = .ok (.iadd, 1) := by decide +kernel
theorem dX9_finishGrid_48 : decode cX9_finishGrid 48 = .ok (.bipush (-14), 2) := by decide +kernel
theorem dX9_finishGrid_50 : decode cX9_finishGrid 50 = .ok (.iastore, 1) := by decide +kernel
theorem dX9_finishGrid_51 : decode cX9_finishGrid 51 = .ok (.iinc 2 1, 3) := by decide +kernel
theorem dX9_finishGrid_54 : decode cX9_finishGrid 54 = .ok (.goto (-40), 3) := by decide +kernel
theorem dX9_finishGrid_57 : decode cX9_finishGrid 57 = .ok (.aload_n 0, 1) := by decide +kernel
theorem dX9_finishGrid_58 : decode cX9_finishGrid 58 = .ok (.getfield 9, 3) := by decide +kernel
theorem dX9_finishGrid_61 : decode cX9_finishGrid 61 = .ok (.iload_n 1, 1) := by decide +kernel
theorem dX9_finishGrid_62 : decode cX9_finishGrid 62 = .ok (.iaload, 1) := by decide +kernel
theorem dX9_finishGrid_63 : decode cX9_finishGrid 63 = .ok (.ireturn, 1) := by decide +kernel
theorem dX9_newGrid_0 : decode cX9_newGrid 0 = .ok (.iload_n 1, 1) := by decide +kernel
theorem dX9_newGrid_1 : decode cX9_newGrid 1 = .ok (.invokestatic 47, 3) := by decide +kernel
theorem dX9_newGrid_4 : decode cX9_newGrid 4 = .ok (.ifCond .eq 9, 3) := by decide +kernel
theorem dX9_newGrid_7 : decode cX9_newGrid 7 = .ok (.iload_n 2, 1) := by decide +kernel
theorem dX9_newGrid_8 : decode cX9_newGrid 8 = .ok (.bipush 6, 2) := by decide +kernel
theorem dX9_newGrid_10 : decode cX9_newGrid 10 = .ok (.if_icmp .le 5, 3) := by decide +kernel
theorem dX9_newGrid_13 : decode cX9_newGrid 13 = .ok (.iconst (-1), 1) := by decide +kernel
theorem dX9_newGrid_14 : decode cX9_newGrid 14 = .ok (.ireturn, 1) := by decide +kernel
theorem dX9_newGrid_15 : decode cX9_newGrid 15 = .ok (.iload_n 2, 1) := by decide +kernel
theorem dX9_newGrid_16 : decode cX9_newGrid 16 = .ok (.ifCond .ge 6, 3) := by decide +kernel
theorem dX9_newGrid_19 : decode cX9_newGrid 19 = .ok (.bipush (-8), 2) := by decide +kernel
theorem dX9_newGrid_21 : decode cX9_newGrid 21 = .ok (.ireturn, 1) := by decide +kernel
theorem dX9_newGrid_22 : decode cX9_newGrid 22 = .ok (.aload_n 0, 1) := by decide +kernel
theorem dX9_newGrid_23 : decode cX9_newGrid 23 = .ok (.iload_n 2, 1) := by decide +kernel
theorem dX9_newGrid_24 : decode cX9_newGrid 24 = .ok (.invokevirtual 78, 3) := by decide +kernel
theorem dX9_newGrid_27 : decode cX9_newGrid 27 = .ok (.aload_n 0, 1) := by decide +kernel
theorem dX9_newGrid_28 : decode cX9_newGrid 28 = .ok (.iload_n 1, 1) := by decide +kernel
theorem dX9_newGrid_29 : decode cX9_newGrid 29 = .ok (.invokevirtual 81, 3) := by decide +kernel
theorem dX9_newGrid_32 : decode cX9_newGrid 32 = .ok (.ireturn, 1) := by decide +kernel
theorem dX9_removeGrid_0 : decode cX9_removeGrid 0 = .ok (.aload_n 0, 1) := by decide +kernel
theorem dX9_removeGrid_1 : decode cX9_removeGrid 1 = .ok (.iload_n 1, 1) := by decide +kernel
theorem dX9_removeGrid_2 : decode cX9_removeGrid 2 = .ok (.invokevirtual 51, 3) := by decide +kernel
theorem dX9_removeGrid_5 : decode cX9_removeGrid 5 = .ok (.istore_n 2, 1) := by decide +kernel
theorem dX9_removeGrid_6 : decode cX9_removeGrid 6 = .ok (.iload_n 2, 1) := by decide +kernel
theorem dX9_removeGrid_7 : decode cX9_removeGrid 7 = .ok (.ifCond .ge 5, 3) := by decide +kernel
theorem dX9_removeGrid_10 : decode cX9_removeGrid 10 = .ok (.iload_n 2, 1) := by decide +kernel
theorem dX9_removeGrid_11 : decode cX9_removeGrid 11 = .ok (.ireturn, 1) := by decide +kernel
theorem dX9_removeGrid_12 : decode cX9_removeGrid 12 = .ok (.aload_n 0, 1) := by decide +kernel
theorem dX9_removeGrid_13 : decode cX9_removeGrid 13 = .ok (.getfield 9, 3) := by decide +kernel
theorem dX9_removeGrid_16 : decode cX9_removeGrid 16 = .ok (.iload_n 1, 1) := by decide +kernel
theorem dX9_removeGrid_17 : decode cX9_removeGrid 17 = .ok (.iaload, 1) := by decide +kernel
theorem dX9_removeGrid_18 : decode cX9_removeGrid 18 = .ok (.istore_n 3, 1) := by decide +kernel
theorem dX9_removeGrid_19 : decode cX9_removeGrid 19 = .ok (.aload_n 0, 1) := by decide +kernel
theorem dX9_removeGrid_20 : decode cX9_removeGrid 20 = .ok (.iconst (-1), 1) := by decide +kernel
theorem dX9_removeGrid_21 : decode cX9_removeGrid 21 = .ok (.invokevirtual 78, 3) := by decide +kernel
theorem dX9_removeGrid_24 : decode cX9_removeGrid 24 = .ok (.aload_n 0, 1) := by decide +kernel
theorem dX9_removeGrid_25 : decode cX9_removeGrid 25 = .ok (.iload_n 1, 1) := by decide +kernel
theorem dX9_removeGrid_26 : decode cX9_removeGrid 26 = .ok (.invokevirtual 81, 3) := by decide +kernel
theorem dX9_removeGrid_29 : decode cX9_removeGrid 29 = .ok (.pop, 1) := by decide +kernel
theorem dX9_removeGrid_30 : decode cX9_removeGrid 30 = .ok (.iload_n 3, 1) := by decide +kernel
theorem dX9_removeGrid_31 : decode cX9_removeGrid 31 = .ok (.ireturn, 1) := by decide +kernel
theorem dX9_newRow_0 : decode cX9_newRow 0 = .ok (.iload_n 1, 1) := by decide +kernel
theorem dX9_newRow_1 : decode cX9_newRow 1 = .ok (.invokestatic 47, 3) := by decide +kernel
theorem dX9_newRow_4 : decode cX9_newRow 4 = .ok (.ifCond .eq 17, 3) := by decide +kernel
theorem dX9_newRow_7 : decode cX9_newRow 7 = .ok (.iload_n 3, 1) := by decide +kernel
theorem dX9_newRow_8 : decode cX9_newRow 8 = .ok (.invokestatic 84, 3) := by decide +kernel
theorem dX9_newRow_11 : decode cX9_newRow 11 = .ok (.ifCond .eq 10, 3) := by decide +kernel
theorem dX9_newRow_14 : decode cX9_newRow 14 = .ok (.iload 4, 2) := by decide +kernel
theorem dX9_newRow_16 : decode cX9_newRow 16 = .ok (.bipush 12, 2) := by decide +kernel
theorem dX9_newRow_18 : decode cX9_newRow 18 = .ok (.if_icmp .le 5, 3) := by decide +kernel
theorem dX9_newRow_21 : decode cX9_newRow 21 = .ok (.iconst (-1), 1) := by decide +kernel
theorem dX9_newRow_22 : decode cX9_newRow 22 = .ok (.ireturn, 1) := by decide +kernel
theorem dX9_newRow_23 : decode cX9_newRow 23 = .ok (.aload_n 0, 1) := by decide +kernel
theorem dX9_newRow_24 : decode cX9_newRow 24 = .ok (.iload_n 1, 1) := by decide +kernel
theorem dX9_newRow_25 : decode cX9_newRow 25 = .ok (.iload_n 2, 1) := by decide +kernel
theorem dX9_newRow_26 : decode cX9_newRow 26 = .ok (.invokevirtual 55, 3) := by decide +kernel
theorem dX9_newRow_29 : decode cX9_newRow 29 = .ok (.istore 5, 2) := by decide +kernel
theorem dX9_newRow_31 : decode cX9_newRow 31 = .ok (.iload 5, 2) := by decide +kernel
theorem dX9_newRow_33 : decode cX9_newRow 33 = .ok (.ifCond .ge 6, 3) := by decide +kernel
theorem dX9_newRow_36 : decode cX9_newRow 36 = .ok (.iload 5, 2) := by decide +kernel
theorem dX9_newRow_38 : decode cX9_newRow 38 = .ok (.ireturn, 1) := by decide +kernel
theorem dX9_newRow_39 : decode cX9_newRow 39 = .ok (.iload 4, 2) := by decide +kernel
theorem dX9_newRow_41 : decode cX9_newRow 41 = .ok (.ifCond .ge 6, 3) := by decide +kernel
theorem dX9_newRow_44 : decode cX9_newRow 44 = .ok (.bipush (-8), 2) := by decide +kernel
theorem dX9_newRow_46 : decode cX9_newRow 46 = .ok (.ireturn, 1) := by decide +kernel
theorem dX9_newRow_47 : decode cX9_newRow 47 = .ok (.aload_n 0, 1) := by decide +kernel
theorem dX9_newRow_48 : decode cX9_newRow 48 = .ok (.iload_n 1, 1) := by decide +kernel
theorem dX9_newRow_49 : decode cX9_newRow 49 = .ok (.iload_n 2, 1) := by decide +kernel
theorem dX9_newRow_50 : decode cX9_newRow 50 = .ok (.aload_n 0, 1) := by decide +kernel
theorem dX9_newRow_51 : decode cX9_newRow 51 = .ok (.iload_n 3, 1) := by decide +kernel
theorem dX9_newRow_52 : decode cX9_newRow 52 = .ok (.iload 4, 2) := by decide +kernel
theorem dX9_newRow_54 : decode cX9_newRow 54 = .ok (.invokevirtual 70, 3) := by decide +kernel
theorem dX9_newRow_57 : decode cX9_newRow 57 = .ok (.invokevirtual 74, 3) := by decide +kernel
theorem dX9_newRow_60 : decode cX9_newRow 60 = .ok (.iload 4, 2) := by decide +kernel
theorem dX9_newRow_62 : decode cX9_newRow 62 = .ok (.ireturn, 1) := by decide +kernel
theorem dX9_setThing_0 : decode cX9_setThing 0 = .ok (.iload_n 1, 1) := by decide +kernel
theorem dX9_setThing_1 : decode cX9_setThing 1 = .ok (.invokestatic 47, 3) := by decide +kernel
theorem dX9_setThing_4 : decode cX9_setThing 4 = .ok (.ifCond .eq 12, 3) := by decide +kernel
theorem dX9_setThing_7 : decode cX9_setThing 7 = .ok (.iload_n 3, 1) := by decide +kernel
theorem dX9_setThing_8 : decode cX9_setThing 8 = .ok (.ifCond .lt 8, 3) := by decide +kernel
theorem dX9_setThing_11 : decode cX9_setThing 11 = .ok (.iload_n 3, 1) := by decide +kernel
theorem dX9_setThing_12 : decode cX9_setThing 12 = .ok (.iconst 2, 1) := by decide +kernel
theorem dX9_setThing_13 : decode cX9_setThing 13 = .ok (.if_icmp .le 5, 3) := by decide +kernel
theorem dX9_setThing_16 : decode cX9_setThing 16 = .ok (.iconst (-1), 1) := by decide +kernel
theorem dX9_setThing_17 : decode cX9_setThing 17 = .ok (.ireturn, 1) := by decide +kernel
theorem dX9_setThing_18 : decode cX9_setThing 18 = .ok (.aload_n 0, 1) := by decide +kernel
theorem dX9_setThing_19 : decode cX9_setThing 19 = .ok (.iload_n 1, 1) := by decide +kernel
theorem dX9_setThing_20 : decode cX9_setThing 20 = .ok (.iload_n 2, 1) := by decide +kernel
theorem dX9_setThing_21 : decode cX9_setThing 21 = .ok (.invokevirtual 55, 3) := by decide +kernel
theorem dX9_setThing_24 : decode cX9_setThing 24 = .ok (.istore 4, 2) := by decide +kernel
theorem dX9_setThing_26 : decode cX9_setThing 26 = .ok (.iload 4, 2) := by decide +kernel
theorem dX9_setThing_28 : decode cX9_setThing 28 = .ok (.ifCond .ge 6, 3) := by decide +kernel
theorem dX9_setThing_31 : decode cX9_setThing 31 = .ok (.iload 4, 2) := by decide +kernel
theorem dX9_setThing_33 : decode cX9_setThing 33 = .ok (.ireturn, 1) := by decide +kernel
theorem dX9_setThing_34 : decode cX9_setThing 34 = .ok (.aload_n 0, 1) := by decide +kernel
theorem dX9_setThing_35 : decode cX9_setThing 35 = .ok (.getfield 15, 3) := by decide +kernel
theorem dX9_setThing_38 : decode cX9_setThing 38 = .ok (.iload_n 1, 1) := by decide +kernel
theorem dX9_setThing_39 : decode cX9_setThing 39 = .ok (.bipush 6, 2) := by decide +kernel
theorem dX9_setThing_41 : decode cX9_setThing 41 = .ok (.imul, 1) := by decide +kernel
theorem dX9_setThing_42 : decode cX9_setThing 42 = .ok (.iload_n 2, 1) := by decide +kernel
theorem dX9_setThing_43 : decode cX9_setThing 43 = .ok (.iadd, 1) := by decide +kernel
theorem dX9_setThing_44 : decode cX9_setThing 44 = .ok (.iload_n 3, 1) := by decide +kernel
theorem dX9_setThing_45 : decode cX9_setThing 45 = .ok (.ifCond .ne 8, 3) := by decide +kernel
theorem dX9_setThing_48 : decode cX9_setThing 48 = .ok (.bipush (-14), 2) := by decide +kernel
theorem dX9_setThing_50 : decode cX9_setThing 50 = .ok (.goto 15, 3) := by decide +kernel
theorem dX9_setThing_53 : decode cX9_setThing 53 = .ok (.iload_n 3, 1) := by decide +kernel
theorem dX9_setThing_54 : decode cX9_setThing 54 = .ok (.iconst 1, 1) := by decide +kernel
theorem dX9_setThing_55 : decode cX9_setThing 55 = .ok (.if_icmp .ne 8, 3) := by decide +kernel
theorem dX9_setThing_58 : decode cX9_setThing 58 = .ok (.bipush (-12), 2) := by decide +kernel
theorem dX9_setThing_60 : decode cX9_setThing 60 = .ok (.goto 5, 3) := by decide +kernel
theorem dX9_setThing_63 : decode cX9_setThing 63 = .ok (.bipush (-13), 2) := by decide +kernel
theorem dX9_setThing_65 : decode cX9_setThing 65 = .ok (.iastore, 1) := by decide +kernel
theorem dX9_setThing_66 : decode cX9_setThing 66 = .ok (.iconst 1, 1) := by decide +kernel
theorem dX9_setThing_67 : decode cX9_setThing 67 = .ok (.ireturn, 1) := by decide +kernel
theorem dX9_pairFault_0 : decode cX9_pairFault 0 = .ok (.iload_n 1, 1) := by decide +kernel
theorem dX9_pairFault_1 : decode cX9_pairFault 1 = .ok (.invokestatic 47, 3) := by decide +kernel
theorem dX9_pairFault_4 : decode cX9_pairFault 4 = .ok (.ifCond .eq 10, 3) := by decide +kernel
theorem dX9_pairFault_7 : decode cX9_pairFault 7 = .ok (.iload_n 3, 1) := by decide +kernel
theorem dX9_pairFault_8 : decode cX9_pairFault 8 = .ok (.invokestatic 47, 3) := by decide +kernel
theorem dX9_pairFault_11 : decode cX9_pairFault 11 = .ok (.ifCond .ne 5, 3) := by decide +kernel
theorem dX9_pairFault_14 : decode cX9_pairFault 14 = .ok (.iconst (-1), 1) := by decide +kernel
theorem dX9_pairFault_15 : decode cX9_pairFault 15 = .ok (.ireturn, 1) := by decide +kernel
theorem dX9_pairFault_16 : decode cX9_pairFault 16 = .ok (.aload_n 0, 1) := by decide +kernel
theorem dX9_pairFault_17 : decode cX9_pairFault 17 = .ok (.iload_n 1, 1) := by decide +kernel
theorem dX9_pairFault_18 : decode cX9_pairFault 18 = .ok (.iload_n 2, 1) := by decide +kernel
theorem dX9_pairFault_19 : decode cX9_pairFault 19 = .ok (.invokevirtual 55, 3) := by decide +kernel
theorem dX9_pairFault_22 : decode cX9_pairFault 22 = .ok (.istore 5, 2) := by decide +kernel
theorem dX9_pairFault_24 : decode cX9_pairFault 24 = .ok (.iload 5, 2) := by decide +kernel
theorem dX9_pairFault_26 : decode cX9_pairFault 26 = .ok (.ifCond .ge 8, 3) := by decide +kernel
theorem dX9_pairFault_29 : decode cX9_pairFault 29 = .ok (.iload 5, 2) := by decide +kernel
theorem dX9_pairFault_31 : decode cX9_pairFault 31 = .ok (.goto 10, 3) := by decide +kernel
theorem dX9_pairFault_34 : decode cX9_pairFault 34 = .ok (.aload_n 0, 1) := by decide +kernel
theorem dX9_pairFault_35 : decode cX9_pairFault 35 = .ok (.iload_n 3, 1) := by decide +kernel
theorem dX9_pairFault_36 : decode cX9_pairFault 36 = .ok (.iload 4, 2) := by decide +kernel
theorem dX9_pairFault_38 : decode cX9_pairFault 38 = .ok (.invokevirtual 55, 3) := by decide +kernel
theorem dX9_pairFault_41 : decode cX9_pairFault 41 = .ok (.ireturn, 1) := by decide +kernel
theorem dX9_shareContent_0 : decode cX9_shareContent 0 = .ok (.aload_n 0, 1) := by decide +kernel
theorem dX9_shareContent_1 : decode cX9_shareContent 1 = .ok (.iload_n 1, 1) := by decide +kernel
theorem dX9_shareContent_2 : decode cX9_shareContent 2 = .ok (.iload_n 2, 1) := by decide +kernel
theorem dX9_shareContent_3 : decode cX9_shareContent 3 = .ok (.iload_n 3, 1) := by decide +kernel
theorem dX9_shareContent_4 : decode cX9_shareContent 4 = .ok (.iload 4, 2) := by decide +kernel
theorem dX9_shareContent_6 : decode cX9_shareContent 6 = .ok (.invokevirtual 87, 3) := by decide +kernel
theorem dX9_shareContent_9 : decode cX9_shareContent 9 = .ok (.istore 5, 2) := by decide +kernel
theorem dX9_shareContent_11 : decode cX9_shareContent 11 = .ok (.iload 5, 2) := by decide +kernel
theorem dX9_shareContent_13 : decode cX9_shareContent 13 = .ok (.ifCond .ge 6, 3) := by decide +kernel
theorem dX9_shareContent_16 : decode cX9_shareContent 16 = .ok (.iload 5, 2) := by decide +kernel
theorem dX9_shareContent_18 : decode cX9_shareContent 18 = .ok (.ireturn, 1) := by decide +kernel
theorem dX9_shareContent_19 : decode cX9_shareContent 19 = .ok (.aload_n 0, 1) := by decide +kernel
theorem dX9_shareContent_20 : decode cX9_shareContent 20 = .ok (.getfield 15, 3) := by decide +kernel
theorem dX9_shareContent_23 : decode cX9_shareContent 23 = .ok (.iload_n 3, 1) := by decide +kernel
theorem dX9_shareContent_24 : decode cX9_shareContent 24 = .ok (.bipush 6, 2) := by decide +kernel
theorem dX9_shareContent_26 : decode cX9_shareContent 26 = .ok (.imul, 1) := by decide +kernel
theorem dX9_shareContent_27 : decode cX9_shareContent 27 = .ok (.iload 4, 2) := by decide +kernel
theorem dX9_shareContent_29 : decode cX9_shareContent 29 = .ok (.iadd, 1) := by decide +kernel
theorem dX9_shareContent_30 : decode cX9_shareContent 30 = .ok (.aload_n 0, 1) := by decide +kernel
theorem dX9_shareContent_31 : decode cX9_shareContent 31 = .ok (.getfield 15, 3) := by decide +kernel
theorem dX9_shareContent_34 : decode cX9_shareContent 34 = .ok (.iload_n 1, 1) := by decide +kernel
theorem dX9_shareContent_35 : decode cX9_shareContent 35 = .ok (.bipush 6, 2) := by decide +kernel
theorem dX9_shareContent_37 : decode cX9_shareContent 37 = .ok (.imul, 1) := by decide +kernel
theorem dX9_shareContent_38 : decode cX9_shareContent 38 = .ok (.iload_n 2, 1) := by decide +kernel
theorem dX9_shareContent_39 : decode cX9_shareContent 39 = .ok (.iadd, 1) := by decide +kernel
theorem dX9_shareContent_40 : decode cX9_shareContent 40 = .ok (.iaload, 1) := by decide +kernel
theorem dX9_shareContent_41 : decode cX9_shareContent 41 = .ok (.iastore, 1) := by decide +kernel
theorem dX9_shareContent_42 : decode cX9_shareContent 42 = .ok (.aload_n 0, 1) := by decide +kernel
theorem dX9_shareContent_43 : decode cX9_shareContent 43 = .ok (.iload_n 3, 1) := by decide +kernel
theorem dX9_shareContent_44 : decode cX9_shareContent 44 = .ok (.iload 4, 2) := by decide +kernel
theorem dX9_shareContent_46 : decode cX9_shareContent 46 = .ok (.invokevirtual 91, 3) := by decide +kernel
theorem dX9_shareContent_49 : decode cX9_shareContent 49 = .ok (.ireturn, 1) := by decide +kernel
theorem dX9_exchange_0 : decode cX9_exchange 0 = .ok (.aload_n 0, 1) := by decide +kernel
theorem dX9_exchange_1 : decode cX9_exchange 1 = .ok (.iload_n 1, 1) := by decide +kernel
theorem dX9_exchange_2 : decode cX9_exchange 2 = .ok (.iload_n 2, 1) := by decide +kernel
theorem dX9_exchange_3 : decode cX9_exchange 3 = .ok (.iload_n 3, 1) := by decide +kernel
theorem dX9_exchange_4 : decode cX9_exchange 4 = .ok (.iload 4, 2) := by decide +kernel
theorem dX9_exchange_6 : decode cX9_exchange 6 = .ok (.invokevirtual 87, 3) := by decide +kernel
theorem dX9_exchange_9 : decode cX9_exchange 9 = .ok (.istore 5, 2) := by decide +kernel
theorem dX9_exchange_11 : decode cX9_exchange 11 = .ok (.iload 5, 2) := by decide +kernel
theorem dX9_exchange_13 : decode cX9_exchange 13 = .ok (.ifCond .ge 6, 3) := by decide +kernel
theorem dX9_exchange_16 : decode cX9_exchange 16 = .ok (.iload 5, 2) := by decide +kernel
theorem dX9_exchange_18 : decode cX9_exchange 18 = .ok (.ireturn, 1) := by decide +kernel
theorem dX9_exchange_19 : decode cX9_exchange 19 = .ok (.aload_n 0, 1) := by decide +kernel
theorem dX9_exchange_20 : decode cX9_exchange 20 = .ok (.getfield 15, 3) := by decide +kernel
theorem dX9_exchange_23 : decode cX9_exchange 23 = .ok (.iload_n 1, 1) := by decide +kernel
theorem dX9_exchange_24 : decode cX9_exchange 24 = .ok (.bipush 6, 2) := by decide +kernel
theorem dX9_exchange_26 : decode cX9_exchange 26 = .ok (.imul, 1) := by decide +kernel
theorem dX9_exchange_27 : decode cX9_exchange 27 = .ok (.iload_n 2, 1) := by decide +kernel
theorem dX9_exchange_28 : decode cX9_exchange 28 = .ok (.iadd, 1) := by decide +kernel
theorem dX9_exchange_29 : decode cX9_exchange 29 = .ok (.iaload, 1) := by decide +kernel
theorem dX9_exchange_30 : decode cX9_exchange 30 = .ok (.istore 6, 2) := by decide +kernel
theorem dX9_exchange_32 : decode cX9_exchange 32 = .ok (.aload_n 0, 1) := by decide +kernel
theorem dX9_exchange_33 : decode cX9_exchange 33 = .ok (.getfield 15, 3) := by decide +kernel
theorem dX9_exchange_36 : decode cX9_exchange 36 = .ok (.iload_n 1, 1) := by decide +kernel
theorem dX9_exchange_37 : decode cX9_exchange 37 = .ok (.bipush 6, 2) := by decide +kernel
theorem dX9_exchange_39 : decode cX9_exchange 39 = .ok (.imul, 1) := by decide +kernel
theorem dX9_exchange_40 : decode cX9_exchange 40 = .ok (.iload_n 2, 1) := by decide +kernel
theorem dX9_exchange_41 : decode cX9_exchange 41 = .ok (.iadd, 1) := by decide +kernel
theorem dX9_exchange_42 : decode cX9_exchange 42 = .ok (.aload_n 0, 1) := by decide +kernel
theorem dX9_exchange_43 : decode cX9_exchange 43 = .ok (.getfield 15, 3) := by decide +kernel
theorem dX9_exchange_46 : decode cX9_exchange 46 = .ok (.iload_n 3, 1) := by decide +kernel
theorem dX9_exchange_47 : decode cX9_exchange 47 = .ok (.bipush 6, 2) := by decide +kernel
theorem dX9_exchange_49 : decode cX9_exchange 49 = .ok (.imul, 1) := by decide +kernel
theorem dX9_exchange_50 : decode cX9_exchange 50 = .ok (.iload 4, 2) := by decide +kernel
theorem dX9_exchange_52 : decode cX9_exchange 52 = .ok (.iadd, 1) := by decide +kernel
theorem dX9_exchange_53 : decode cX9_exchange 53 = .ok (.iaload, 1) := by decide +kernel
theorem dX9_exchange_54 : decode cX9_exchange 54 = .ok (.iastore, 1) := by decide +kernel
theorem dX9_exchange_55 : decode cX9_exchange 55 = .ok (.aload_n 0, 1) := by decide +kernel
theorem dX9_exchange_56 : decode cX9_exchange 56 = .ok (.getfield 15, 3) := by decide +kernel
theorem dX9_exchange_59 : decode cX9_exchange 59 = .ok (.iload_n 3, 1) := by decide +kernel
theorem dX9_exchange_60 : decode cX9_exchange 60 = .ok (.bipush 6, 2) := by decide +kernel
theorem dX9_exchange_62 : decode cX9_exchange 62 = .ok (.imul, 1) := by decide +kernel
theorem dX9_exchange_63 : decode cX9_exchange 63 = .ok (.iload 4, 2) := by decide +kernel
theorem dX9_exchange_65 : decode cX9_exchange 65 = .ok (.iadd, 1) := by decide +kernel
theorem dX9_exchange_66 : decode cX9_exchange 66 = .ok (.iload 6, 2) := by decide +kernel
theorem dX9_exchange_68 : decode cX9_exchange 68 = .ok (.iastore, 1) := by decide +kernel
theorem dX9_exchange_69 : decode cX9_exchange 69 = .ok (.aload_n 0, 1) := by decide +kernel
theorem dX9_exchange_70 : decode cX9_exchange 70 = .ok (.iload_n 1, 1) := by decide +kernel
theorem dX9_exchange_71 : decode cX9_exchange 71 = .ok (.iload_n 2, 1) := by decide +kernel
theorem dX9_exchange_72 : decode cX9_exchange 72 = .ok (.invokevirtual 91, 3) := by decide +kernel
theorem dX9_exchange_75 : decode cX9_exchange 75 = .ok (.ireturn, 1) := by decide +kernel
theorem dX9_contentOf_0 : decode cX9_contentOf 0 = .ok (.aload_n 0, 1) := by decide +kernel
theorem dX9_contentOf_1 : decode cX9_contentOf 1 = .ok (.iload_n 1, 1) := by decide +kernel
theorem dX9_contentOf_2 : decode cX9_contentOf 2 = .ok (.iload_n 2, 1) := by decide +kernel
theorem dX9_contentOf_3 : decode cX9_contentOf 3 = .ok (.invokevirtual 55, 3) := by decide +kernel
theorem dX9_contentOf_6 : decode cX9_contentOf 6 = .ok (.istore_n 3, 1) := by decide +kernel
theorem dX9_contentOf_7 : decode cX9_contentOf 7 = .ok (.iload_n 3, 1) := by decide +kernel
theorem dX9_contentOf_8 : decode cX9_contentOf 8 = .ok (.ifCond .ge 5, 3) := by decide +kernel
theorem dX9_contentOf_11 : decode cX9_contentOf 11 = .ok (.iload_n 3, 1) := by decide +kernel
theorem dX9_contentOf_12 : decode cX9_contentOf 12 = .ok (.ireturn, 1) := by decide +kernel
theorem dX9_contentOf_13 : decode cX9_contentOf 13 = .ok (.aload_n 0, 1) := by decide +kernel
theorem dX9_contentOf_14 : decode cX9_contentOf 14 = .ok (.iload_n 1, 1) := by decide +kernel
theorem dX9_contentOf_15 : decode cX9_contentOf 15 = .ok (.iload_n 2, 1) := by decide +kernel
theorem dX9_contentOf_16 : decode cX9_contentOf 16 = .ok (.invokevirtual 94, 3) := by decide +kernel
theorem dX9_contentOf_19 : decode cX9_contentOf 19 = .ok (.astore 4, 2) := by decide +kernel
theorem dX9_contentOf_21 : decode cX9_contentOf 21 = .ok (.aload 4, 2) := by decide +kernel
theorem dX9_contentOf_23 : decode cX9_contentOf 23 = .ok (.ifnonnull 18, 3) := by decide +kernel
theorem dX9_contentOf_26 : decode cX9_contentOf 26 = .ok (.aload_n 0, 1) := by decide +kernel
theorem dX9_contentOf_27 : decode cX9_contentOf 27 = .ok (.getfield 15, 3) := by decide +kernel
theorem dX9_contentOf_30 : decode cX9_contentOf 30 = .ok (.iload_n 1, 1) := by decide +kernel
theorem dX9_contentOf_31 : decode cX9_contentOf 31 = .ok (.bipush 6, 2) := by decide +kernel
theorem dX9_contentOf_33 : decode cX9_contentOf 33 = .ok (.imul, 1) := by decide +kernel
theorem dX9_contentOf_34 : decode cX9_contentOf 34 = .ok (.iload_n 2, 1) := by decide +kernel
theorem dX9_contentOf_35 : decode cX9_contentOf 35 = .ok (.iadd, 1) := by decide +kernel
theorem dX9_contentOf_36 : decode cX9_contentOf 36 = .ok (.iaload, 1) := by decide +kernel
theorem dX9_contentOf_37 : decode cX9_contentOf 37 = .ok (.ineg, 1) := by decide +kernel
theorem dX9_contentOf_38 : decode cX9_contentOf 38 = .ok (.goto 8, 3) := by decide +kernel
theorem dX9_contentOf_41 : decode cX9_contentOf 41 = .ok (.aload 4, 2) := by decide +kernel
theorem dX9_contentOf_43 : decode cX9_contentOf 43 = .ok (.getfield 97, 3) := by decide +kernel
theorem dX9_contentOf_46 : decode cX9_contentOf 46 = .ok (.ireturn, 1) := by decide +kernel
theorem dX9_holdSameRow_0 : decode cX9_holdSameRow 0 = .ok (.iload_n 1, 1) := by decide +kernel
theorem dX9_holdSameRow_1 : decode cX9_holdSameRow 1 = .ok (.invokestatic 47, 3) := by decide +kernel
theorem dX9_holdSameRow_4 : decode cX9_holdSameRow 4 = .ok (.ifCond .eq 10, 3) := by decide +kernel
theorem dX9_holdSameRow_7 : decode cX9_holdSameRow 7 = .ok (.iload_n 3, 1) := by decide +kernel
theorem dX9_holdSameRow_8 : decode cX9_holdSameRow 8 = .ok (.invokestatic 47, 3) := by decide +kernel
theorem dX9_holdSameRow_11 : decode cX9_holdSameRow 11 = .ok (.ifCond .ne 5, 3) := by decide +kernel
theorem dX9_holdSameRow_14 : decode cX9_holdSameRow 14 = .ok (.iconst (-1), 1) := by decide +kernel
theorem dX9_holdSameRow_15 : decode cX9_holdSameRow 15 = .ok (.ireturn, 1) := by decide +kernel
theorem dX9_holdSameRow_16 : decode cX9_holdSameRow 16 = .ok (.aload_n 0, 1) := by decide +kernel
theorem dX9_holdSameRow_17 : decode cX9_holdSameRow 17 = .ok (.iload_n 1, 1) := by decide +kernel
theorem dX9_holdSameRow_18 : decode cX9_holdSameRow 18 = .ok (.iload_n 2, 1) := by decide +kernel
theorem dX9_holdSameRow_19 : decode cX9_holdSameRow 19 = .ok (.invokevirtual 94, 3) := by decide +kernel
theorem dX9_holdSameRow_22 : decode cX9_holdSameRow 22 = .ok (.astore 5, 2) := by decide +kernel
theorem dX9_holdSameRow_24 : decode cX9_holdSameRow 24 = .ok (.aload 5, 2) := by decide +kernel
theorem dX9_holdSameRow_26 : decode cX9_holdSameRow 26 = .ok (.ifnonnull 10, 3) := by decide +kernel
theorem dX9_holdSameRow_29 : decode cX9_holdSameRow 29 = .ok (.aload_n 0, 1) := by decide +kernel
theorem dX9_holdSameRow_30 : decode cX9_holdSameRow 30 = .ok (.iload_n 1, 1) := by decide +kernel
theorem dX9_holdSameRow_31 : decode cX9_holdSameRow 31 = .ok (.iload_n 2, 1) := by decide +kernel
theorem dX9_holdSameRow_32 : decode cX9_holdSameRow 32 = .ok (.invokevirtual 100, 3) := by decide +kernel
theorem dX9_holdSameRow_35 : decode cX9_holdSameRow 35 = .ok (.ireturn, 1) := by decide +kernel
theorem dX9_holdSameRow_36 : decode cX9_holdSameRow 36 = .ok (.aload_n 0, 1) := by decide +kernel
theorem dX9_holdSameRow_37 : decode cX9_holdSameRow 37 = .ok (.iload_n 3, 1) := by decide +kernel
theorem dX9_holdSameRow_38 : decode cX9_holdSameRow 38 = .ok (.iload 4, 2) := by decide +kernel
theorem dX9_holdSameRow_40 : decode cX9_holdSameRow 40 = .ok (.invokevirtual 94, 3) := by decide +kernel
theorem dX9_holdSameRow_43 : decode cX9_holdSameRow 43 = .ok (.astore 6, 2) := by decide +kernel
theorem dX9_holdSameRow_45 : decode cX9_holdSameRow 45 = .ok (.aload 6, 2) := by decide +kernel
theorem dX9_holdSameRow_47 : decode cX9_holdSameRow 47 = .ok (.ifnonnull 11, 3) := by decide +kernel
theorem dX9_holdSameRow_50 : decode cX9_holdSameRow 50 = .ok (.aload_n 0, 1) := by decide +kernel
theorem dX9_holdSameRow_51 : decode cX9_holdSameRow 51 = .ok (.iload_n 3, 1) := by decide +kernel
theorem dX9_holdSameRow_52 : decode cX9_holdSameRow 52 = .ok (.iload 4, 2) := by decide +kernel
theorem dX9_holdSameRow_54 : decode cX9_holdSameRow 54 = .ok (.invokevirtual 100, 3) := by decide +kernel
theorem dX9_holdSameRow_57 : decode cX9_holdSameRow 57 = .ok (.ireturn, 1) := by decide +kernel
theorem dX9_holdSameRow_58 : decode cX9_holdSameRow 58 = .ok (.aload 5, 2) := by decide +kernel
theorem dX9_holdSameRow_60 : decode cX9_holdSameRow 60 = .ok (.getfield 66, 3) := by decide +kernel
theorem dX9_holdSameRow_63 : decode cX9_holdSameRow 63 = .ok (.aload 6, 2) := by decide +kernel
theorem dX9_holdSameRow_65 : decode cX9_holdSameRow 65 = .ok (.getfield 66, 3) := by decide +kernel
theorem dX9_holdSameRow_68 : decode cX9_holdSameRow 68 = .ok (.if_icmp .ne 7, 3) := by decide +kernel
theorem dX9_holdSameRow_71 : decode cX9_holdSameRow 71 = .ok (.iconst 1, 1) := by decide +kernel
theorem dX9_holdSameRow_72 : decode cX9_holdSameRow 72 = .ok (.goto 4, 3) := by decide +kernel
theorem dX9_holdSameRow_75 : decode cX9_holdSameRow 75 = .ok (.iconst 0, 1) := by decide +kernel
theorem dX9_holdSameRow_76 : decode cX9_holdSameRow 76 = .ok (.ireturn, 1) := by decide +kernel
theorem dX9_lengthOf_0 : decode cX9_lengthOf 0 = .ok (.aload_n 0, 1) := by decide +kernel
theorem dX9_lengthOf_1 : decode cX9_lengthOf 1 = .ok (.iload_n 1, 1) := by decide +kernel
theorem dX9_lengthOf_2 : decode cX9_lengthOf 2 = .ok (.iload_n 2, 1) := by decide +kernel
