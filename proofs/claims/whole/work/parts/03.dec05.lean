theorem dX13_foldAnswer_78 : decode cX13_foldAnswer 78 = .ok (.aload_n 0, 1) := by decide +kernel
theorem dX13_foldAnswer_79 : decode cX13_foldAnswer 79 = .ok (.iload_n 1, 1) := by decide +kernel
theorem dX13_foldAnswer_80 : decode cX13_foldAnswer 80 = .ok (.iload_n 3, 1) := by decide +kernel
theorem dX13_foldAnswer_81 : decode cX13_foldAnswer 81 = .ok (.invokevirtual 124, 3) := by decide +kernel
theorem dX13_foldAnswer_84 : decode cX13_foldAnswer 84 = .ok (.goto 18, 3) := by decide +kernel
theorem dX13_foldAnswer_87 : decode cX13_foldAnswer 87 = .ok (.aload_n 0, 1) := by decide +kernel
theorem dX13_foldAnswer_88 : decode cX13_foldAnswer 88 = .ok (.getfield 17, 3) := by decide +kernel
theorem dX13_foldAnswer_91 : decode cX13_foldAnswer 91 = .ok (.iload_n 1, 1) := by decide +kernel
theorem dX13_foldAnswer_92 : decode cX13_foldAnswer 92 = .ok (.iaload, 1) := by decide +kernel
theorem dX13_foldAnswer_93 : decode cX13_foldAnswer 93 = .ok (.ifCond .ge 8, 3) := by decide +kernel
theorem dX13_foldAnswer_96 : decode cX13_foldAnswer 96 = .ok (.bipush (-2), 2) := by decide +kernel
theorem dX13_foldAnswer_98 : decode cX13_foldAnswer 98 = .ok (.goto 4, 3) := by decide +kernel
theorem dX13_foldAnswer_101 : decode cX13_foldAnswer 101 = .ok (.iconst 0, 1) := by decide +kernel
theorem dX13_foldAnswer_102 : decode cX13_foldAnswer 102 = .ok (.istore 7, 2) := by decide +kernel
theorem dX13_foldAnswer_104 : decode cX13_foldAnswer 104 = .ok (.iload 7, 2) := by decide +kernel
theorem dX13_foldAnswer_106 : decode cX13_foldAnswer 106 = .ok (.ifCond .eq 6, 3) := by decide +kernel
theorem dX13_foldAnswer_109 : decode cX13_foldAnswer 109 = .ok (.iload 7, 2) := by decide +kernel
theorem dX13_foldAnswer_111 : decode cX13_foldAnswer 111 = .ok (.ireturn, 1) := by decide +kernel
theorem dX13_foldAnswer_112 : decode cX13_foldAnswer 112 = .ok (.aload_n 0, 1) := by decide +kernel
theorem dX13_foldAnswer_113 : decode cX13_foldAnswer 113 = .ok (.iconst 0, 1) := by decide +kernel
theorem dX13_foldAnswer_114 : decode cX13_foldAnswer 114 = .ok (.putfield 373, 3) := by decide +kernel
theorem dX13_foldAnswer_117 : decode cX13_foldAnswer 117 = .ok (.aload_n 0, 1) := by decide +kernel
theorem dX13_foldAnswer_118 : decode cX13_foldAnswer 118 = .ok (.lconst 0, 1) := by decide +kernel
theorem dX13_foldAnswer_119 : decode cX13_foldAnswer 119 = .ok (.putfield 370, 3) := by decide +kernel
theorem dX13_foldAnswer_122 : decode cX13_foldAnswer 122 = .ok (.aload_n 0, 1) := by decide +kernel
theorem dX13_foldAnswer_123 : decode cX13_foldAnswer 123 = .ok (.dconst 0, 1) := by decide +kernel
theorem dX13_foldAnswer_124 : decode cX13_foldAnswer 124 = .ok (.putfield 376, 3) := by decide +kernel
theorem dX13_foldAnswer_127 : decode cX13_foldAnswer 127 = .ok (.iconst 0, 1) := by decide +kernel
theorem dX13_foldAnswer_128 : decode cX13_foldAnswer 128 = .ok (.istore 8, 2) := by decide +kernel
theorem dX13_foldAnswer_130 : decode cX13_foldAnswer 130 = .ok (.iconst 0, 1) := by decide +kernel
theorem dX13_foldAnswer_131 : decode cX13_foldAnswer 131 = .ok (.istore 9, 2) := by decide +kernel
theorem dX13_foldAnswer_133 : decode cX13_foldAnswer 133 = .ok (.iload 9, 2) := by decide +kernel
theorem dX13_foldAnswer_135 : decode cX13_foldAnswer 135 = .ok (.bipush 12, 2) := by decide +kernel
theorem dX13_foldAnswer_137 : decode cX13_foldAnswer 137 = .ok (.aload_n 0, 1) := by decide +kernel
theorem dX13_foldAnswer_138 : decode cX13_foldAnswer 138 = .ok (.getfield 17, 3) := by decide +kernel
theorem dX13_foldAnswer_141 : decode cX13_foldAnswer 141 = .ok (.iload_n 1, 1) := by decide +kernel
theorem dX13_foldAnswer_142 : decode cX13_foldAnswer 142 = .ok (.iaload, 1) := by decide +kernel
theorem dX13_foldAnswer_143 : decode cX13_foldAnswer 143 = .ok (.imul, 1) := by decide +kernel
theorem dX13_foldAnswer_144 : decode cX13_foldAnswer 144 = .ok (.if_icmp .ge 77, 3) := by decide +kernel
theorem dX13_foldAnswer_147 : decode cX13_foldAnswer 147 = .ok (.iload 9, 2) := by decide +kernel
theorem dX13_foldAnswer_149 : decode cX13_foldAnswer 149 = .ok (.bipush 12, 2) := by decide +kernel
theorem dX13_foldAnswer_151 : decode cX13_foldAnswer 151 = .ok (.idiv, 1) := by decide +kernel
theorem dX13_foldAnswer_152 : decode cX13_foldAnswer 152 = .ok (.istore 10, 2) := by decide +kernel
theorem dX13_foldAnswer_154 : decode cX13_foldAnswer 154 = .ok (.iload 9, 2) := by decide +kernel
theorem dX13_foldAnswer_156 : decode cX13_foldAnswer 156 = .ok (.bipush 12, 2) := by decide +kernel
theorem dX13_foldAnswer_158 : decode cX13_foldAnswer 158 = .ok (.irem, 1) := by decide +kernel
theorem dX13_foldAnswer_159 : decode cX13_foldAnswer 159 = .ok (.istore 11, 2) := by decide +kernel
theorem dX13_foldAnswer_161 : decode cX13_foldAnswer 161 = .ok (.aload_n 0, 1) := by decide +kernel
theorem dX13_foldAnswer_162 : decode cX13_foldAnswer 162 = .ok (.iload_n 1, 1) := by decide +kernel
theorem dX13_foldAnswer_163 : decode cX13_foldAnswer 163 = .ok (.iload 10, 2) := by decide +kernel
theorem dX13_foldAnswer_165 : decode cX13_foldAnswer 165 = .ok (.iload 11, 2) := by decide +kernel
theorem dX13_foldAnswer_167 : decode cX13_foldAnswer 167 = .ok (.invokevirtual 348, 3) := by decide +kernel
theorem dX13_foldAnswer_170 : decode cX13_foldAnswer 170 = .ok (.ifCond .eq 45, 3) := by decide +kernel
theorem dX13_foldAnswer_173 : decode cX13_foldAnswer 173 = .ok (.iload_n 2, 1) := by decide +kernel
theorem dX13_foldAnswer_174 : decode cX13_foldAnswer 174 = .ok (.iload_n 3, 1) := by decide +kernel
theorem dX13_foldAnswer_175 : decode cX13_foldAnswer 175 = .ok (.iload 10, 2) := by decide +kernel
theorem dX13_foldAnswer_177 : decode cX13_foldAnswer 177 = .ok (.iload 11, 2) := by decide +kernel
theorem dX13_foldAnswer_179 : decode cX13_foldAnswer 179 = .ok (.invokestatic 382, 3) := by decide +kernel
theorem dX13_foldAnswer_182 : decode cX13_foldAnswer 182 = .ok (.ifCond .eq 33, 3) := by decide +kernel
theorem dX13_foldAnswer_185 : decode cX13_foldAnswer 185 = .ok (.iload 8, 2) := by decide +kernel
theorem dX13_foldAnswer_187 : decode cX13_foldAnswer 187 = .ok (.aload_n 0, 1) := by decide +kernel
theorem dX13_foldAnswer_188 : decode cX13_foldAnswer 188 = .ok (.aload_n 0, 1) := by decide +kernel
theorem dX13_foldAnswer_189 : decode cX13_foldAnswer 189 = .ok (.iload_n 1, 1) := by decide +kernel
theorem dX13_foldAnswer_190 : decode cX13_foldAnswer 190 = .ok (.iload 10, 2) := by decide +kernel
theorem dX13_foldAnswer_192 : decode cX13_foldAnswer 192 = .ok (.invokevirtual 128, 3) := by decide +kernel
theorem dX13_foldAnswer_195 : decode cX13_foldAnswer 195 = .ok (.iload 11, 2) := by decide +kernel
theorem dX13_foldAnswer_197 : decode cX13_foldAnswer 197 = .ok (.iload 4, 2) := by decide +kernel
theorem dX13_foldAnswer_199 : decode cX13_foldAnswer 199 = .ok (.iload 5, 2) := by decide +kernel
theorem dX13_foldAnswer_201 : decode cX13_foldAnswer 201 = .ok (.invokevirtual 386, 3) := by decide +kernel
theorem dX13_foldAnswer_204 : decode cX13_foldAnswer 204 = .ok (.ifCond .eq 7, 3) := by decide +kernel
theorem dX13_foldAnswer_207 : decode cX13_foldAnswer 207 = .ok (.iconst 0, 1) := by decide +kernel
theorem dX13_foldAnswer_208 : decode cX13_foldAnswer 208 = .ok (.goto 4, 3) := by decide +kernel
theorem dX13_foldAnswer_211 : decode cX13_foldAnswer 211 = .ok (.iconst 1, 1) := by decide +kernel
theorem dX13_foldAnswer_212 : decode cX13_foldAnswer 212 = .ok (.iadd, 1) := by decide +kernel
theorem dX13_foldAnswer_213 : decode cX13_foldAnswer 213 = .ok (.istore 8, 2) := by decide +kernel
theorem dX13_foldAnswer_215 : decode cX13_foldAnswer 215 = .ok (.iinc 9 1, 3) := by decide +kernel
theorem dX13_foldAnswer_218 : decode cX13_foldAnswer 218 = .ok (.goto (-85), 3) := by decide +kernel
theorem dX13_foldAnswer_221 : decode cX13_foldAnswer 221 = .ok (.aload_n 0, 1) := by decide +kernel
theorem dX13_foldAnswer_222 : decode cX13_foldAnswer 222 = .ok (.iload 8, 2) := by decide +kernel
theorem dX13_foldAnswer_224 : decode cX13_foldAnswer 224 = .ok (.putfield 389, 3) := by decide +kernel
theorem dX13_foldAnswer_227 : decode cX13_foldAnswer 227 = .ok (.aload_n 0, 1) := by decide +kernel
theorem dX13_foldAnswer_228 : decode cX13_foldAnswer 228 = .ok (.iload 5, 2) := by decide +kernel
theorem dX13_foldAnswer_230 : decode cX13_foldAnswer 230 = .ok (.bipush 7, 2) := by decide +kernel
theorem dX13_foldAnswer_232 : decode cX13_foldAnswer 232 = .ok (.if_icmp .ne 21, 3) := by decide +kernel
theorem dX13_foldAnswer_235 : decode cX13_foldAnswer 235 = .ok (.iload 4, 2) := by decide +kernel
theorem dX13_foldAnswer_237 : decode cX13_foldAnswer 237 = .ok (.iconst 4, 1) := by decide +kernel
theorem dX13_foldAnswer_238 : decode cX13_foldAnswer 238 = .ok (.if_icmp .eq 15, 3) := by decide +kernel
theorem dX13_foldAnswer_241 : decode cX13_foldAnswer 241 = .ok (.ldc2_w 201, 3) := by decide +kernel
theorem dX13_foldAnswer_244 : decode cX13_foldAnswer 244 = .ok (.aload_n 0, 1) := by decide +kernel
theorem dX13_foldAnswer_245 : decode cX13_foldAnswer 245 = .ok (.getfield 376, 3) := by decide +kernel
theorem dX13_foldAnswer_248 : decode cX13_foldAnswer 248 = .ok (.dmul, 1) := by decide +kernel
theorem dX13_foldAnswer_249 : decode cX13_foldAnswer 249 = .ok (.d2l, 1) := by decide +kernel
theorem dX13_foldAnswer_250 : decode cX13_foldAnswer 250 = .ok (.goto 7, 3) := by decide +kernel
theorem dX13_foldAnswer_253 : decode cX13_foldAnswer 253 = .ok (.aload_n 0, 1) := by decide +kernel
theorem dX13_foldAnswer_254 : decode cX13_foldAnswer 254 = .ok (.getfield 370, 3) := by decide +kernel
theorem dX13_foldAnswer_257 : decode cX13_foldAnswer 257 = .ok (.aload_n 0, 1) := by decide +kernel
theorem dX13_foldAnswer_258 : decode cX13_foldAnswer 258 = .ok (.getfield 373, 3) := by decide +kernel
theorem dX13_foldAnswer_261 : decode cX13_foldAnswer 261 = .ok (.invokevirtual 243, 3) := by decide +kernel
theorem dX13_foldAnswer_264 : decode cX13_foldAnswer 264 = .ok (.ireturn, 1) := by decide +kernel
theorem dX13_foldsCell_0 : decode cX13_foldsCell 0 = .ok (.aload_n 0, 1) := by decide +kernel
theorem dX13_foldsCell_1 : decode cX13_foldsCell 1 = .ok (.iload_n 1, 1) := by decide +kernel
theorem dX13_foldsCell_2 : decode cX13_foldsCell 2 = .ok (.iload 4, 2) := by decide +kernel
theorem dX13_foldsCell_4 : decode cX13_foldsCell 4 = .ok (.invokevirtual 233, 3) := by decide +kernel
theorem dX13_foldsCell_7 : decode cX13_foldsCell 7 = .ok (.ifCond .ne 5, 3) := by decide +kernel
theorem dX13_foldsCell_10 : decode cX13_foldsCell 10 = .ok (.iconst 0, 1) := by decide +kernel
theorem dX13_foldsCell_11 : decode cX13_foldsCell 11 = .ok (.ireturn, 1) := by decide +kernel
theorem dX13_foldsCell_12 : decode cX13_foldsCell 12 = .ok (.aload_n 0, 1) := by decide +kernel
theorem dX13_foldsCell_13 : decode cX13_foldsCell 13 = .ok (.iload_n 1, 1) := by decide +kernel
theorem dX13_foldsCell_14 : decode cX13_foldsCell 14 = .ok (.iload_n 2, 1) := by decide +kernel
theorem dX13_foldsCell_15 : decode cX13_foldsCell 15 = .ok (.invokevirtual 236, 3) := by decide +kernel
theorem dX13_foldsCell_18 : decode cX13_foldsCell 18 = .ok (.aload_n 0, 1) := by decide +kernel
theorem dX13_foldsCell_19 : decode cX13_foldsCell 19 = .ok (.iload 4, 2) := by decide +kernel
theorem dX13_foldsCell_21 : decode cX13_foldsCell 21 = .ok (.invokevirtual 212, 3) := by decide +kernel
theorem dX13_foldsCell_24 : decode cX13_foldsCell 24 = .ok (.iload 4, 2) := by decide +kernel
theorem dX13_foldsCell_26 : decode cX13_foldsCell 26 = .ok (.bipush 7, 2) := by decide +kernel
theorem dX13_foldsCell_28 : decode cX13_foldsCell 28 = .ok (.if_icmp .ne 15, 3) := by decide +kernel
theorem dX13_foldsCell_31 : decode cX13_foldsCell 31 = .ok (.aload_n 0, 1) := by decide +kernel
theorem dX13_foldsCell_32 : decode cX13_foldsCell 32 = .ok (.iload_n 3, 1) := by decide +kernel
theorem dX13_foldsCell_33 : decode cX13_foldsCell 33 = .ok (.aload_n 0, 1) := by decide +kernel
theorem dX13_foldsCell_34 : decode cX13_foldsCell 34 = .ok (.getfield 193, 3) := by decide +kernel
theorem dX13_foldsCell_37 : decode cX13_foldsCell 37 = .ok (.invokevirtual 392, 3) := by decide +kernel
theorem dX13_foldsCell_40 : decode cX13_foldsCell 40 = .ok (.goto 14, 3) := by decide +kernel
theorem dX13_foldsCell_43 : decode cX13_foldsCell 43 = .ok (.aload_n 0, 1) := by decide +kernel
theorem dX13_foldsCell_44 : decode cX13_foldsCell 44 = .ok (.iload_n 3, 1) := by decide +kernel
theorem dX13_foldsCell_45 : decode cX13_foldsCell 45 = .ok (.iload 4, 2) := by decide +kernel
theorem dX13_foldsCell_47 : decode cX13_foldsCell 47 = .ok (.aload_n 0, 1) := by decide +kernel
theorem dX13_foldsCell_48 : decode cX13_foldsCell 48 = .ok (.getfield 197, 3) := by decide +kernel
theorem dX13_foldsCell_51 : decode cX13_foldsCell 51 = .ok (.invokevirtual 396, 3) := by decide +kernel
theorem dX13_foldsCell_54 : decode cX13_foldsCell 54 = .ok (.aload_n 0, 1) := by decide +kernel
theorem dX13_foldsCell_55 : decode cX13_foldsCell 55 = .ok (.dup, 1) := by decide +kernel
theorem dX13_foldsCell_56 : decode cX13_foldsCell 56 = .ok (.getfield 373, 3) := by decide +kernel
theorem dX13_foldsCell_59 : decode cX13_foldsCell 59 = .ok (.iconst 1, 1) := by decide +kernel
theorem dX13_foldsCell_60 : decode cX13_foldsCell 60 = .ok (.iadd, 1) := by decide +kernel
theorem dX13_foldsCell_61 : decode cX13_foldsCell 61 = .ok (.putfield 373, 3) := by decide +kernel
theorem dX13_foldsCell_64 : decode cX13_foldsCell 64 = .ok (.iconst 1, 1) := by decide +kernel
theorem dX13_foldsCell_65 : decode cX13_foldsCell 65 = .ok (.ireturn, 1) := by decide +kernel
theorem dX13_fold_0 : decode cX13_fold 0 = .ok (.aload_n 0, 1) := by decide +kernel
theorem dX13_fold_1 : decode cX13_fold 1 = .ok (.aload_n 0, 1) := by decide +kernel
theorem dX13_fold_2 : decode cX13_fold 2 = .ok (.iload_n 1, 1) := by decide +kernel
theorem dX13_fold_3 : decode cX13_fold 3 = .ok (.iload_n 2, 1) := by decide +kernel
theorem dX13_fold_4 : decode cX13_fold 4 = .ok (.iload_n 3, 1) := by decide +kernel
theorem dX13_fold_5 : decode cX13_fold 5 = .ok (.iload 4, 2) := by decide +kernel
theorem dX13_fold_7 : decode cX13_fold 7 = .ok (.iload 5, 2) := by decide +kernel
theorem dX13_fold_9 : decode cX13_fold 9 = .ok (.invokevirtual 400, 3) := by decide +kernel
theorem dX13_fold_12 : decode cX13_fold 12 = .ok (.invokevirtual 137, 3) := by decide +kernel
theorem dX13_fold_15 : decode cX13_fold 15 = .ok (.ireturn, 1) := by decide +kernel
theorem dX13_dotAnswer_0 : decode cX13_dotAnswer 0 = .ok (.iload_n 1, 1) := by decide +kernel
theorem dX13_dotAnswer_1 : decode cX13_dotAnswer 1 = .ok (.invokestatic 134, 3) := by decide +kernel
theorem dX13_dotAnswer_4 : decode cX13_dotAnswer 4 = .ok (.ifCond .eq 18, 3) := by decide +kernel
theorem dX13_dotAnswer_7 : decode cX13_dotAnswer 7 = .ok (.iload_n 3, 1) := by decide +kernel
theorem dX13_dotAnswer_8 : decode cX13_dotAnswer 8 = .ok (.invokestatic 134, 3) := by decide +kernel
theorem dX13_dotAnswer_11 : decode cX13_dotAnswer 11 = .ok (.ifCond .eq 11, 3) := by decide +kernel
theorem dX13_dotAnswer_14 : decode cX13_dotAnswer 14 = .ok (.iload 5, 2) := by decide +kernel
theorem dX13_dotAnswer_16 : decode cX13_dotAnswer 16 = .ok (.invokestatic 379, 3) := by decide +kernel
theorem dX13_dotAnswer_19 : decode cX13_dotAnswer 19 = .ok (.ifCond .ne 5, 3) := by decide +kernel
theorem dX13_dotAnswer_22 : decode cX13_dotAnswer 22 = .ok (.iconst (-1), 1) := by decide +kernel
theorem dX13_dotAnswer_23 : decode cX13_dotAnswer 23 = .ok (.ireturn, 1) := by decide +kernel
theorem dX13_dotAnswer_24 : decode cX13_dotAnswer 24 = .ok (.aload_n 0, 1) := by decide +kernel
theorem dX13_dotAnswer_25 : decode cX13_dotAnswer 25 = .ok (.iload_n 1, 1) := by decide +kernel
theorem dX13_dotAnswer_26 : decode cX13_dotAnswer 26 = .ok (.iload_n 2, 1) := by decide +kernel
theorem dX13_dotAnswer_27 : decode cX13_dotAnswer 27 = .ok (.iload_n 3, 1) := by decide +kernel
theorem dX13_dotAnswer_28 : decode cX13_dotAnswer 28 = .ok (.iload 4, 2) := by decide +kernel
theorem dX13_dotAnswer_30 : decode cX13_dotAnswer 30 = .ok (.invokevirtual 181, 3) := by decide +kernel
theorem dX13_dotAnswer_33 : decode cX13_dotAnswer 33 = .ok (.istore 6, 2) := by decide +kernel
theorem dX13_dotAnswer_35 : decode cX13_dotAnswer 35 = .ok (.iload 6, 2) := by decide +kernel
theorem dX13_dotAnswer_37 : decode cX13_dotAnswer 37 = .ok (.ifCond .eq 6, 3) := by decide +kernel
theorem dX13_dotAnswer_40 : decode cX13_dotAnswer 40 = .ok (.iload 6, 2) := by decide +kernel
theorem dX13_dotAnswer_42 : decode cX13_dotAnswer 42 = .ok (.ireturn, 1) := by decide +kernel
theorem dX13_dotAnswer_43 : decode cX13_dotAnswer 43 = .ok (.aload_n 0, 1) := by decide +kernel
theorem dX13_dotAnswer_44 : decode cX13_dotAnswer 44 = .ok (.iload_n 1, 1) := by decide +kernel
theorem dX13_dotAnswer_45 : decode cX13_dotAnswer 45 = .ok (.iload_n 2, 1) := by decide +kernel
theorem dX13_dotAnswer_46 : decode cX13_dotAnswer 46 = .ok (.invokevirtual 128, 3) := by decide +kernel
theorem dX13_dotAnswer_49 : decode cX13_dotAnswer 49 = .ok (.istore 7, 2) := by decide +kernel
theorem dX13_dotAnswer_51 : decode cX13_dotAnswer 51 = .ok (.aload_n 0, 1) := by decide +kernel
theorem dX13_dotAnswer_52 : decode cX13_dotAnswer 52 = .ok (.iload_n 3, 1) := by decide +kernel
theorem dX13_dotAnswer_53 : decode cX13_dotAnswer 53 = .ok (.iload 4, 2) := by decide +kernel
theorem dX13_dotAnswer_55 : decode cX13_dotAnswer 55 = .ok (.invokevirtual 128, 3) := by decide +kernel
theorem dX13_dotAnswer_58 : decode cX13_dotAnswer 58 = .ok (.istore 8, 2) := by decide +kernel
theorem dX13_dotAnswer_60 : decode cX13_dotAnswer 60 = .ok (.aload_n 0, 1) := by decide +kernel
theorem dX13_dotAnswer_61 : decode cX13_dotAnswer 61 = .ok (.iload 7, 2) := by decide +kernel
theorem dX13_dotAnswer_63 : decode cX13_dotAnswer 63 = .ok (.iload 8, 2) := by decide +kernel
theorem dX13_dotAnswer_65 : decode cX13_dotAnswer 65 = .ok (.invokevirtual 271, 3) := by decide +kernel
theorem dX13_dotAnswer_68 : decode cX13_dotAnswer 68 = .ok (.istore 9, 2) := by decide +kernel
theorem dX13_dotAnswer_70 : decode cX13_dotAnswer 70 = .ok (.iload 9, 2) := by decide +kernel
theorem dX13_dotAnswer_72 : decode cX13_dotAnswer 72 = .ok (.ifCond .le 28, 3) := by decide +kernel
theorem dX13_dotAnswer_75 : decode cX13_dotAnswer 75 = .ok (.aload_n 0, 1) := by decide +kernel
theorem dX13_dotAnswer_76 : decode cX13_dotAnswer 76 = .ok (.iload 7, 2) := by decide +kernel
theorem dX13_dotAnswer_78 : decode cX13_dotAnswer 78 = .ok (.iload 5, 2) := by decide +kernel
theorem dX13_dotAnswer_80 : decode cX13_dotAnswer 80 = .ok (.invokevirtual 233, 3) := by decide +kernel
theorem dX13_dotAnswer_83 : decode cX13_dotAnswer 83 = .ok (.ifCond .eq 14, 3) := by decide +kernel
theorem dX13_dotAnswer_86 : decode cX13_dotAnswer 86 = .ok (.aload_n 0, 1) := by decide +kernel
theorem dX13_dotAnswer_87 : decode cX13_dotAnswer 87 = .ok (.iload 8, 2) := by decide +kernel
theorem dX13_dotAnswer_89 : decode cX13_dotAnswer 89 = .ok (.iload 5, 2) := by decide +kernel
theorem dX13_dotAnswer_91 : decode cX13_dotAnswer 91 = .ok (.invokevirtual 233, 3) := by decide +kernel
theorem dX13_dotAnswer_94 : decode cX13_dotAnswer 94 = .ok (.ifCond .ne 6, 3) := by decide +kernel
theorem dX13_dotAnswer_97 : decode cX13_dotAnswer 97 = .ok (.bipush (-7), 2) := by decide +kernel
theorem dX13_dotAnswer_99 : decode cX13_dotAnswer 99 = .ok (.ireturn, 1) := by decide +kernel
theorem dX13_dotAnswer_100 : decode cX13_dotAnswer 100 = .ok (.aload_n 0, 1) := by decide +kernel
theorem dX13_dotAnswer_101 : decode cX13_dotAnswer 101 = .ok (.lconst 0, 1) := by decide +kernel
theorem dX13_dotAnswer_102 : decode cX13_dotAnswer 102 = .ok (.putfield 370, 3) := by decide +kernel
theorem dX13_dotAnswer_105 : decode cX13_dotAnswer 105 = .ok (.aload_n 0, 1) := by decide +kernel
theorem dX13_dotAnswer_106 : decode cX13_dotAnswer 106 = .ok (.dconst 0, 1) := by decide +kernel
theorem dX13_dotAnswer_107 : decode cX13_dotAnswer 107 = .ok (.putfield 376, 3) := by decide +kernel
theorem dX13_dotAnswer_110 : decode cX13_dotAnswer 110 = .ok (.iconst 0, 1) := by decide +kernel
theorem dX13_dotAnswer_111 : decode cX13_dotAnswer 111 = .ok (.istore 10, 2) := by decide +kernel
theorem dX13_dotAnswer_113 : decode cX13_dotAnswer 113 = .ok (.iload 10, 2) := by decide +kernel
theorem dX13_dotAnswer_115 : decode cX13_dotAnswer 115 = .ok (.iload 9, 2) := by decide +kernel
theorem dX13_dotAnswer_117 : decode cX13_dotAnswer 117 = .ok (.if_icmp .ge 104, 3) := by decide +kernel
theorem dX13_dotAnswer_120 : decode cX13_dotAnswer 120 = .ok (.aload_n 0, 1) := by decide +kernel
theorem dX13_dotAnswer_121 : decode cX13_dotAnswer 121 = .ok (.iload 7, 2) := by decide +kernel
theorem dX13_dotAnswer_123 : decode cX13_dotAnswer 123 = .ok (.iload 10, 2) := by decide +kernel
theorem dX13_dotAnswer_125 : decode cX13_dotAnswer 125 = .ok (.invokevirtual 236, 3) := by decide +kernel
theorem dX13_dotAnswer_128 : decode cX13_dotAnswer 128 = .ok (.aload_n 0, 1) := by decide +kernel
theorem dX13_dotAnswer_129 : decode cX13_dotAnswer 129 = .ok (.iload 5, 2) := by decide +kernel
theorem dX13_dotAnswer_131 : decode cX13_dotAnswer 131 = .ok (.invokevirtual 212, 3) := by decide +kernel
theorem dX13_dotAnswer_134 : decode cX13_dotAnswer 134 = .ok (.aload_n 0, 1) := by decide +kernel
theorem dX13_dotAnswer_135 : decode cX13_dotAnswer 135 = .ok (.getfield 197, 3) := by decide +kernel
theorem dX13_dotAnswer_138 : decode cX13_dotAnswer 138 = .ok (.lstore 11, 2) := by decide +kernel
theorem dX13_dotAnswer_140 : decode cX13_dotAnswer 140 = .ok (.aload_n 0, 1) := by decide +kernel
theorem dX13_dotAnswer_141 : decode cX13_dotAnswer 141 = .ok (.getfield 193, 3) := by decide +kernel
theorem dX13_dotAnswer_144 : decode cX13_dotAnswer 144 = .ok (.dstore 13, 2) := by decide +kernel
theorem dX13_dotAnswer_146 : decode cX13_dotAnswer 146 = .ok (.aload_n 0, 1) := by decide +kernel
theorem dX13_dotAnswer_147 : decode cX13_dotAnswer 147 = .ok (.iload 8, 2) := by decide +kernel
theorem dX13_dotAnswer_149 : decode cX13_dotAnswer 149 = .ok (.iload 10, 2) := by decide +kernel
theorem dX13_dotAnswer_151 : decode cX13_dotAnswer 151 = .ok (.invokevirtual 236, 3) := by decide +kernel
theorem dX13_dotAnswer_154 : decode cX13_dotAnswer 154 = .ok (.aload_n 0, 1) := by decide +kernel
theorem dX13_dotAnswer_155 : decode cX13_dotAnswer 155 = .ok (.iload 5, 2) := by decide +kernel
theorem dX13_dotAnswer_157 : decode cX13_dotAnswer 157 = .ok (.invokevirtual 212, 3) := by decide +kernel
theorem dX13_dotAnswer_160 : decode cX13_dotAnswer 160 = .ok (.aload_n 0, 1) := by decide +kernel
theorem dX13_dotAnswer_161 : decode cX13_dotAnswer 161 = .ok (.iload 5, 2) := by decide +kernel
theorem dX13_dotAnswer_163 : decode cX13_dotAnswer 163 = .ok (.iconst 4, 1) := by decide +kernel
theorem dX13_dotAnswer_164 : decode cX13_dotAnswer 164 = .ok (.if_icmp .ne 20, 3) := by decide +kernel
theorem dX13_dotAnswer_167 : decode cX13_dotAnswer 167 = .ok (.aload_n 0, 1) := by decide +kernel
theorem dX13_dotAnswer_168 : decode cX13_dotAnswer 168 = .ok (.getfield 370, 3) := by decide +kernel
theorem dX13_dotAnswer_171 : decode cX13_dotAnswer 171 = .ok (.lload 11, 2) := by decide +kernel
theorem dX13_dotAnswer_173 : decode cX13_dotAnswer 173 = .ok (.aload_n 0, 1) := by decide +kernel
theorem dX13_dotAnswer_174 : decode cX13_dotAnswer 174 = .ok (.getfield 197, 3) := by decide +kernel
theorem dX13_dotAnswer_177 : decode cX13_dotAnswer 177 = .ok (.lmul, 1) := by decide +kernel
theorem dX13_dotAnswer_178 : decode cX13_dotAnswer 178 = .ok (.ladd, 1) := by decide +kernel
theorem dX13_dotAnswer_179 : decode cX13_dotAnswer 179 = .ok (.l2i, 1) := by decide +kernel
theorem dX13_dotAnswer_180 : decode cX13_dotAnswer 180 = .ok (.i2l, 1) := by decide +kernel
theorem dX13_dotAnswer_181 : decode cX13_dotAnswer 181 = .ok (.goto 15, 3) := by decide +kernel
theorem dX13_dotAnswer_184 : decode cX13_dotAnswer 184 = .ok (.aload_n 0, 1) := by decide +kernel
theorem dX13_dotAnswer_185 : decode cX13_dotAnswer 185 = .ok (.getfield 370, 3) := by decide +kernel
theorem dX13_dotAnswer_188 : decode cX13_dotAnswer 188 = .ok (.lload 11, 2) := by decide +kernel
theorem dX13_dotAnswer_190 : decode cX13_dotAnswer 190 = .ok (.aload_n 0, 1) := by decide +kernel
theorem dX13_dotAnswer_191 : decode cX13_dotAnswer 191 = .ok (.getfield 197, 3) := by decide +kernel
theorem dX13_dotAnswer_194 : decode cX13_dotAnswer 194 = .ok (.lmul, 1) := by decide +kernel
theorem dX13_dotAnswer_195 : decode cX13_dotAnswer 195 = .ok (.ladd, 1) := by decide +kernel
theorem dX13_dotAnswer_196 : decode cX13_dotAnswer 196 = .ok (.putfield 370, 3) := by decide +kernel
theorem dX13_dotAnswer_199 : decode cX13_dotAnswer 199 = .ok (.aload_n 0, 1) := by decide +kernel
theorem dX13_dotAnswer_200 : decode cX13_dotAnswer 200 = .ok (.dup, 1) := by decide +kernel
theorem dX13_dotAnswer_201 : decode cX13_dotAnswer 201 = .ok (.getfield 376, 3) := by decide +kernel
theorem dX13_dotAnswer_204 : decode cX13_dotAnswer 204 = .ok (.dload 13, 2) := by decide +kernel
theorem dX13_dotAnswer_206 : decode cX13_dotAnswer 206 = .ok (.aload_n 0, 1) := by decide +kernel
theorem dX13_dotAnswer_207 : decode cX13_dotAnswer 207 = .ok (.getfield 193, 3) := by decide +kernel
theorem dX13_dotAnswer_210 : decode cX13_dotAnswer 210 = .ok (.dmul, 1) := by decide +kernel
theorem dX13_dotAnswer_211 : decode cX13_dotAnswer 211 = .ok (.dadd, 1) := by decide +kernel
theorem dX13_dotAnswer_212 : decode cX13_dotAnswer 212 = .ok (.putfield 376, 3) := by decide +kernel
theorem dX13_dotAnswer_215 : decode cX13_dotAnswer 215 = .ok (.iinc 10 1, 3) := by decide +kernel
theorem dX13_dotAnswer_218 : decode cX13_dotAnswer 218 = .ok (.goto (-105), 3) := by decide +kernel
theorem dX13_dotAnswer_221 : decode cX13_dotAnswer 221 = .ok (.aload_n 0, 1) := by decide +kernel
theorem dX13_dotAnswer_222 : decode cX13_dotAnswer 222 = .ok (.iload 5, 2) := by decide +kernel
theorem dX13_dotAnswer_224 : decode cX13_dotAnswer 224 = .ok (.bipush 7, 2) := by decide +kernel
theorem dX13_dotAnswer_226 : decode cX13_dotAnswer 226 = .ok (.if_icmp .ne 15, 3) := by decide +kernel
theorem dX13_dotAnswer_229 : decode cX13_dotAnswer 229 = .ok (.ldc2_w 201, 3) := by decide +kernel
theorem dX13_dotAnswer_232 : decode cX13_dotAnswer 232 = .ok (.aload_n 0, 1) := by decide +kernel
theorem dX13_dotAnswer_233 : decode cX13_dotAnswer 233 = .ok (.getfield 376, 3) := by decide +kernel
theorem dX13_dotAnswer_236 : decode cX13_dotAnswer 236 = .ok (.dmul, 1) := by decide +kernel
theorem dX13_dotAnswer_237 : decode cX13_dotAnswer 237 = .ok (.d2l, 1) := by decide +kernel
theorem dX13_dotAnswer_238 : decode cX13_dotAnswer 238 = .ok (.goto 7, 3) := by decide +kernel
theorem dX13_dotAnswer_241 : decode cX13_dotAnswer 241 = .ok (.aload_n 0, 1) := by decide +kernel
theorem dX13_dotAnswer_242 : decode cX13_dotAnswer 242 = .ok (.getfield 370, 3) := by decide +kernel
theorem dX13_dotAnswer_245 : decode cX13_dotAnswer 245 = .ok (.iload 9, 2) := by decide +kernel
theorem dX13_dotAnswer_247 : decode cX13_dotAnswer 247 = .ok (.invokevirtual 243, 3) := by decide +kernel
theorem dX13_dotAnswer_250 : decode cX13_dotAnswer 250 = .ok (.ireturn, 1) := by decide +kernel
theorem dX13_dot_0 : decode cX13_dot 0 = .ok (.aload_n 0, 1) := by decide +kernel
theorem dX13_dot_1 : decode cX13_dot 1 = .ok (.aload_n 0, 1) := by decide +kernel
theorem dX13_dot_2 : decode cX13_dot 2 = .ok (.iload_n 1, 1) := by decide +kernel
theorem dX13_dot_3 : decode cX13_dot 3 = .ok (.iload_n 2, 1) := by decide +kernel
theorem dX13_dot_4 : decode cX13_dot 4 = .ok (.iload_n 3, 1) := by decide +kernel
theorem dX13_dot_5 : decode cX13_dot 5 = .ok (.iload 4, 2) := by decide +kernel
theorem dX13_dot_7 : decode cX13_dot 7 = .ok (.iload 5, 2) := by decide +kernel
theorem dX13_dot_9 : decode cX13_dot 9 = .ok (.invokevirtual 403, 3) := by decide +kernel
theorem dX13_dot_12 : decode cX13_dot 12 = .ok (.invokevirtual 137, 3) := by decide +kernel
theorem dX13_dot_15 : decode cX13_dot 15 = .ok (.ireturn, 1) := by decide +kernel
theorem dX13_trails_0 : decode cX13_trails 0 = .ok (.iconst 0, 1) := by decide +kernel
theorem dX13_trails_1 : decode cX13_trails 1 = .ok (.istore_n 3, 1) := by decide +kernel
theorem dX13_trails_2 : decode cX13_trails 2 = .ok (.iload_n 3, 1) := by decide +kernel
theorem dX13_trails_3 : decode cX13_trails 3 = .ok (.bipush 12, 2) := by decide +kernel
theorem dX13_trails_5 : decode cX13_trails 5 = .ok (.if_icmp .ge 142, 3) := by decide +kernel
theorem dX13_trails_8 : decode cX13_trails 8 = .ok (.aload_n 0, 1) := by decide +kernel
theorem dX13_trails_9 : decode cX13_trails 9 = .ok (.getfield 64, 3) := by decide +kernel
theorem dX13_trails_12 : decode cX13_trails 12 = .ok (.iload_n 3, 1) := by decide +kernel
theorem dX13_trails_13 : decode cX13_trails 13 = .ok (.iload_n 2, 1) := by decide +kernel
theorem dX13_trails_14 : decode cX13_trails 14 = .ok (.ifCond .eq 17, 3) := by decide +kernel
theorem dX13_trails_17 : decode cX13_trails 17 = .ok (.iload_n 3, 1) := by decide +kernel
theorem dX13_trails_18 : decode cX13_trails 18 = .ok (.aload_n 0, 1) := by decide +kernel
theorem dX13_trails_19 : decode cX13_trails 19 = .ok (.getfield 26, 3) := by decide +kernel
theorem dX13_trails_22 : decode cX13_trails 22 = .ok (.iload_n 1, 1) := by decide +kernel
theorem dX13_trails_23 : decode cX13_trails 23 = .ok (.iaload, 1) := by decide +kernel
theorem dX13_trails_24 : decode cX13_trails 24 = .ok (.if_icmp .ge 7, 3) := by decide +kernel
theorem dX13_trails_27 : decode cX13_trails 27 = .ok (.iconst 1, 1) := by decide +kernel
theorem dX13_trails_28 : decode cX13_trails 28 = .ok (.goto 4, 3) := by decide +kernel
theorem dX13_trails_31 : decode cX13_trails 31 = .ok (.iconst 0, 1) := by decide +kernel
theorem dX13_trails_32 : decode cX13_trails 32 = .ok (.iastore, 1) := by decide +kernel
theorem dX13_trails_33 : decode cX13_trails 33 = .ok (.aload_n 0, 1) := by decide +kernel
theorem dX13_trails_34 : decode cX13_trails 34 = .ok (.getfield 61, 3) := by decide +kernel
theorem dX13_trails_37 : decode cX13_trails 37 = .ok (.iload_n 3, 1) := by decide +kernel
theorem dX13_trails_38 : decode cX13_trails 38 = .ok (.lconst 0, 1) := by decide +kernel
theorem dX13_trails_39 : decode cX13_trails 39 = .ok (.lastore, 1) := by decide +kernel
theorem dX13_trails_40 : decode cX13_trails 40 = .ok (.iload_n 3, 1) := by decide +kernel
theorem dX13_trails_41 : decode cX13_trails 41 = .ok (.iconst 1, 1) := by decide +kernel
theorem dX13_trails_42 : decode cX13_trails 42 = .ok (.isub, 1) := by decide +kernel
theorem dX13_trails_43 : decode cX13_trails 43 = .ok (.istore 4, 2) := by decide +kernel
theorem dX13_trails_45 : decode cX13_trails 45 = .ok (.iload 4, 2) := by decide +kernel
theorem dX13_trails_47 : decode cX13_trails 47 = .ok (.iload_n 3, 1) := by decide +kernel
theorem dX13_trails_48 : decode cX13_trails 48 = .ok (.iconst 1, 1) := by decide +kernel
theorem dX13_trails_49 : decode cX13_trails 49 = .ok (.iadd, 1) := by decide +kernel
theorem dX13_trails_50 : decode cX13_trails 50 = .ok (.if_icmp .gt 91, 3) := by decide +kernel
theorem dX13_trails_53 : decode cX13_trails 53 = .ok (.iload_n 2, 1) := by decide +kernel
theorem dX13_trails_54 : decode cX13_trails 54 = .ok (.ifCond .ne 87, 3) := by decide +kernel
theorem dX13_trails_57 : decode cX13_trails 57 = .ok (.iload_n 3, 1) := by decide +kernel
theorem dX13_trails_58 : decode cX13_trails 58 = .ok (.aload_n 0, 1) := by decide +kernel
theorem dX13_trails_59 : decode cX13_trails 59 = .ok (.getfield 26, 3) := by decide +kernel
theorem dX13_trails_62 : decode cX13_trails 62 = .ok (.iload_n 1, 1) := by decide +kernel
theorem dX13_trails_63 : decode cX13_trails 63 = .ok (.iaload, 1) := by decide +kernel
theorem dX13_trails_64 : decode cX13_trails 64 = .ok (.if_icmp .ge 71, 3) := by decide +kernel
theorem dX13_trails_67 : decode cX13_trails 67 = .ok (.iload 4, 2) := by decide +kernel
theorem dX13_trails_69 : decode cX13_trails 69 = .ok (.iconst 0, 1) := by decide +kernel
theorem dX13_trails_70 : decode cX13_trails 70 = .ok (.bipush 11, 2) := by decide +kernel
theorem dX13_trails_72 : decode cX13_trails 72 = .ok (.invokestatic 109, 3) := by decide +kernel
theorem dX13_trails_75 : decode cX13_trails 75 = .ok (.ifCond .eq 60, 3) := by decide +kernel
theorem dX13_trails_78 : decode cX13_trails 78 = .ok (.aload_n 0, 1) := by decide +kernel
theorem dX13_trails_79 : decode cX13_trails 79 = .ok (.getfield 58, 3) := by decide +kernel
theorem dX13_trails_82 : decode cX13_trails 82 = .ok (.iload 4, 2) := by decide +kernel
theorem dX13_trails_84 : decode cX13_trails 84 = .ok (.iaload, 1) := by decide +kernel
theorem dX13_trails_85 : decode cX13_trails 85 = .ok (.iconst 1, 1) := by decide +kernel
theorem dX13_trails_86 : decode cX13_trails 86 = .ok (.if_icmp .ne 49, 3) := by decide +kernel
theorem dX13_trails_89 : decode cX13_trails 89 = .ok (.aload_n 0, 1) := by decide +kernel
theorem dX13_trails_90 : decode cX13_trails 90 = .ok (.getfield 64, 3) := by decide +kernel
theorem dX13_trails_93 : decode cX13_trails 93 = .ok (.iload_n 3, 1) := by decide +kernel
theorem dX13_trails_94 : decode cX13_trails 94 = .ok (.iaload, 1) := by decide +kernel
theorem dX13_trails_95 : decode cX13_trails 95 = .ok (.ifCond .eq 20, 3) := by decide +kernel
theorem dX13_trails_98 : decode cX13_trails 98 = .ok (.aload_n 0, 1) := by decide +kernel
theorem dX13_trails_99 : decode cX13_trails 99 = .ok (.getfield 55, 3) := by decide +kernel
theorem dX13_trails_102 : decode cX13_trails 102 = .ok (.iload 4, 2) := by decide +kernel
theorem dX13_trails_104 : decode cX13_trails 104 = .ok (.laload, 1) := by decide +kernel
theorem dX13_trails_105 : decode cX13_trails 105 = .ok (.aload_n 0, 1) := by decide +kernel
theorem dX13_trails_106 : decode cX13_trails 106 = .ok (.getfield 61, 3) := by decide +kernel
theorem dX13_trails_109 : decode cX13_trails 109 = .ok (.iload_n 3, 1) := by decide +kernel
theorem dX13_trails_110 : decode cX13_trails 110 = .ok (.laload, 1) := by decide +kernel
theorem dX13_trails_111 : decode cX13_trails 111 = .ok (.lcmp, 1) := by decide +kernel
theorem dX13_trails_112 : decode cX13_trails 112 = .ok (.ifCond .le 23, 3) := by decide +kernel
theorem dX13_trails_115 : decode cX13_trails 115 = .ok (.aload_n 0, 1) := by decide +kernel
theorem dX13_trails_116 : decode cX13_trails 116 = .ok (.getfield 64, 3) := by decide +kernel
theorem dX13_trails_119 : decode cX13_trails 119 = .ok (.iload_n 3, 1) := by decide +kernel
theorem dX13_trails_120 : decode cX13_trails 120 = .ok (.iconst 1, 1) := by decide +kernel
theorem dX13_trails_121 : decode cX13_trails 121 = .ok (.iastore, 1) := by decide +kernel
theorem dX13_trails_122 : decode cX13_trails 122 = .ok (.aload_n 0, 1) := by decide +kernel
theorem dX13_trails_123 : decode cX13_trails 123 = .ok (.getfield 61, 3) := by decide +kernel
theorem dX13_trails_126 : decode cX13_trails 126 = .ok (.iload_n 3, 1) := by decide +kernel
theorem dX13_trails_127 : decode cX13_trails 127 = .ok (.aload_n 0, 1) := by decide +kernel
theorem dX13_trails_128 : decode cX13_trails 128 = .ok (.getfield 55, 3) := by decide +kernel
theorem dX13_trails_131 : decode cX13_trails 131 = .ok (.iload 4, 2) := by decide +kernel
theorem dX13_trails_133 : decode cX13_trails 133 = .ok (.laload, 1) := by decide +kernel
theorem dX13_trails_134 : decode cX13_trails 134 = .ok (.lastore, 1) := by decide +kernel
theorem dX13_trails_135 : decode cX13_trails 135 = .ok (.iinc 4 1, 3) := by decide +kernel
theorem dX13_trails_138 : decode cX13_trails 138 = .ok (.goto (-93), 3) := by decide +kernel
theorem dX13_trails_141 : decode cX13_trails 141 = .ok (.iinc 3 1, 3) := by decide +kernel
theorem dX13_trails_144 : decode cX13_trails 144 = .ok (.goto (-142), 3) := by decide +kernel
theorem dX13_trails_147 : decode cX13_trails 147 = .ok (.iconst 0, 1) := by decide +kernel
theorem dX13_trails_148 : decode cX13_trails 148 = .ok (.istore_n 3, 1) := by decide +kernel
theorem dX13_trails_149 : decode cX13_trails 149 = .ok (.iload_n 3, 1) := by decide +kernel
theorem dX13_trails_150 : decode cX13_trails 150 = .ok (.bipush 12, 2) := by decide +kernel
theorem dX13_trails_152 : decode cX13_trails 152 = .ok (.if_icmp .ge 59, 3) := by decide +kernel
theorem dX13_trails_155 : decode cX13_trails 155 = .ok (.aload_n 0, 1) := by decide +kernel
theorem dX13_trails_156 : decode cX13_trails 156 = .ok (.getfield 58, 3) := by decide +kernel
theorem dX13_trails_159 : decode cX13_trails 159 = .ok (.iload_n 3, 1) := by decide +kernel
theorem dX13_trails_160 : decode cX13_trails 160 = .ok (.aload_n 0, 1) := by decide +kernel
theorem dX13_trails_161 : decode cX13_trails 161 = .ok (.getfield 64, 3) := by decide +kernel
theorem dX13_trails_164 : decode cX13_trails 164 = .ok (.iload_n 3, 1) := by decide +kernel
theorem dX13_trails_165 : decode cX13_trails 165 = .ok (.iaload, 1) := by decide +kernel
theorem dX13_trails_166 : decode cX13_trails 166 = .ok (.iastore, 1) := by decide +kernel
theorem dX13_trails_167 : decode cX13_trails 167 = .ok (.aload_n 0, 1) := by decide +kernel
theorem dX13_trails_168 : decode cX13_trails 168 = .ok (.getfield 55, 3) := by decide +kernel
theorem dX13_trails_171 : decode cX13_trails 171 = .ok (.iload_n 3, 1) := by decide +kernel
theorem dX13_trails_172 : decode cX13_trails 172 = .ok (.aload_n 0, 1) := by decide +kernel
theorem dX13_trails_173 : decode cX13_trails 173 = .ok (.getfield 64, 3) := by decide +kernel
theorem dX13_trails_176 : decode cX13_trails 176 = .ok (.iload_n 3, 1) := by decide +kernel
theorem dX13_trails_177 : decode cX13_trails 177 = .ok (.iaload, 1) := by decide +kernel
theorem dX13_trails_178 : decode cX13_trails 178 = .ok (.iconst 1, 1) := by decide +kernel
theorem dX13_trails_179 : decode cX13_trails 179 = .ok (.if_icmp .ne 24, 3) := by decide +kernel
theorem dX13_trails_182 : decode cX13_trails 182 = .ok (.aload_n 0, 1) := by decide +kernel
theorem dX13_trails_183 : decode cX13_trails 183 = .ok (.getfield 61, 3) := by decide +kernel
theorem dX13_trails_186 : decode cX13_trails 186 = .ok (.iload_n 3, 1) := by decide +kernel
theorem dX13_trails_187 : decode cX13_trails 187 = .ok (.laload, 1) := by decide +kernel
theorem dX13_trails_188 : decode cX13_trails 188 = .ok (.aload_n 0, 1) := by decide +kernel
theorem dX13_trails_189 : decode cX13_trails 189 = .ok (.getfield 35, 3) := by decide +kernel
theorem dX13_trails_192 : decode cX13_trails 192 = .ok (.bipush 12, 2) := by decide +kernel
theorem dX13_trails_194 : decode cX13_trails 194 = .ok (.iload_n 1, 1) := by decide +kernel
theorem dX13_trails_195 : decode cX13_trails 195 = .ok (.imul, 1) := by decide +kernel
theorem dX13_trails_196 : decode cX13_trails 196 = .ok (.iload_n 3, 1) := by decide +kernel
theorem dX13_trails_197 : decode cX13_trails 197 = .ok (.iadd, 1) := by decide +kernel
theorem dX13_trails_198 : decode cX13_trails 198 = .ok (.laload, 1) := by decide +kernel
theorem dX13_trails_199 : decode cX13_trails 199 = .ok (.ladd, 1) := by decide +kernel
theorem dX13_trails_200 : decode cX13_trails 200 = .ok (.goto 4, 3) := by decide +kernel
theorem dX13_trails_203 : decode cX13_trails 203 = .ok (.lconst 0, 1) := by decide +kernel
theorem dX13_trails_204 : decode cX13_trails 204 = .ok (.lastore, 1) := by decide +kernel
theorem dX13_trails_205 : decode cX13_trails 205 = .ok (.iinc 3 1, 3) := by decide +kernel
theorem dX13_trails_208 : decode cX13_trails 208 = .ok (.goto (-59), 3) := by decide +kernel
theorem dX13_trails_211 : decode cX13_trails 211 = .ok (.return_, 1) := by decide +kernel
theorem dX13_trailAnswer_0 : decode cX13_trailAnswer 0 = .ok (.iload_n 1, 1) := by decide +kernel
theorem dX13_trailAnswer_1 : decode cX13_trailAnswer 1 = .ok (.invokestatic 134, 3) := by decide +kernel
theorem dX13_trailAnswer_4 : decode cX13_trailAnswer 4 = .ok (.ifCond .ne 5, 3) := by decide +kernel
theorem dX13_trailAnswer_7 : decode cX13_trailAnswer 7 = .ok (.iconst (-1), 1) := by decide +kernel
theorem dX13_trailAnswer_8 : decode cX13_trailAnswer 8 = .ok (.ireturn, 1) := by decide +kernel
theorem dX13_trailAnswer_9 : decode cX13_trailAnswer 9 = .ok (.aload_n 0, 1) := by decide +kernel
theorem dX13_trailAnswer_10 : decode cX13_trailAnswer 10 = .ok (.getfield 17, 3) := by decide +kernel
theorem dX13_trailAnswer_13 : decode cX13_trailAnswer 13 = .ok (.iload_n 1, 1) := by decide +kernel
theorem dX13_trailAnswer_14 : decode cX13_trailAnswer 14 = .ok (.iaload, 1) := by decide +kernel
theorem dX13_trailAnswer_15 : decode cX13_trailAnswer 15 = .ok (.ifCond .ge 6, 3) := by decide +kernel
theorem dX13_trailAnswer_18 : decode cX13_trailAnswer 18 = .ok (.bipush (-2), 2) := by decide +kernel
theorem dX13_trailAnswer_20 : decode cX13_trailAnswer 20 = .ok (.ireturn, 1) := by decide +kernel
theorem dX13_trailAnswer_21 : decode cX13_trailAnswer 21 = .ok (.aload_n 0, 1) := by decide +kernel
theorem dX13_trailAnswer_22 : decode cX13_trailAnswer 22 = .ok (.iload_n 1, 1) := by decide +kernel
theorem dX13_trailAnswer_23 : decode cX13_trailAnswer 23 = .ok (.iconst 4, 1) := by decide +kernel
theorem dX13_trailAnswer_24 : decode cX13_trailAnswer 24 = .ok (.invokevirtual 360, 3) := by decide +kernel
theorem dX13_trailAnswer_27 : decode cX13_trailAnswer 27 = .ok (.bipush (-9), 2) := by decide +kernel
theorem dX13_trailAnswer_29 : decode cX13_trailAnswer 29 = .ok (.if_icmp .eq 6, 3) := by decide +kernel
theorem dX13_trailAnswer_32 : decode cX13_trailAnswer 32 = .ok (.bipush (-7), 2) := by decide +kernel
theorem dX13_trailAnswer_34 : decode cX13_trailAnswer 34 = .ok (.ireturn, 1) := by decide +kernel
theorem dX13_trailAnswer_35 : decode cX13_trailAnswer 35 = .ok (.iconst 0, 1) := by decide +kernel
theorem dX13_trailAnswer_36 : decode cX13_trailAnswer 36 = .ok (.istore_n 2, 1) := by decide +kernel
theorem dX13_trailAnswer_37 : decode cX13_trailAnswer 37 = .ok (.aload_n 0, 1) := by decide +kernel
theorem dX13_trailAnswer_38 : decode cX13_trailAnswer 38 = .ok (.getfield 17, 3) := by decide +kernel
theorem dX13_trailAnswer_41 : decode cX13_trailAnswer 41 = .ok (.iload_n 1, 1) := by decide +kernel
theorem dX13_trailAnswer_42 : decode cX13_trailAnswer 42 = .ok (.iaload, 1) := by decide +kernel
theorem dX13_trailAnswer_43 : decode cX13_trailAnswer 43 = .ok (.iconst 1, 1) := by decide +kernel
theorem dX13_trailAnswer_44 : decode cX13_trailAnswer 44 = .ok (.isub, 1) := by decide +kernel
theorem dX13_trailAnswer_45 : decode cX13_trailAnswer 45 = .ok (.istore_n 3, 1) := by decide +kernel
theorem dX13_trailAnswer_46 : decode cX13_trailAnswer 46 = .ok (.iload_n 3, 1) := by decide +kernel
theorem dX13_trailAnswer_47 : decode cX13_trailAnswer 47 = .ok (.ifCond .lt 40, 3) := by decide +kernel
theorem dX13_trailAnswer_50 : decode cX13_trailAnswer 50 = .ok (.aload_n 0, 1) := by decide +kernel
theorem dX13_trailAnswer_51 : decode cX13_trailAnswer 51 = .ok (.iload_n 1, 1) := by decide +kernel
theorem dX13_trailAnswer_52 : decode cX13_trailAnswer 52 = .ok (.iload_n 3, 1) := by decide +kernel
theorem dX13_trailAnswer_53 : decode cX13_trailAnswer 53 = .ok (.invokevirtual 336, 3) := by decide +kernel
theorem dX13_trailAnswer_56 : decode cX13_trailAnswer 56 = .ok (.ifCond .eq 25, 3) := by decide +kernel
theorem dX13_trailAnswer_59 : decode cX13_trailAnswer 59 = .ok (.aload_n 0, 1) := by decide +kernel
theorem dX13_trailAnswer_60 : decode cX13_trailAnswer 60 = .ok (.aload_n 0, 1) := by decide +kernel
theorem dX13_trailAnswer_61 : decode cX13_trailAnswer 61 = .ok (.iload_n 1, 1) := by decide +kernel
theorem dX13_trailAnswer_62 : decode cX13_trailAnswer 62 = .ok (.iload_n 3, 1) := by decide +kernel
theorem dX13_trailAnswer_63 : decode cX13_trailAnswer 63 = .ok (.invokevirtual 128, 3) := by decide +kernel
theorem dX13_trailAnswer_66 : decode cX13_trailAnswer 66 = .ok (.iload_n 2, 1) := by decide +kernel
theorem dX13_trailAnswer_67 : decode cX13_trailAnswer 67 = .ok (.ifCond .ne 7, 3) := by decide +kernel
theorem dX13_trailAnswer_70 : decode cX13_trailAnswer 70 = .ok (.iconst 1, 1) := by decide +kernel
theorem dX13_trailAnswer_71 : decode cX13_trailAnswer 71 = .ok (.goto 4, 3) := by decide +kernel
theorem dX13_trailAnswer_74 : decode cX13_trailAnswer 74 = .ok (.iconst 0, 1) := by decide +kernel
theorem dX13_trailAnswer_75 : decode cX13_trailAnswer 75 = .ok (.invokevirtual 406, 3) := by decide +kernel
theorem dX13_trailAnswer_78 : decode cX13_trailAnswer 78 = .ok (.iinc 2 1, 3) := by decide +kernel
theorem dX13_trailAnswer_81 : decode cX13_trailAnswer 81 = .ok (.iinc 3 (-1), 3) := by decide +kernel
theorem dX13_trailAnswer_84 : decode cX13_trailAnswer 84 = .ok (.goto (-38), 3) := by decide +kernel
theorem dX13_trailAnswer_87 : decode cX13_trailAnswer 87 = .ok (.iload_n 2, 1) := by decide +kernel
theorem dX13_trailAnswer_88 : decode cX13_trailAnswer 88 = .ok (.ifCond .ne 16, 3) := by decide +kernel
theorem dX13_trailAnswer_91 : decode cX13_trailAnswer 91 = .ok (.aload_n 0, 1) := by decide +kernel
theorem dX13_trailAnswer_92 : decode cX13_trailAnswer 92 = .ok (.bipush (-9), 2) := by decide +kernel
theorem dX13_trailAnswer_94 : decode cX13_trailAnswer 94 = .ok (.putfield 13, 3) := by decide +kernel
theorem dX13_trailAnswer_97 : decode cX13_trailAnswer 97 = .ok (.aload_n 0, 1) := by decide +kernel
theorem dX13_trailAnswer_98 : decode cX13_trailAnswer 98 = .ok (.lconst 0, 1) := by decide +kernel
theorem dX13_trailAnswer_99 : decode cX13_trailAnswer 99 = .ok (.iconst 0, 1) := by decide +kernel
theorem dX13_trailAnswer_100 : decode cX13_trailAnswer 100 = .ok (.invokevirtual 243, 3) := by decide +kernel
theorem dX13_trailAnswer_103 : decode cX13_trailAnswer 103 = .ok (.ireturn, 1) := by decide +kernel
theorem dX13_trailAnswer_104 : decode cX13_trailAnswer 104 = .ok (.bipush (-9), 2) := by decide +kernel
theorem dX13_trailAnswer_106 : decode cX13_trailAnswer 106 = .ok (.istore_n 3, 1) := by decide +kernel
theorem dX13_trailAnswer_107 : decode cX13_trailAnswer 107 = .ok (.bipush 11, 2) := by decide +kernel
theorem dX13_trailAnswer_109 : decode cX13_trailAnswer 109 = .ok (.istore 4, 2) := by decide +kernel
theorem dX13_trailAnswer_111 : decode cX13_trailAnswer 111 = .ok (.iload 4, 2) := by decide +kernel
theorem dX13_trailAnswer_113 : decode cX13_trailAnswer 113 = .ok (.ifCond .lt 50, 3) := by decide +kernel
theorem dX13_trailAnswer_116 : decode cX13_trailAnswer 116 = .ok (.aload_n 0, 1) := by decide +kernel
theorem dX13_trailAnswer_117 : decode cX13_trailAnswer 117 = .ok (.getfield 58, 3) := by decide +kernel
theorem dX13_trailAnswer_120 : decode cX13_trailAnswer 120 = .ok (.iload 4, 2) := by decide +kernel
theorem dX13_trailAnswer_122 : decode cX13_trailAnswer 122 = .ok (.iaload, 1) := by decide +kernel
theorem dX13_trailAnswer_123 : decode cX13_trailAnswer 123 = .ok (.iconst 1, 1) := by decide +kernel
theorem dX13_trailAnswer_124 : decode cX13_trailAnswer 124 = .ok (.if_icmp .ne 31, 3) := by decide +kernel
theorem dX13_trailAnswer_127 : decode cX13_trailAnswer 127 = .ok (.iload_n 3, 1) := by decide +kernel
theorem dX13_trailAnswer_128 : decode cX13_trailAnswer 128 = .ok (.bipush (-9), 2) := by decide +kernel
theorem dX13_trailAnswer_130 : decode cX13_trailAnswer 130 = .ok (.if_icmp .eq 20, 3) := by decide +kernel
theorem dX13_trailAnswer_133 : decode cX13_trailAnswer 133 = .ok (.aload_n 0, 1) := by decide +kernel
theorem dX13_trailAnswer_134 : decode cX13_trailAnswer 134 = .ok (.getfield 55, 3) := by decide +kernel
theorem dX13_trailAnswer_137 : decode cX13_trailAnswer 137 = .ok (.iload 4, 2) := by decide +kernel
theorem dX13_trailAnswer_139 : decode cX13_trailAnswer 139 = .ok (.laload, 1) := by decide +kernel
theorem dX13_trailAnswer_140 : decode cX13_trailAnswer 140 = .ok (.aload_n 0, 1) := by decide +kernel
theorem dX13_trailAnswer_141 : decode cX13_trailAnswer 141 = .ok (.getfield 55, 3) := by decide +kernel
theorem dX13_trailAnswer_144 : decode cX13_trailAnswer 144 = .ok (.iload_n 3, 1) := by decide +kernel
theorem dX13_trailAnswer_145 : decode cX13_trailAnswer 145 = .ok (.laload, 1) := by decide +kernel
theorem dX13_trailAnswer_146 : decode cX13_trailAnswer 146 = .ok (.lcmp, 1) := by decide +kernel
theorem dX13_trailAnswer_147 : decode cX13_trailAnswer 147 = .ok (.ifCond .lt 8, 3) := by decide +kernel
theorem dX13_trailAnswer_150 : decode cX13_trailAnswer 150 = .ok (.iload 4, 2) := by decide +kernel
theorem dX13_trailAnswer_152 : decode cX13_trailAnswer 152 = .ok (.goto 4, 3) := by decide +kernel
theorem dX13_trailAnswer_155 : decode cX13_trailAnswer 155 = .ok (.iload_n 3, 1) := by decide +kernel
theorem dX13_trailAnswer_156 : decode cX13_trailAnswer 156 = .ok (.istore_n 3, 1) := by decide +kernel
theorem dX13_trailAnswer_157 : decode cX13_trailAnswer 157 = .ok (.iinc 4 (-1), 3) := by decide +kernel
theorem dX13_trailAnswer_160 : decode cX13_trailAnswer 160 = .ok (.goto (-49), 3) := by decide +kernel
theorem dX13_trailAnswer_163 : decode cX13_trailAnswer 163 = .ok (.iload_n 3, 1) := by decide +kernel
theorem dX13_trailAnswer_164 : decode cX13_trailAnswer 164 = .ok (.bipush (-9), 2) := by decide +kernel
theorem dX13_trailAnswer_166 : decode cX13_trailAnswer 166 = .ok (.if_icmp .ne 6, 3) := by decide +kernel
theorem dX13_trailAnswer_169 : decode cX13_trailAnswer 169 = .ok (.bipush (-9), 2) := by decide +kernel
theorem dX13_trailAnswer_171 : decode cX13_trailAnswer 171 = .ok (.ireturn, 1) := by decide +kernel
theorem dX13_trailAnswer_172 : decode cX13_trailAnswer 172 = .ok (.aload_n 0, 1) := by decide +kernel
theorem dX13_trailAnswer_173 : decode cX13_trailAnswer 173 = .ok (.iload_n 3, 1) := by decide +kernel
theorem dX13_trailAnswer_174 : decode cX13_trailAnswer 174 = .ok (.putfield 13, 3) := by decide +kernel
theorem dX13_trailAnswer_177 : decode cX13_trailAnswer 177 = .ok (.aload_n 0, 1) := by decide +kernel
theorem dX13_trailAnswer_178 : decode cX13_trailAnswer 178 = .ok (.aload_n 0, 1) := by decide +kernel
theorem dX13_trailAnswer_179 : decode cX13_trailAnswer 179 = .ok (.getfield 55, 3) := by decide +kernel
theorem dX13_trailAnswer_182 : decode cX13_trailAnswer 182 = .ok (.iload_n 3, 1) := by decide +kernel
theorem dX13_trailAnswer_183 : decode cX13_trailAnswer 183 = .ok (.laload, 1) := by decide +kernel
theorem dX13_trailAnswer_184 : decode cX13_trailAnswer 184 = .ok (.iload_n 2, 1) := by decide +kernel
theorem dX13_trailAnswer_185 : decode cX13_trailAnswer 185 = .ok (.invokevirtual 243, 3) := by decide +kernel
theorem dX13_trailAnswer_188 : decode cX13_trailAnswer 188 = .ok (.ireturn, 1) := by decide +kernel
theorem dX13_trail_0 : decode cX13_trail 0 = .ok (.aload_n 0, 1) := by decide +kernel
theorem dX13_trail_1 : decode cX13_trail 1 = .ok (.aload_n 0, 1) := by decide +kernel
theorem dX13_trail_2 : decode cX13_trail 2 = .ok (.iload_n 1, 1) := by decide +kernel
theorem dX13_trail_3 : decode cX13_trail 3 = .ok (.invokevirtual 410, 3) := by decide +kernel
theorem dX13_trail_6 : decode cX13_trail 6 = .ok (.invokevirtual 137, 3) := by decide +kernel
theorem dX13_trail_9 : decode cX13_trail 9 = .ok (.ireturn, 1) := by decide +kernel
theorem dX13_cellAt_0 : decode cX13_cellAt 0 = .ok (.bipush 12, 2) := by decide +kernel
theorem dX13_cellAt_2 : decode cX13_cellAt 2 = .ok (.aload_n 0, 1) := by decide +kernel
theorem dX13_cellAt_3 : decode cX13_cellAt 3 = .ok (.iload_n 1, 1) := by decide +kernel
theorem dX13_cellAt_4 : decode cX13_cellAt 4 = .ok (.iload_n 2, 1) := by decide +kernel
theorem dX13_cellAt_5 : decode cX13_cellAt 5 = .ok (.bipush 12, 2) := by decide +kernel
theorem dX13_cellAt_7 : decode cX13_cellAt 7 = .ok (.idiv, 1) := by decide +kernel
theorem dX13_cellAt_8 : decode cX13_cellAt 8 = .ok (.invokevirtual 128, 3) := by decide +kernel
theorem dX13_cellAt_11 : decode cX13_cellAt 11 = .ok (.imul, 1) := by decide +kernel
theorem dX13_cellAt_12 : decode cX13_cellAt 12 = .ok (.iload_n 2, 1) := by decide +kernel
theorem dX13_cellAt_13 : decode cX13_cellAt 13 = .ok (.bipush 12, 2) := by decide +kernel
theorem dX13_cellAt_15 : decode cX13_cellAt 15 = .ok (.irem, 1) := by decide +kernel
theorem dX13_cellAt_16 : decode cX13_cellAt 16 = .ok (.iadd, 1) := by decide +kernel
theorem dX13_cellAt_17 : decode cX13_cellAt 17 = .ok (.ireturn, 1) := by decide +kernel
theorem dX13_joins_0 : decode cX13_joins 0 = .ok (.aload_n 0, 1) := by decide +kernel
theorem dX13_joins_1 : decode cX13_joins 1 = .ok (.getfield 67, 3) := by decide +kernel
theorem dX13_joins_4 : decode cX13_joins 4 = .ok (.iload_n 3, 1) := by decide +kernel
theorem dX13_joins_5 : decode cX13_joins 5 = .ok (.iaload, 1) := by decide +kernel
theorem dX13_joins_6 : decode cX13_joins 6 = .ok (.iload 4, 2) := by decide +kernel
theorem dX13_joins_8 : decode cX13_joins 8 = .ok (.if_icmp .ne 42, 3) := by decide +kernel
theorem dX13_joins_11 : decode cX13_joins 11 = .ok (.aload_n 0, 1) := by decide +kernel
theorem dX13_joins_12 : decode cX13_joins 12 = .ok (.iload_n 1, 1) := by decide +kernel
theorem dX13_joins_13 : decode cX13_joins 13 = .ok (.iload_n 2, 1) := by decide +kernel
theorem dX13_joins_14 : decode cX13_joins 14 = .ok (.bipush 12, 2) := by decide +kernel
theorem dX13_joins_16 : decode cX13_joins 16 = .ok (.idiv, 1) := by decide +kernel
theorem dX13_joins_17 : decode cX13_joins 17 = .ok (.iload_n 2, 1) := by decide +kernel
theorem dX13_joins_18 : decode cX13_joins 18 = .ok (.bipush 12, 2) := by decide +kernel
theorem dX13_joins_20 : decode cX13_joins 20 = .ok (.irem, 1) := by decide +kernel
theorem dX13_joins_21 : decode cX13_joins 21 = .ok (.invokevirtual 348, 3) := by decide +kernel
theorem dX13_joins_24 : decode cX13_joins 24 = .ok (.ifCond .eq 26, 3) := by decide +kernel
theorem dX13_joins_27 : decode cX13_joins 27 = .ok (.aload_n 0, 1) := by decide +kernel
theorem dX13_joins_28 : decode cX13_joins 28 = .ok (.aload_n 0, 1) := by decide +kernel
theorem dX13_joins_29 : decode cX13_joins 29 = .ok (.iload_n 1, 1) := by decide +kernel
theorem dX13_joins_30 : decode cX13_joins 30 = .ok (.iload_n 3, 1) := by decide +kernel
theorem dX13_joins_31 : decode cX13_joins 31 = .ok (.invokevirtual 413, 3) := by decide +kernel
theorem dX13_joins_34 : decode cX13_joins 34 = .ok (.aload_n 0, 1) := by decide +kernel
theorem dX13_joins_35 : decode cX13_joins 35 = .ok (.iload_n 1, 1) := by decide +kernel
theorem dX13_joins_36 : decode cX13_joins 36 = .ok (.iload_n 2, 1) := by decide +kernel
theorem dX13_joins_37 : decode cX13_joins 37 = .ok (.invokevirtual 413, 3) := by decide +kernel
theorem dX13_joins_40 : decode cX13_joins 40 = .ok (.invokevirtual 274, 3) := by decide +kernel
theorem dX13_joins_43 : decode cX13_joins 43 = .ok (.ifCond .eq 7, 3) := by decide +kernel
theorem dX13_joins_46 : decode cX13_joins 46 = .ok (.iconst 1, 1) := by decide +kernel
theorem dX13_joins_47 : decode cX13_joins 47 = .ok (.goto 4, 3) := by decide +kernel
theorem dX13_joins_50 : decode cX13_joins 50 = .ok (.iconst 0, 1) := by decide +kernel
theorem dX13_joins_51 : decode cX13_joins 51 = .ok (.ireturn, 1) := by decide +kernel
theorem dX13_isBeside_0 : decode cX13_isBeside 0 = .ok (.iload_n 2, 1) := by decide +kernel
theorem dX13_isBeside_1 : decode cX13_isBeside 1 = .ok (.bipush 12, 2) := by decide +kernel
theorem dX13_isBeside_3 : decode cX13_isBeside 3 = .ok (.irem, 1) := by decide +kernel
theorem dX13_isBeside_4 : decode cX13_isBeside 4 = .ok (.istore 4, 2) := by decide +kernel
theorem dX13_isBeside_6 : decode cX13_isBeside 6 = .ok (.iload 4, 2) := by decide +kernel
theorem dX13_isBeside_8 : decode cX13_isBeside 8 = .ok (.ifCond .le 20, 3) := by decide +kernel
theorem dX13_isBeside_11 : decode cX13_isBeside 11 = .ok (.aload_n 0, 1) := by decide +kernel
theorem dX13_isBeside_12 : decode cX13_isBeside 12 = .ok (.iload_n 1, 1) := by decide +kernel
theorem dX13_isBeside_13 : decode cX13_isBeside 13 = .ok (.iload_n 2, 1) := by decide +kernel
theorem dX13_isBeside_14 : decode cX13_isBeside 14 = .ok (.iload_n 2, 1) := by decide +kernel
theorem dX13_isBeside_15 : decode cX13_isBeside 15 = .ok (.iconst 1, 1) := by decide +kernel
theorem dX13_isBeside_16 : decode cX13_isBeside 16 = .ok (.isub, 1) := by decide +kernel
theorem dX13_isBeside_17 : decode cX13_isBeside 17 = .ok (.iload_n 3, 1) := by decide +kernel
theorem dX13_isBeside_18 : decode cX13_isBeside 18 = .ok (.invokevirtual 416, 3) := by decide +kernel
theorem dX13_isBeside_21 : decode cX13_isBeside 21 = .ok (.ifCond .eq 7, 3) := by decide +kernel
theorem dX13_isBeside_24 : decode cX13_isBeside 24 = .ok (.iconst 1, 1) := by decide +kernel
theorem dX13_isBeside_25 : decode cX13_isBeside 25 = .ok (.goto 4, 3) := by decide +kernel
theorem dX13_isBeside_28 : decode cX13_isBeside 28 = .ok (.iconst 0, 1) := by decide +kernel
theorem dX13_isBeside_29 : decode cX13_isBeside 29 = .ok (.istore 5, 2) := by decide +kernel
theorem dX13_isBeside_31 : decode cX13_isBeside 31 = .ok (.iload 5, 2) := by decide +kernel
theorem dX13_isBeside_33 : decode cX13_isBeside 33 = .ok (.ifCond .ne 23, 3) := by decide +kernel
theorem dX13_isBeside_36 : decode cX13_isBeside 36 = .ok (.iload 4, 2) := by decide +kernel
theorem dX13_isBeside_38 : decode cX13_isBeside 38 = .ok (.bipush 11, 2) := by decide +kernel
theorem dX13_isBeside_40 : decode cX13_isBeside 40 = .ok (.if_icmp .ge 20, 3) := by decide +kernel
theorem dX13_isBeside_43 : decode cX13_isBeside 43 = .ok (.aload_n 0, 1) := by decide +kernel
theorem dX13_isBeside_44 : decode cX13_isBeside 44 = .ok (.iload_n 1, 1) := by decide +kernel
theorem dX13_isBeside_45 : decode cX13_isBeside 45 = .ok (.iload_n 2, 1) := by decide +kernel
theorem dX13_isBeside_46 : decode cX13_isBeside 46 = .ok (.iload_n 2, 1) := by decide +kernel
theorem dX13_isBeside_47 : decode cX13_isBeside 47 = .ok (.iconst 1, 1) := by decide +kernel
theorem dX13_isBeside_48 : decode cX13_isBeside 48 = .ok (.iadd, 1) := by decide +kernel
theorem dX13_isBeside_49 : decode cX13_isBeside 49 = .ok (.iload_n 3, 1) := by decide +kernel
theorem dX13_isBeside_50 : decode cX13_isBeside 50 = .ok (.invokevirtual 416, 3) := by decide +kernel
theorem dX13_isBeside_53 : decode cX13_isBeside 53 = .ok (.ifCond .eq 7, 3) := by decide +kernel
theorem dX13_isBeside_56 : decode cX13_isBeside 56 = .ok (.iconst 1, 1) := by decide +kernel
theorem dX13_isBeside_57 : decode cX13_isBeside 57 = .ok (.goto 4, 3) := by decide +kernel
theorem dX13_isBeside_60 : decode cX13_isBeside 60 = .ok (.iconst 0, 1) := by decide +kernel
theorem dX13_isBeside_61 : decode cX13_isBeside 61 = .ok (.istore 5, 2) := by decide +kernel
theorem dX13_isBeside_63 : decode cX13_isBeside 63 = .ok (.iload 5, 2) := by decide +kernel
theorem dX13_isBeside_65 : decode cX13_isBeside 65 = .ok (.ifCond .ne 23, 3) := by decide +kernel
theorem dX13_isBeside_68 : decode cX13_isBeside 68 = .ok (.iload_n 2, 1) := by decide +kernel
theorem dX13_isBeside_69 : decode cX13_isBeside 69 = .ok (.bipush 12, 2) := by decide +kernel
theorem dX13_isBeside_71 : decode cX13_isBeside 71 = .ok (.if_icmp .lt 21, 3) := by decide +kernel
theorem dX13_isBeside_74 : decode cX13_isBeside 74 = .ok (.aload_n 0, 1) := by decide +kernel
theorem dX13_isBeside_75 : decode cX13_isBeside 75 = .ok (.iload_n 1, 1) := by decide +kernel
theorem dX13_isBeside_76 : decode cX13_isBeside 76 = .ok (.iload_n 2, 1) := by decide +kernel
theorem dX13_isBeside_77 : decode cX13_isBeside 77 = .ok (.iload_n 2, 1) := by decide +kernel
theorem dX13_isBeside_78 : decode cX13_isBeside 78 = .ok (.bipush 12, 2) := by decide +kernel
theorem dX13_isBeside_80 : decode cX13_isBeside 80 = .ok (.isub, 1) := by decide +kernel
theorem dX13_isBeside_81 : decode cX13_isBeside 81 = .ok (.iload_n 3, 1) := by decide +kernel
theorem dX13_isBeside_82 : decode cX13_isBeside 82 = .ok (.invokevirtual 416, 3) := by decide +kernel
theorem dX13_isBeside_85 : decode cX13_isBeside 85 = .ok (.ifCond .eq 7, 3) := by decide +kernel
theorem dX13_isBeside_88 : decode cX13_isBeside 88 = .ok (.iconst 1, 1) := by decide +kernel
theorem dX13_isBeside_89 : decode cX13_isBeside 89 = .ok (.goto 4, 3) := by decide +kernel
theorem dX13_isBeside_92 : decode cX13_isBeside 92 = .ok (.iconst 0, 1) := by decide +kernel
theorem dX13_isBeside_93 : decode cX13_isBeside 93 = .ok (.istore 5, 2) := by decide +kernel
theorem dX13_isBeside_95 : decode cX13_isBeside 95 = .ok (.iload 5, 2) := by decide +kernel
theorem dX13_isBeside_97 : decode cX13_isBeside 97 = .ok (.ifCond .ne 23, 3) := by decide +kernel
theorem dX13_isBeside_100 : decode cX13_isBeside 100 = .ok (.iload_n 2, 1) := by decide +kernel
theorem dX13_isBeside_101 : decode cX13_isBeside 101 = .ok (.bipush 60, 2) := by decide +kernel
theorem dX13_isBeside_103 : decode cX13_isBeside 103 = .ok (.if_icmp .ge 21, 3) := by decide +kernel
theorem dX13_isBeside_106 : decode cX13_isBeside 106 = .ok (.aload_n 0, 1) := by decide +kernel
theorem dX13_isBeside_107 : decode cX13_isBeside 107 = .ok (.iload_n 1, 1) := by decide +kernel
theorem dX13_isBeside_108 : decode cX13_isBeside 108 = .ok (.iload_n 2, 1) := by decide +kernel
theorem dX13_isBeside_109 : decode cX13_isBeside 109 = .ok (.iload_n 2, 1) := by decide +kernel
theorem dX13_isBeside_110 : decode cX13_isBeside 110 = .ok (.bipush 12, 2) := by decide +kernel
theorem dX13_isBeside_112 : decode cX13_isBeside 112 = .ok (.iadd, 1) := by decide +kernel
theorem dX13_isBeside_113 : decode cX13_isBeside 113 = .ok (.iload_n 3, 1) := by decide +kernel
theorem dX13_isBeside_114 : decode cX13_isBeside 114 = .ok (.invokevirtual 416, 3) := by decide +kernel
theorem dX13_isBeside_117 : decode cX13_isBeside 117 = .ok (.ifCond .eq 7, 3) := by decide +kernel
theorem dX13_isBeside_120 : decode cX13_isBeside 120 = .ok (.iconst 1, 1) := by decide +kernel
theorem dX13_isBeside_121 : decode cX13_isBeside 121 = .ok (.goto 4, 3) := by decide +kernel
theorem dX13_isBeside_124 : decode cX13_isBeside 124 = .ok (.iconst 0, 1) := by decide +kernel
theorem dX13_isBeside_125 : decode cX13_isBeside 125 = .ok (.ireturn, 1) := by decide +kernel
theorem dX13_grows_0 : decode cX13_grows 0 = .ok (.aload_n 0, 1) := by decide +kernel
theorem dX13_grows_1 : decode cX13_grows 1 = .ok (.getfield 67, 3) := by decide +kernel
theorem dX13_grows_4 : decode cX13_grows 4 = .ok (.iload_n 2, 1) := by decide +kernel
theorem dX13_grows_5 : decode cX13_grows 5 = .ok (.iload_n 3, 1) := by decide +kernel
theorem dX13_grows_6 : decode cX13_grows 6 = .ok (.iastore, 1) := by decide +kernel
theorem dX13_grows_7 : decode cX13_grows 7 = .ok (.iconst 1, 1) := by decide +kernel
theorem dX13_grows_8 : decode cX13_grows 8 = .ok (.istore 4, 2) := by decide +kernel
theorem dX13_grows_10 : decode cX13_grows 10 = .ok (.iconst 1, 1) := by decide +kernel
theorem dX13_grows_11 : decode cX13_grows 11 = .ok (.istore 5, 2) := by decide +kernel
theorem dX13_grows_13 : decode cX13_grows 13 = .ok (.iload 5, 2) := by decide +kernel
theorem dX13_grows_15 : decode cX13_grows 15 = .ok (.ifCond .eq 60, 3) := by decide +kernel
theorem dX13_grows_18 : decode cX13_grows 18 = .ok (.iconst 0, 1) := by decide +kernel
theorem dX13_grows_19 : decode cX13_grows 19 = .ok (.istore 5, 2) := by decide +kernel
theorem dX13_grows_21 : decode cX13_grows 21 = .ok (.iconst 0, 1) := by decide +kernel
theorem dX13_grows_22 : decode cX13_grows 22 = .ok (.istore 6, 2) := by decide +kernel
theorem dX13_grows_24 : decode cX13_grows 24 = .ok (.iload 6, 2) := by decide +kernel
theorem dX13_grows_26 : decode cX13_grows 26 = .ok (.bipush 72, 2) := by decide +kernel
theorem dX13_grows_28 : decode cX13_grows 28 = .ok (.if_icmp .ge 44, 3) := by decide +kernel
theorem dX13_grows_31 : decode cX13_grows 31 = .ok (.aload_n 0, 1) := by decide +kernel
theorem dX13_grows_32 : decode cX13_grows 32 = .ok (.getfield 67, 3) := by decide +kernel
theorem dX13_grows_35 : decode cX13_grows 35 = .ok (.iload 6, 2) := by decide +kernel
theorem dX13_grows_37 : decode cX13_grows 37 = .ok (.iaload, 1) := by decide +kernel
theorem dX13_grows_38 : decode cX13_grows 38 = .ok (.ifCond .ne 28, 3) := by decide +kernel
theorem dX13_grows_41 : decode cX13_grows 41 = .ok (.aload_n 0, 1) := by decide +kernel
theorem dX13_grows_42 : decode cX13_grows 42 = .ok (.iload_n 1, 1) := by decide +kernel
theorem dX13_grows_43 : decode cX13_grows 43 = .ok (.iload 6, 2) := by decide +kernel
theorem dX13_grows_45 : decode cX13_grows 45 = .ok (.iload_n 3, 1) := by decide +kernel
theorem dX13_grows_46 : decode cX13_grows 46 = .ok (.invokevirtual 419, 3) := by decide +kernel
theorem dX13_grows_49 : decode cX13_grows 49 = .ok (.ifCond .eq 17, 3) := by decide +kernel
theorem dX13_grows_52 : decode cX13_grows 52 = .ok (.aload_n 0, 1) := by decide +kernel
theorem dX13_grows_53 : decode cX13_grows 53 = .ok (.getfield 67, 3) := by decide +kernel
theorem dX13_grows_56 : decode cX13_grows 56 = .ok (.iload 6, 2) := by decide +kernel
theorem dX13_grows_58 : decode cX13_grows 58 = .ok (.iload_n 3, 1) := by decide +kernel
theorem dX13_grows_59 : decode cX13_grows 59 = .ok (.iastore, 1) := by decide +kernel
theorem dX13_grows_60 : decode cX13_grows 60 = .ok (.iinc 4 1, 3) := by decide +kernel
theorem dX13_grows_63 : decode cX13_grows 63 = .ok (.iconst 1, 1) := by decide +kernel
theorem dX13_grows_64 : decode cX13_grows 64 = .ok (.istore 5, 2) := by decide +kernel
theorem dX13_grows_66 : decode cX13_grows 66 = .ok (.iinc 6 1, 3) := by decide +kernel
theorem dX13_grows_69 : decode cX13_grows 69 = .ok (.goto (-45), 3) := by decide +kernel
theorem dX13_grows_72 : decode cX13_grows 72 = .ok (.goto (-59), 3) := by decide +kernel
theorem dX13_grows_75 : decode cX13_grows 75 = .ok (.iload 4, 2) := by decide +kernel
theorem dX13_grows_77 : decode cX13_grows 77 = .ok (.ireturn, 1) := by decide +kernel
theorem dX13_noMarks_0 : decode cX13_noMarks 0 = .ok (.iconst 0, 1) := by decide +kernel
theorem dX13_noMarks_1 : decode cX13_noMarks 1 = .ok (.istore_n 1, 1) := by decide +kernel
theorem dX13_noMarks_2 : decode cX13_noMarks 2 = .ok (.iload_n 1, 1) := by decide +kernel
theorem dX13_noMarks_3 : decode cX13_noMarks 3 = .ok (.bipush 72, 2) := by decide +kernel
theorem dX13_noMarks_5 : decode cX13_noMarks 5 = .ok (.if_icmp .ge 16, 3) := by decide +kernel
theorem dX13_noMarks_8 : decode cX13_noMarks 8 = .ok (.aload_n 0, 1) := by decide +kernel
theorem dX13_noMarks_9 : decode cX13_noMarks 9 = .ok (.getfield 67, 3) := by decide +kernel
theorem dX13_noMarks_12 : decode cX13_noMarks 12 = .ok (.iload_n 1, 1) := by decide +kernel
theorem dX13_noMarks_13 : decode cX13_noMarks 13 = .ok (.iconst 0, 1) := by decide +kernel
theorem dX13_noMarks_14 : decode cX13_noMarks 14 = .ok (.iastore, 1) := by decide +kernel
theorem dX13_noMarks_15 : decode cX13_noMarks 15 = .ok (.iinc 1 1, 3) := by decide +kernel
theorem dX13_noMarks_18 : decode cX13_noMarks 18 = .ok (.goto (-16), 3) := by decide +kernel
theorem dX13_noMarks_21 : decode cX13_noMarks 21 = .ok (.return_, 1) := by decide +kernel
theorem dX13_patchAnswer_0 : decode cX13_patchAnswer 0 = .ok (.iload_n 1, 1) := by decide +kernel
theorem dX13_patchAnswer_1 : decode cX13_patchAnswer 1 = .ok (.invokestatic 134, 3) := by decide +kernel
theorem dX13_patchAnswer_4 : decode cX13_patchAnswer 4 = .ok (.ifCond .ne 5, 3) := by decide +kernel
theorem dX13_patchAnswer_7 : decode cX13_patchAnswer 7 = .ok (.iconst (-1), 1) := by decide +kernel
theorem dX13_patchAnswer_8 : decode cX13_patchAnswer 8 = .ok (.ireturn, 1) := by decide +kernel
theorem dX13_patchAnswer_9 : decode cX13_patchAnswer 9 = .ok (.aload_n 0, 1) := by decide +kernel
theorem dX13_patchAnswer_10 : decode cX13_patchAnswer 10 = .ok (.iload_n 1, 1) := by decide +kernel
theorem dX13_patchAnswer_11 : decode cX13_patchAnswer 11 = .ok (.iload_n 2, 1) := by decide +kernel
theorem dX13_patchAnswer_12 : decode cX13_patchAnswer 12 = .ok (.iload_n 3, 1) := by decide +kernel
theorem dX13_patchAnswer_13 : decode cX13_patchAnswer 13 = .ok (.invokevirtual 230, 3) := by decide +kernel
theorem dX13_patchAnswer_16 : decode cX13_patchAnswer 16 = .ok (.istore 4, 2) := by decide +kernel
theorem dX13_patchAnswer_18 : decode cX13_patchAnswer 18 = .ok (.iload 4, 2) := by decide +kernel
theorem dX13_patchAnswer_20 : decode cX13_patchAnswer 20 = .ok (.ifCond .eq 6, 3) := by decide +kernel
theorem dX13_patchAnswer_23 : decode cX13_patchAnswer 23 = .ok (.iload 4, 2) := by decide +kernel
theorem dX13_patchAnswer_25 : decode cX13_patchAnswer 25 = .ok (.ireturn, 1) := by decide +kernel
theorem dX13_patchAnswer_26 : decode cX13_patchAnswer 26 = .ok (.aload_n 0, 1) := by decide +kernel
theorem dX13_patchAnswer_27 : decode cX13_patchAnswer 27 = .ok (.invokevirtual 422, 3) := by decide +kernel
theorem dX13_patchAnswer_30 : decode cX13_patchAnswer 30 = .ok (.aload_n 0, 1) := by decide +kernel
theorem dX13_patchAnswer_31 : decode cX13_patchAnswer 31 = .ok (.iload_n 1, 1) := by decide +kernel
theorem dX13_patchAnswer_32 : decode cX13_patchAnswer 32 = .ok (.bipush 12, 2) := by decide +kernel
theorem dX13_patchAnswer_34 : decode cX13_patchAnswer 34 = .ok (.iload_n 2, 1) := by decide +kernel
theorem dX13_patchAnswer_35 : decode cX13_patchAnswer 35 = .ok (.imul, 1) := by decide +kernel
theorem dX13_patchAnswer_36 : decode cX13_patchAnswer 36 = .ok (.iload_n 3, 1) := by decide +kernel
theorem dX13_patchAnswer_37 : decode cX13_patchAnswer 37 = .ok (.iadd, 1) := by decide +kernel
theorem dX13_patchAnswer_38 : decode cX13_patchAnswer 38 = .ok (.iconst 1, 1) := by decide +kernel
theorem dX13_patchAnswer_39 : decode cX13_patchAnswer 39 = .ok (.invokevirtual 425, 3) := by decide +kernel
theorem dX13_patchAnswer_42 : decode cX13_patchAnswer 42 = .ok (.istore 5, 2) := by decide +kernel
theorem dX13_patchAnswer_44 : decode cX13_patchAnswer 44 = .ok (.iconst 0, 1) := by decide +kernel
theorem dX13_patchAnswer_45 : decode cX13_patchAnswer 45 = .ok (.istore 6, 2) := by decide +kernel
theorem dX13_patchAnswer_47 : decode cX13_patchAnswer 47 = .ok (.aload_n 0, 1) := by decide +kernel
theorem dX13_patchAnswer_48 : decode cX13_patchAnswer 48 = .ok (.getfield 67, 3) := by decide +kernel
theorem dX13_patchAnswer_51 : decode cX13_patchAnswer 51 = .ok (.iload 6, 2) := by decide +kernel
theorem dX13_patchAnswer_53 : decode cX13_patchAnswer 53 = .ok (.iaload, 1) := by decide +kernel
theorem dX13_patchAnswer_54 : decode cX13_patchAnswer 54 = .ok (.ifCond .ne 9, 3) := by decide +kernel
theorem dX13_patchAnswer_57 : decode cX13_patchAnswer 57 = .ok (.iinc 6 1, 3) := by decide +kernel
theorem dX13_patchAnswer_60 : decode cX13_patchAnswer 60 = .ok (.goto (-13), 3) := by decide +kernel
theorem dX13_patchAnswer_63 : decode cX13_patchAnswer 63 = .ok (.aload_n 0, 1) := by decide +kernel
theorem dX13_patchAnswer_64 : decode cX13_patchAnswer 64 = .ok (.ldc2_w 428, 3) := by decide +kernel
theorem dX13_patchAnswer_67 : decode cX13_patchAnswer 67 = .ok (.iload 6, 2) := by decide +kernel
theorem dX13_patchAnswer_69 : decode cX13_patchAnswer 69 = .ok (.bipush 12, 2) := by decide +kernel
theorem dX13_patchAnswer_71 : decode cX13_patchAnswer 71 = .ok (.idiv, 1) := by decide +kernel
theorem dX13_patchAnswer_72 : decode cX13_patchAnswer 72 = .ok (.i2l, 1) := by decide +kernel
theorem dX13_patchAnswer_73 : decode cX13_patchAnswer 73 = .ok (.lmul, 1) := by decide +kernel
theorem dX13_patchAnswer_74 : decode cX13_patchAnswer 74 = .ok (.iload 6, 2) := by decide +kernel
theorem dX13_patchAnswer_76 : decode cX13_patchAnswer 76 = .ok (.bipush 12, 2) := by decide +kernel
theorem dX13_patchAnswer_78 : decode cX13_patchAnswer 78 = .ok (.irem, 1) := by decide +kernel
theorem dX13_patchAnswer_79 : decode cX13_patchAnswer 79 = .ok (.i2l, 1) := by decide +kernel
theorem dX13_patchAnswer_80 : decode cX13_patchAnswer 80 = .ok (.ladd, 1) := by decide +kernel
theorem dX13_patchAnswer_81 : decode cX13_patchAnswer 81 = .ok (.iload 5, 2) := by decide +kernel
theorem dX13_patchAnswer_83 : decode cX13_patchAnswer 83 = .ok (.invokevirtual 243, 3) := by decide +kernel
theorem dX13_patchAnswer_86 : decode cX13_patchAnswer 86 = .ok (.ireturn, 1) := by decide +kernel
theorem dX13_patch_0 : decode cX13_patch 0 = .ok (.aload_n 0, 1) := by decide +kernel
theorem dX13_patch_1 : decode cX13_patch 1 = .ok (.aload_n 0, 1) := by decide +kernel
theorem dX13_patch_2 : decode cX13_patch 2 = .ok (.iload_n 1, 1) := by decide +kernel
theorem dX13_patch_3 : decode cX13_patch 3 = .ok (.iload_n 2, 1) := by decide +kernel
theorem dX13_patch_4 : decode cX13_patch 4 = .ok (.iload_n 3, 1) := by decide +kernel
theorem dX13_patch_5 : decode cX13_patch 5 = .ok (.invokevirtual 430, 3) := by decide +kernel
theorem dX13_patch_8 : decode cX13_patch 8 = .ok (.invokevirtual 137, 3) := by decide +kernel
theorem dX13_patch_11 : decode cX13_patch 11 = .ok (.ireturn, 1) := by decide +kernel
theorem dX13_patchesAnswer_0 : decode cX13_patchesAnswer 0 = .ok (.iload_n 1, 1) := by decide +kernel
theorem dX13_patchesAnswer_1 : decode cX13_patchesAnswer 1 = .ok (.invokestatic 134, 3) := by decide +kernel
theorem dX13_patchesAnswer_4 : decode cX13_patchesAnswer 4 = .ok (.ifCond .ne 5, 3) := by decide +kernel
theorem dX13_patchesAnswer_7 : decode cX13_patchesAnswer 7 = .ok (.iconst (-1), 1) := by decide +kernel
theorem dX13_patchesAnswer_8 : decode cX13_patchesAnswer 8 = .ok (.ireturn, 1) := by decide +kernel
theorem dX13_patchesAnswer_9 : decode cX13_patchesAnswer 9 = .ok (.aload_n 0, 1) := by decide +kernel
theorem dX13_patchesAnswer_10 : decode cX13_patchesAnswer 10 = .ok (.getfield 17, 3) := by decide +kernel
theorem dX13_patchesAnswer_13 : decode cX13_patchesAnswer 13 = .ok (.iload_n 1, 1) := by decide +kernel
theorem dX13_patchesAnswer_14 : decode cX13_patchesAnswer 14 = .ok (.iaload, 1) := by decide +kernel
theorem dX13_patchesAnswer_15 : decode cX13_patchesAnswer 15 = .ok (.ifCond .ge 6, 3) := by decide +kernel
theorem dX13_patchesAnswer_18 : decode cX13_patchesAnswer 18 = .ok (.bipush (-2), 2) := by decide +kernel
theorem dX13_patchesAnswer_20 : decode cX13_patchesAnswer 20 = .ok (.ireturn, 1) := by decide +kernel
theorem dX13_patchesAnswer_21 : decode cX13_patchesAnswer 21 = .ok (.aload_n 0, 1) := by decide +kernel
theorem dX13_patchesAnswer_22 : decode cX13_patchesAnswer 22 = .ok (.invokevirtual 422, 3) := by decide +kernel
theorem dX13_patchesAnswer_25 : decode cX13_patchesAnswer 25 = .ok (.iconst 0, 1) := by decide +kernel
theorem dX13_patchesAnswer_26 : decode cX13_patchesAnswer 26 = .ok (.istore_n 2, 1) := by decide +kernel
theorem dX13_patchesAnswer_27 : decode cX13_patchesAnswer 27 = .ok (.iconst 0, 1) := by decide +kernel
theorem dX13_patchesAnswer_28 : decode cX13_patchesAnswer 28 = .ok (.istore_n 3, 1) := by decide +kernel
theorem dX13_patchesAnswer_29 : decode cX13_patchesAnswer 29 = .ok (.iconst 0, 1) := by decide +kernel
theorem dX13_patchesAnswer_30 : decode cX13_patchesAnswer 30 = .ok (.istore 4, 2) := by decide +kernel
theorem dX13_patchesAnswer_32 : decode cX13_patchesAnswer 32 = .ok (.iload 4, 2) := by decide +kernel
theorem dX13_patchesAnswer_34 : decode cX13_patchesAnswer 34 = .ok (.bipush 12, 2) := by decide +kernel
theorem dX13_patchesAnswer_36 : decode cX13_patchesAnswer 36 = .ok (.aload_n 0, 1) := by decide +kernel
theorem dX13_patchesAnswer_37 : decode cX13_patchesAnswer 37 = .ok (.getfield 17, 3) := by decide +kernel
theorem dX13_patchesAnswer_40 : decode cX13_patchesAnswer 40 = .ok (.iload_n 1, 1) := by decide +kernel
theorem dX13_patchesAnswer_41 : decode cX13_patchesAnswer 41 = .ok (.iaload, 1) := by decide +kernel
theorem dX13_patchesAnswer_42 : decode cX13_patchesAnswer 42 = .ok (.imul, 1) := by decide +kernel
theorem dX13_patchesAnswer_43 : decode cX13_patchesAnswer 43 = .ok (.if_icmp .ge 63, 3) := by decide +kernel
theorem dX13_patchesAnswer_46 : decode cX13_patchesAnswer 46 = .ok (.aload_n 0, 1) := by decide +kernel
theorem dX13_patchesAnswer_47 : decode cX13_patchesAnswer 47 = .ok (.getfield 67, 3) := by decide +kernel
theorem dX13_patchesAnswer_50 : decode cX13_patchesAnswer 50 = .ok (.iload 4, 2) := by decide +kernel
theorem dX13_patchesAnswer_52 : decode cX13_patchesAnswer 52 = .ok (.iaload, 1) := by decide +kernel
theorem dX13_patchesAnswer_53 : decode cX13_patchesAnswer 53 = .ok (.ifCond .ne 47, 3) := by decide +kernel
theorem dX13_patchesAnswer_56 : decode cX13_patchesAnswer 56 = .ok (.aload_n 0, 1) := by decide +kernel
theorem dX13_patchesAnswer_57 : decode cX13_patchesAnswer 57 = .ok (.iload_n 1, 1) := by decide +kernel
theorem dX13_patchesAnswer_58 : decode cX13_patchesAnswer 58 = .ok (.iload 4, 2) := by decide +kernel
theorem dX13_patchesAnswer_60 : decode cX13_patchesAnswer 60 = .ok (.bipush 12, 2) := by decide +kernel
theorem dX13_patchesAnswer_62 : decode cX13_patchesAnswer 62 = .ok (.idiv, 1) := by decide +kernel
theorem dX13_patchesAnswer_63 : decode cX13_patchesAnswer 63 = .ok (.iload 4, 2) := by decide +kernel
theorem dX13_patchesAnswer_65 : decode cX13_patchesAnswer 65 = .ok (.bipush 12, 2) := by decide +kernel
theorem dX13_patchesAnswer_67 : decode cX13_patchesAnswer 67 = .ok (.irem, 1) := by decide +kernel
theorem dX13_patchesAnswer_68 : decode cX13_patchesAnswer 68 = .ok (.invokevirtual 348, 3) := by decide +kernel
theorem dX13_patchesAnswer_71 : decode cX13_patchesAnswer 71 = .ok (.ifCond .eq 29, 3) := by decide +kernel
theorem dX13_patchesAnswer_74 : decode cX13_patchesAnswer 74 = .ok (.iinc 2 1, 3) := by decide +kernel
theorem dX13_patchesAnswer_77 : decode cX13_patchesAnswer 77 = .ok (.aload_n 0, 1) := by decide +kernel
theorem dX13_patchesAnswer_78 : decode cX13_patchesAnswer 78 = .ok (.iload_n 1, 1) := by decide +kernel
theorem dX13_patchesAnswer_79 : decode cX13_patchesAnswer 79 = .ok (.iload 4, 2) := by decide +kernel
theorem dX13_patchesAnswer_81 : decode cX13_patchesAnswer 81 = .ok (.iload_n 2, 1) := by decide +kernel
theorem dX13_patchesAnswer_82 : decode cX13_patchesAnswer 82 = .ok (.invokevirtual 425, 3) := by decide +kernel
theorem dX13_patchesAnswer_85 : decode cX13_patchesAnswer 85 = .ok (.istore 5, 2) := by decide +kernel
theorem dX13_patchesAnswer_87 : decode cX13_patchesAnswer 87 = .ok (.iload 5, 2) := by decide +kernel
theorem dX13_patchesAnswer_89 : decode cX13_patchesAnswer 89 = .ok (.iload_n 3, 1) := by decide +kernel
theorem dX13_patchesAnswer_90 : decode cX13_patchesAnswer 90 = .ok (.if_icmp .le 8, 3) := by decide +kernel
theorem dX13_patchesAnswer_93 : decode cX13_patchesAnswer 93 = .ok (.iload 5, 2) := by decide +kernel
theorem dX13_patchesAnswer_95 : decode cX13_patchesAnswer 95 = .ok (.goto 4, 3) := by decide +kernel
theorem dX13_patchesAnswer_98 : decode cX13_patchesAnswer 98 = .ok (.iload_n 3, 1) := by decide +kernel
theorem dX13_patchesAnswer_99 : decode cX13_patchesAnswer 99 = .ok (.istore_n 3, 1) := by decide +kernel
theorem dX13_patchesAnswer_100 : decode cX13_patchesAnswer 100 = .ok (.iinc 4 1, 3) := by decide +kernel
theorem dX13_patchesAnswer_103 : decode cX13_patchesAnswer 103 = .ok (.goto (-71), 3) := by decide +kernel
theorem dX13_patchesAnswer_106 : decode cX13_patchesAnswer 106 = .ok (.aload_n 0, 1) := by decide +kernel
theorem dX13_patchesAnswer_107 : decode cX13_patchesAnswer 107 = .ok (.iload_n 3, 1) := by decide +kernel
theorem dX13_patchesAnswer_108 : decode cX13_patchesAnswer 108 = .ok (.i2l, 1) := by decide +kernel
theorem dX13_patchesAnswer_109 : decode cX13_patchesAnswer 109 = .ok (.iload_n 2, 1) := by decide +kernel
theorem dX13_patchesAnswer_110 : decode cX13_patchesAnswer 110 = .ok (.invokevirtual 243, 3) := by decide +kernel
theorem dX13_patchesAnswer_113 : decode cX13_patchesAnswer 113 = .ok (.ireturn, 1) := by decide +kernel
theorem dX13_patches_0 : decode cX13_patches 0 = .ok (.aload_n 0, 1) := by decide +kernel
theorem dX13_patches_1 : decode cX13_patches 1 = .ok (.aload_n 0, 1) := by decide +kernel
theorem dX13_patches_2 : decode cX13_patches 2 = .ok (.iload_n 1, 1) := by decide +kernel
theorem dX13_patches_3 : decode cX13_patches 3 = .ok (.invokevirtual 433, 3) := by decide +kernel
theorem dX13_patches_6 : decode cX13_patches 6 = .ok (.invokevirtual 137, 3) := by decide +kernel
theorem dX13_patches_9 : decode cX13_patches 9 = .ok (.ireturn, 1) := by decide +kernel
theorem dX13_paintDeed_0 : decode cX13_paintDeed 0 = .ok (.iload_n 1, 1) := by decide +kernel
theorem dX13_paintDeed_1 : decode cX13_paintDeed 1 = .ok (.invokestatic 134, 3) := by decide +kernel
theorem dX13_paintDeed_4 : decode cX13_paintDeed 4 = .ok (.ifCond .eq 11, 3) := by decide +kernel
theorem dX13_paintDeed_7 : decode cX13_paintDeed 7 = .ok (.iload 4, 2) := by decide +kernel
theorem dX13_paintDeed_9 : decode cX13_paintDeed 9 = .ok (.invokestatic 261, 3) := by decide +kernel
theorem dX13_paintDeed_12 : decode cX13_paintDeed 12 = .ok (.ifCond .ne 5, 3) := by decide +kernel
theorem dX13_paintDeed_15 : decode cX13_paintDeed 15 = .ok (.iconst (-1), 1) := by decide +kernel
theorem dX13_paintDeed_16 : decode cX13_paintDeed 16 = .ok (.ireturn, 1) := by decide +kernel
theorem dX13_paintDeed_17 : decode cX13_paintDeed 17 = .ok (.aload_n 0, 1) := by decide +kernel
theorem dX13_paintDeed_18 : decode cX13_paintDeed 18 = .ok (.iload_n 1, 1) := by decide +kernel
theorem dX13_paintDeed_19 : decode cX13_paintDeed 19 = .ok (.iload_n 2, 1) := by decide +kernel
theorem dX13_paintDeed_20 : decode cX13_paintDeed 20 = .ok (.iload_n 3, 1) := by decide +kernel
theorem dX13_paintDeed_21 : decode cX13_paintDeed 21 = .ok (.invokevirtual 230, 3) := by decide +kernel
theorem dX13_paintDeed_24 : decode cX13_paintDeed 24 = .ok (.istore 7, 2) := by decide +kernel
theorem dX13_paintDeed_26 : decode cX13_paintDeed 26 = .ok (.iload 7, 2) := by decide +kernel
theorem dX13_paintDeed_28 : decode cX13_paintDeed 28 = .ok (.ifCond .eq 6, 3) := by decide +kernel
theorem dX13_paintDeed_31 : decode cX13_paintDeed 31 = .ok (.iload 7, 2) := by decide +kernel
theorem dX13_paintDeed_33 : decode cX13_paintDeed 33 = .ok (.ireturn, 1) := by decide +kernel
theorem dX13_paintDeed_34 : decode cX13_paintDeed 34 = .ok (.aload_n 0, 1) := by decide +kernel
theorem dX13_paintDeed_35 : decode cX13_paintDeed 35 = .ok (.invokevirtual 422, 3) := by decide +kernel
theorem dX13_paintDeed_38 : decode cX13_paintDeed 38 = .ok (.aload_n 0, 1) := by decide +kernel
theorem dX13_paintDeed_39 : decode cX13_paintDeed 39 = .ok (.iload_n 1, 1) := by decide +kernel
theorem dX13_paintDeed_40 : decode cX13_paintDeed 40 = .ok (.bipush 12, 2) := by decide +kernel
theorem dX13_paintDeed_42 : decode cX13_paintDeed 42 = .ok (.iload_n 2, 1) := by decide +kernel
theorem dX13_paintDeed_43 : decode cX13_paintDeed 43 = .ok (.imul, 1) := by decide +kernel
theorem dX13_paintDeed_44 : decode cX13_paintDeed 44 = .ok (.iload_n 3, 1) := by decide +kernel
theorem dX13_paintDeed_45 : decode cX13_paintDeed 45 = .ok (.iadd, 1) := by decide +kernel
theorem dX13_paintDeed_46 : decode cX13_paintDeed 46 = .ok (.iconst 1, 1) := by decide +kernel
theorem dX13_paintDeed_47 : decode cX13_paintDeed 47 = .ok (.invokevirtual 425, 3) := by decide +kernel
theorem dX13_paintDeed_50 : decode cX13_paintDeed 50 = .ok (.pop, 1) := by decide +kernel
theorem dX13_paintDeed_51 : decode cX13_paintDeed 51 = .ok (.iconst 0, 1) := by decide +kernel
theorem dX13_paintDeed_52 : decode cX13_paintDeed 52 = .ok (.istore 8, 2) := by decide +kernel
theorem dX13_paintDeed_54 : decode cX13_paintDeed 54 = .ok (.iconst 0, 1) := by decide +kernel
theorem dX13_paintDeed_55 : decode cX13_paintDeed 55 = .ok (.istore 9, 2) := by decide +kernel
theorem dX13_paintDeed_57 : decode cX13_paintDeed 57 = .ok (.iload 9, 2) := by decide +kernel
theorem dX13_paintDeed_59 : decode cX13_paintDeed 59 = .ok (.bipush 72, 2) := by decide +kernel
theorem dX13_paintDeed_61 : decode cX13_paintDeed 61 = .ok (.if_icmp .ge 60, 3) := by decide +kernel
theorem dX13_paintDeed_64 : decode cX13_paintDeed 64 = .ok (.aload_n 0, 1) := by decide +kernel
theorem dX13_paintDeed_65 : decode cX13_paintDeed 65 = .ok (.getfield 67, 3) := by decide +kernel
theorem dX13_paintDeed_68 : decode cX13_paintDeed 68 = .ok (.iload 9, 2) := by decide +kernel
theorem dX13_paintDeed_70 : decode cX13_paintDeed 70 = .ok (.iaload, 1) := by decide +kernel
theorem dX13_paintDeed_71 : decode cX13_paintDeed 71 = .ok (.iconst 1, 1) := by decide +kernel
theorem dX13_paintDeed_72 : decode cX13_paintDeed 72 = .ok (.if_icmp .ne 43, 3) := by decide +kernel
theorem dX13_paintDeed_75 : decode cX13_paintDeed 75 = .ok (.aload_n 0, 1) := by decide +kernel
theorem dX13_paintDeed_76 : decode cX13_paintDeed 76 = .ok (.iload 4, 2) := by decide +kernel
theorem dX13_paintDeed_78 : decode cX13_paintDeed 78 = .ok (.lload 5, 2) := by decide +kernel
theorem dX13_paintDeed_80 : decode cX13_paintDeed 80 = .ok (.invokevirtual 250, 3) := by decide +kernel
theorem dX13_paintDeed_83 : decode cX13_paintDeed 83 = .ok (.iload 8, 2) := by decide +kernel
theorem dX13_paintDeed_85 : decode cX13_paintDeed 85 = .ok (.aload_n 0, 1) := by decide +kernel
theorem dX13_paintDeed_86 : decode cX13_paintDeed 86 = .ok (.aload_n 0, 1) := by decide +kernel
theorem dX13_paintDeed_87 : decode cX13_paintDeed 87 = .ok (.iload_n 1, 1) := by decide +kernel
theorem dX13_paintDeed_88 : decode cX13_paintDeed 88 = .ok (.iload 9, 2) := by decide +kernel
theorem dX13_paintDeed_90 : decode cX13_paintDeed 90 = .ok (.bipush 12, 2) := by decide +kernel
theorem dX13_paintDeed_92 : decode cX13_paintDeed 92 = .ok (.idiv, 1) := by decide +kernel
theorem dX13_paintDeed_93 : decode cX13_paintDeed 93 = .ok (.invokevirtual 128, 3) := by decide +kernel
theorem dX13_paintDeed_96 : decode cX13_paintDeed 96 = .ok (.iload 9, 2) := by decide +kernel
theorem dX13_paintDeed_98 : decode cX13_paintDeed 98 = .ok (.bipush 12, 2) := by decide +kernel
theorem dX13_paintDeed_100 : decode cX13_paintDeed 100 = .ok (.irem, 1) := by decide +kernel
theorem dX13_paintDeed_101 : decode cX13_paintDeed 101 = .ok (.invokevirtual 254, 3) := by decide +kernel
theorem dX13_paintDeed_104 : decode cX13_paintDeed 104 = .ok (.ifCond .eq 7, 3) := by decide +kernel
theorem dX13_paintDeed_107 : decode cX13_paintDeed 107 = .ok (.iconst 1, 1) := by decide +kernel
theorem dX13_paintDeed_108 : decode cX13_paintDeed 108 = .ok (.goto 4, 3) := by decide +kernel
theorem dX13_paintDeed_111 : decode cX13_paintDeed 111 = .ok (.iconst 0, 1) := by decide +kernel
theorem dX13_paintDeed_112 : decode cX13_paintDeed 112 = .ok (.iadd, 1) := by decide +kernel
theorem dX13_paintDeed_113 : decode cX13_paintDeed 113 = .ok (.istore 8, 2) := by decide +kernel
theorem dX13_paintDeed_115 : decode cX13_paintDeed 115 = .ok (.iinc 9 1, 3) := by decide +kernel
theorem dX13_paintDeed_118 : decode cX13_paintDeed 118 = .ok (.goto (-61), 3) := by decide +kernel
theorem dX13_paintDeed_121 : decode cX13_paintDeed 121 = .ok (.iload 8, 2) := by decide +kernel
theorem dX13_paintDeed_123 : decode cX13_paintDeed 123 = .ok (.ireturn, 1) := by decide +kernel
theorem dX13_paint_0 : decode cX13_paint 0 = .ok (.aload_n 0, 1) := by decide +kernel
theorem dX13_paint_1 : decode cX13_paint 1 = .ok (.aload_n 0, 1) := by decide +kernel
theorem dX13_paint_2 : decode cX13_paint 2 = .ok (.iload_n 1, 1) := by decide +kernel
theorem dX13_paint_3 : decode cX13_paint 3 = .ok (.iload_n 2, 1) := by decide +kernel
theorem dX13_paint_4 : decode cX13_paint 4 = .ok (.iload_n 3, 1) := by decide +kernel
theorem dX13_paint_5 : decode cX13_paint 5 = .ok (.iload 4, 2) := by decide +kernel
theorem dX13_paint_7 : decode cX13_paint 7 = .ok (.lload 5, 2) := by decide +kernel
theorem dX13_paint_9 : decode cX13_paint 9 = .ok (.invokevirtual 436, 3) := by decide +kernel
theorem dX13_paint_12 : decode cX13_paint 12 = .ok (.invokevirtual 137, 3) := by decide +kernel
theorem dX13_paint_15 : decode cX13_paint 15 = .ok (.ireturn, 1) := by decide +kernel
theorem dX13_isBlock_0 : decode cX13_isBlock 0 = .ok (.aload_n 0, 1) := by decide +kernel
theorem dX13_isBlock_1 : decode cX13_isBlock 1 = .ok (.lconst 0, 1) := by decide +kernel
theorem dX13_isBlock_2 : decode cX13_isBlock 2 = .ok (.putfield 439, 3) := by decide +kernel
theorem dX13_isBlock_5 : decode cX13_isBlock 5 = .ok (.iload_n 2, 1) := by decide +kernel
theorem dX13_isBlock_6 : decode cX13_isBlock 6 = .ok (.istore 6, 2) := by decide +kernel
theorem dX13_isBlock_8 : decode cX13_isBlock 8 = .ok (.iload 6, 2) := by decide +kernel
theorem dX13_isBlock_10 : decode cX13_isBlock 10 = .ok (.iload_n 3, 1) := by decide +kernel
theorem dX13_isBlock_11 : decode cX13_isBlock 11 = .ok (.if_icmp .gt 82, 3) := by decide +kernel
theorem dX13_isBlock_14 : decode cX13_isBlock 14 = .ok (.aload_n 0, 1) := by decide +kernel
theorem dX13_isBlock_15 : decode cX13_isBlock 15 = .ok (.iload_n 1, 1) := by decide +kernel
theorem dX13_isBlock_16 : decode cX13_isBlock 16 = .ok (.iload 6, 2) := by decide +kernel
theorem dX13_isBlock_18 : decode cX13_isBlock 18 = .ok (.iload 5, 2) := by decide +kernel
theorem dX13_isBlock_20 : decode cX13_isBlock 20 = .ok (.invokevirtual 348, 3) := by decide +kernel
theorem dX13_isBlock_23 : decode cX13_isBlock 23 = .ok (.ifCond .eq 18, 3) := by decide +kernel
theorem dX13_isBlock_26 : decode cX13_isBlock 26 = .ok (.aload_n 0, 1) := by decide +kernel
theorem dX13_isBlock_27 : decode cX13_isBlock 27 = .ok (.aload_n 0, 1) := by decide +kernel
theorem dX13_isBlock_28 : decode cX13_isBlock 28 = .ok (.iload_n 1, 1) := by decide +kernel
theorem dX13_isBlock_29 : decode cX13_isBlock 29 = .ok (.iload 6, 2) := by decide +kernel
theorem dX13_isBlock_31 : decode cX13_isBlock 31 = .ok (.invokevirtual 128, 3) := by decide +kernel
theorem dX13_isBlock_34 : decode cX13_isBlock 34 = .ok (.iconst 4, 1) := by decide +kernel
theorem dX13_isBlock_35 : decode cX13_isBlock 35 = .ok (.invokevirtual 233, 3) := by decide +kernel
theorem dX13_isBlock_38 : decode cX13_isBlock 38 = .ok (.ifCond .ne 5, 3) := by decide +kernel
theorem dX13_isBlock_41 : decode cX13_isBlock 41 = .ok (.iconst 0, 1) := by decide +kernel
theorem dX13_isBlock_42 : decode cX13_isBlock 42 = .ok (.ireturn, 1) := by decide +kernel
theorem dX13_isBlock_43 : decode cX13_isBlock 43 = .ok (.iload 4, 2) := by decide +kernel
theorem dX13_isBlock_45 : decode cX13_isBlock 45 = .ok (.istore 7, 2) := by decide +kernel
theorem dX13_isBlock_47 : decode cX13_isBlock 47 = .ok (.iload 7, 2) := by decide +kernel
theorem dX13_isBlock_49 : decode cX13_isBlock 49 = .ok (.iload 5, 2) := by decide +kernel
theorem dX13_isBlock_51 : decode cX13_isBlock 51 = .ok (.if_icmp .gt 36, 3) := by decide +kernel
theorem dX13_isBlock_54 : decode cX13_isBlock 54 = .ok (.aload_n 0, 1) := by decide +kernel
theorem dX13_isBlock_55 : decode cX13_isBlock 55 = .ok (.dup, 1) := by decide +kernel
theorem dX13_isBlock_56 : decode cX13_isBlock 56 = .ok (.getfield 439, 3) := by decide +kernel
theorem dX13_isBlock_59 : decode cX13_isBlock 59 = .ok (.aload_n 0, 1) := by decide +kernel
theorem dX13_isBlock_60 : decode cX13_isBlock 60 = .ok (.getfield 35, 3) := by decide +kernel
theorem dX13_isBlock_63 : decode cX13_isBlock 63 = .ok (.bipush 12, 2) := by decide +kernel
theorem dX13_isBlock_65 : decode cX13_isBlock 65 = .ok (.aload_n 0, 1) := by decide +kernel
theorem dX13_isBlock_66 : decode cX13_isBlock 66 = .ok (.iload_n 1, 1) := by decide +kernel
theorem dX13_isBlock_67 : decode cX13_isBlock 67 = .ok (.iload 6, 2) := by decide +kernel
theorem dX13_isBlock_69 : decode cX13_isBlock 69 = .ok (.invokevirtual 128, 3) := by decide +kernel
theorem dX13_isBlock_72 : decode cX13_isBlock 72 = .ok (.imul, 1) := by decide +kernel
theorem dX13_isBlock_73 : decode cX13_isBlock 73 = .ok (.iload 7, 2) := by decide +kernel
theorem dX13_isBlock_75 : decode cX13_isBlock 75 = .ok (.iadd, 1) := by decide +kernel
theorem dX13_isBlock_76 : decode cX13_isBlock 76 = .ok (.laload, 1) := by decide +kernel
theorem dX13_isBlock_77 : decode cX13_isBlock 77 = .ok (.ladd, 1) := by decide +kernel
theorem dX13_isBlock_78 : decode cX13_isBlock 78 = .ok (.putfield 439, 3) := by decide +kernel
theorem dX13_isBlock_81 : decode cX13_isBlock 81 = .ok (.iinc 7 1, 3) := by decide +kernel
theorem dX13_isBlock_84 : decode cX13_isBlock 84 = .ok (.goto (-37), 3) := by decide +kernel
theorem dX13_isBlock_87 : decode cX13_isBlock 87 = .ok (.iinc 6 1, 3) := by decide +kernel
theorem dX13_isBlock_90 : decode cX13_isBlock 90 = .ok (.goto (-82), 3) := by decide +kernel
theorem dX13_isBlock_93 : decode cX13_isBlock 93 = .ok (.iconst 1, 1) := by decide +kernel
theorem dX13_isBlock_94 : decode cX13_isBlock 94 = .ok (.ireturn, 1) := by decide +kernel
theorem dX13_blockAnswer_0 : decode cX13_blockAnswer 0 = .ok (.iload_n 1, 1) := by decide +kernel
theorem dX13_blockAnswer_1 : decode cX13_blockAnswer 1 = .ok (.invokestatic 134, 3) := by decide +kernel
theorem dX13_blockAnswer_4 : decode cX13_blockAnswer 4 = .ok (.ifCond .ne 5, 3) := by decide +kernel
theorem dX13_blockAnswer_7 : decode cX13_blockAnswer 7 = .ok (.iconst (-1), 1) := by decide +kernel
theorem dX13_blockAnswer_8 : decode cX13_blockAnswer 8 = .ok (.ireturn, 1) := by decide +kernel
theorem dX13_blockAnswer_9 : decode cX13_blockAnswer 9 = .ok (.aload_n 0, 1) := by decide +kernel
theorem dX13_blockAnswer_10 : decode cX13_blockAnswer 10 = .ok (.getfield 17, 3) := by decide +kernel
theorem dX13_blockAnswer_13 : decode cX13_blockAnswer 13 = .ok (.iload_n 1, 1) := by decide +kernel
theorem dX13_blockAnswer_14 : decode cX13_blockAnswer 14 = .ok (.iaload, 1) := by decide +kernel
theorem dX13_blockAnswer_15 : decode cX13_blockAnswer 15 = .ok (.ifCond .ge 6, 3) := by decide +kernel
theorem dX13_blockAnswer_18 : decode cX13_blockAnswer 18 = .ok (.bipush (-2), 2) := by decide +kernel
theorem dX13_blockAnswer_20 : decode cX13_blockAnswer 20 = .ok (.ireturn, 1) := by decide +kernel
theorem dX13_blockAnswer_21 : decode cX13_blockAnswer 21 = .ok (.bipush (-9), 2) := by decide +kernel
theorem dX13_blockAnswer_23 : decode cX13_blockAnswer 23 = .ok (.istore_n 2, 1) := by decide +kernel
theorem dX13_blockAnswer_24 : decode cX13_blockAnswer 24 = .ok (.lconst 0, 1) := by decide +kernel
theorem dX13_blockAnswer_25 : decode cX13_blockAnswer 25 = .ok (.lstore_n 3, 1) := by decide +kernel
theorem dX13_blockAnswer_26 : decode cX13_blockAnswer 26 = .ok (.iconst 0, 1) := by decide +kernel
theorem dX13_blockAnswer_27 : decode cX13_blockAnswer 27 = .ok (.istore 5, 2) := by decide +kernel
theorem dX13_blockAnswer_29 : decode cX13_blockAnswer 29 = .ok (.iload 5, 2) := by decide +kernel
theorem dX13_blockAnswer_31 : decode cX13_blockAnswer 31 = .ok (.aload_n 0, 1) := by decide +kernel
theorem dX13_blockAnswer_32 : decode cX13_blockAnswer 32 = .ok (.getfield 17, 3) := by decide +kernel
theorem dX13_blockAnswer_35 : decode cX13_blockAnswer 35 = .ok (.iload_n 1, 1) := by decide +kernel
theorem dX13_blockAnswer_36 : decode cX13_blockAnswer 36 = .ok (.iaload, 1) := by decide +kernel
theorem dX13_blockAnswer_37 : decode cX13_blockAnswer 37 = .ok (.if_icmp .ge 122, 3) := by decide +kernel
theorem dX13_blockAnswer_40 : decode cX13_blockAnswer 40 = .ok (.iconst 0, 1) := by decide +kernel
theorem dX13_blockAnswer_41 : decode cX13_blockAnswer 41 = .ok (.istore 6, 2) := by decide +kernel
theorem dX13_blockAnswer_43 : decode cX13_blockAnswer 43 = .ok (.iload 6, 2) := by decide +kernel
theorem dX13_blockAnswer_45 : decode cX13_blockAnswer 45 = .ok (.bipush 12, 2) := by decide +kernel
theorem dX13_blockAnswer_47 : decode cX13_blockAnswer 47 = .ok (.if_icmp .ge 106, 3) := by decide +kernel
theorem dX13_blockAnswer_50 : decode cX13_blockAnswer 50 = .ok (.iload 5, 2) := by decide +kernel
theorem dX13_blockAnswer_52 : decode cX13_blockAnswer 52 = .ok (.istore 7, 2) := by decide +kernel
theorem dX13_blockAnswer_54 : decode cX13_blockAnswer 54 = .ok (.iload 7, 2) := by decide +kernel
theorem dX13_blockAnswer_56 : decode cX13_blockAnswer 56 = .ok (.aload_n 0, 1) := by decide +kernel
theorem dX13_blockAnswer_57 : decode cX13_blockAnswer 57 = .ok (.getfield 17, 3) := by decide +kernel
theorem dX13_blockAnswer_60 : decode cX13_blockAnswer 60 = .ok (.iload_n 1, 1) := by decide +kernel
theorem dX13_blockAnswer_61 : decode cX13_blockAnswer 61 = .ok (.iaload, 1) := by decide +kernel
theorem dX13_blockAnswer_62 : decode cX13_blockAnswer 62 = .ok (.if_icmp .ge 85, 3) := by decide +kernel
theorem dX13_blockAnswer_65 : decode cX13_blockAnswer 65 = .ok (.iload 6, 2) := by decide +kernel
theorem dX13_blockAnswer_67 : decode cX13_blockAnswer 67 = .ok (.istore 8, 2) := by decide +kernel
theorem dX13_blockAnswer_69 : decode cX13_blockAnswer 69 = .ok (.iload 8, 2) := by decide +kernel
theorem dX13_blockAnswer_71 : decode cX13_blockAnswer 71 = .ok (.bipush 12, 2) := by decide +kernel
theorem dX13_blockAnswer_73 : decode cX13_blockAnswer 73 = .ok (.if_icmp .ge 68, 3) := by decide +kernel
theorem dX13_blockAnswer_76 : decode cX13_blockAnswer 76 = .ok (.aload_n 0, 1) := by decide +kernel
theorem dX13_blockAnswer_77 : decode cX13_blockAnswer 77 = .ok (.iload_n 1, 1) := by decide +kernel
theorem dX13_blockAnswer_78 : decode cX13_blockAnswer 78 = .ok (.iload 5, 2) := by decide +kernel
theorem dX13_blockAnswer_80 : decode cX13_blockAnswer 80 = .ok (.iload 7, 2) := by decide +kernel
theorem dX13_blockAnswer_82 : decode cX13_blockAnswer 82 = .ok (.iload 6, 2) := by decide +kernel
theorem dX13_blockAnswer_84 : decode cX13_blockAnswer 84 = .ok (.iload 8, 2) := by decide +kernel
theorem dX13_blockAnswer_86 : decode cX13_blockAnswer 86 = .ok (.invokevirtual 442, 3) := by decide +kernel
theorem dX13_blockAnswer_89 : decode cX13_blockAnswer 89 = .ok (.ifCond .eq 46, 3) := by decide +kernel
theorem dX13_blockAnswer_92 : decode cX13_blockAnswer 92 = .ok (.iload_n 2, 1) := by decide +kernel
theorem dX13_blockAnswer_93 : decode cX13_blockAnswer 93 = .ok (.bipush (-9), 2) := by decide +kernel
theorem dX13_blockAnswer_95 : decode cX13_blockAnswer 95 = .ok (.if_icmp .eq 12, 3) := by decide +kernel
theorem dX13_blockAnswer_98 : decode cX13_blockAnswer 98 = .ok (.aload_n 0, 1) := by decide +kernel
theorem dX13_blockAnswer_99 : decode cX13_blockAnswer 99 = .ok (.getfield 439, 3) := by decide +kernel
theorem dX13_blockAnswer_102 : decode cX13_blockAnswer 102 = .ok (.lload_n 3, 1) := by decide +kernel
theorem dX13_blockAnswer_103 : decode cX13_blockAnswer 103 = .ok (.lcmp, 1) := by decide +kernel
theorem dX13_blockAnswer_104 : decode cX13_blockAnswer 104 = .ok (.ifCond .le 31, 3) := by decide +kernel
theorem dX13_blockAnswer_107 : decode cX13_blockAnswer 107 = .ok (.ldc_w 446, 3) := by decide +kernel
theorem dX13_blockAnswer_110 : decode cX13_blockAnswer 110 = .ok (.iload 5, 2) := by decide +kernel
theorem dX13_blockAnswer_112 : decode cX13_blockAnswer 112 = .ok (.imul, 1) := by decide +kernel
theorem dX13_blockAnswer_113 : decode cX13_blockAnswer 113 = .ok (.sipush 10000, 3) := by decide +kernel
theorem dX13_blockAnswer_116 : decode cX13_blockAnswer 116 = .ok (.iload 6, 2) := by decide +kernel
theorem dX13_blockAnswer_118 : decode cX13_blockAnswer 118 = .ok (.imul, 1) := by decide +kernel
theorem dX13_blockAnswer_119 : decode cX13_blockAnswer 119 = .ok (.iadd, 1) := by decide +kernel
theorem dX13_blockAnswer_120 : decode cX13_blockAnswer 120 = .ok (.bipush 100, 2) := by decide +kernel
theorem dX13_blockAnswer_122 : decode cX13_blockAnswer 122 = .ok (.iload 7, 2) := by decide +kernel
theorem dX13_blockAnswer_124 : decode cX13_blockAnswer 124 = .ok (.imul, 1) := by decide +kernel
theorem dX13_blockAnswer_125 : decode cX13_blockAnswer 125 = .ok (.iadd, 1) := by decide +kernel
theorem dX13_blockAnswer_126 : decode cX13_blockAnswer 126 = .ok (.iload 8, 2) := by decide +kernel
theorem dX13_blockAnswer_128 : decode cX13_blockAnswer 128 = .ok (.iadd, 1) := by decide +kernel
theorem dX13_blockAnswer_129 : decode cX13_blockAnswer 129 = .ok (.istore_n 2, 1) := by decide +kernel
theorem dX13_blockAnswer_130 : decode cX13_blockAnswer 130 = .ok (.aload_n 0, 1) := by decide +kernel
theorem dX13_blockAnswer_131 : decode cX13_blockAnswer 131 = .ok (.getfield 439, 3) := by decide +kernel
theorem dX13_blockAnswer_134 : decode cX13_blockAnswer 134 = .ok (.lstore_n 3, 1) := by decide +kernel
theorem dX13_blockAnswer_135 : decode cX13_blockAnswer 135 = .ok (.iinc 8 1, 3) := by decide +kernel
theorem dX13_blockAnswer_138 : decode cX13_blockAnswer 138 = .ok (.goto (-69), 3) := by decide +kernel
theorem dX13_blockAnswer_141 : decode cX13_blockAnswer 141 = .ok (.iinc 7 1, 3) := by decide +kernel
theorem dX13_blockAnswer_144 : decode cX13_blockAnswer 144 = .ok (.goto (-90), 3) := by decide +kernel
theorem dX13_blockAnswer_147 : decode cX13_blockAnswer 147 = .ok (.iinc 6 1, 3) := by decide +kernel
theorem dX13_blockAnswer_150 : decode cX13_blockAnswer 150 = .ok (.goto (-107), 3) := by decide +kernel
theorem dX13_blockAnswer_153 : decode cX13_blockAnswer 153 = .ok (.iinc 5 1, 3) := by decide +kernel
theorem dX13_blockAnswer_156 : decode cX13_blockAnswer 156 = .ok (.goto (-127), 3) := by decide +kernel
theorem dX13_blockAnswer_159 : decode cX13_blockAnswer 159 = .ok (.iload_n 2, 1) := by decide +kernel
theorem dX13_blockAnswer_160 : decode cX13_blockAnswer 160 = .ok (.bipush (-9), 2) := by decide +kernel
theorem dX13_blockAnswer_162 : decode cX13_blockAnswer 162 = .ok (.if_icmp .ne 8, 3) := by decide +kernel
theorem dX13_blockAnswer_165 : decode cX13_blockAnswer 165 = .ok (.bipush (-9), 2) := by decide +kernel
theorem dX13_blockAnswer_167 : decode cX13_blockAnswer 167 = .ok (.goto 9, 3) := by decide +kernel
theorem dX13_blockAnswer_170 : decode cX13_blockAnswer 170 = .ok (.aload_n 0, 1) := by decide +kernel
theorem dX13_blockAnswer_171 : decode cX13_blockAnswer 171 = .ok (.lload_n 3, 1) := by decide +kernel
theorem dX13_blockAnswer_172 : decode cX13_blockAnswer 172 = .ok (.iload_n 2, 1) := by decide +kernel
theorem dX13_blockAnswer_173 : decode cX13_blockAnswer 173 = .ok (.invokevirtual 243, 3) := by decide +kernel
theorem dX13_blockAnswer_176 : decode cX13_blockAnswer 176 = .ok (.ireturn, 1) := by decide +kernel
theorem dX13_block_0 : decode cX13_block 0 = .ok (.aload_n 0, 1) := by decide +kernel
theorem dX13_block_1 : decode cX13_block 1 = .ok (.aload_n 0, 1) := by decide +kernel
theorem dX13_block_2 : decode cX13_block 2 = .ok (.iload_n 1, 1) := by decide +kernel
theorem dX13_block_3 : decode cX13_block 3 = .ok (.invokevirtual 447, 3) := by decide +kernel
theorem dX13_block_6 : decode cX13_block 6 = .ok (.invokevirtual 137, 3) := by decide +kernel
theorem dX13_block_9 : decode cX13_block 9 = .ok (.ireturn, 1) := by decide +kernel
theorem dX13_isLying_0 : decode cX13_isLying 0 = .ok (.iconst 0, 1) := by decide +kernel
theorem dX13_isLying_1 : decode cX13_isLying 1 = .ok (.istore 5, 2) := by decide +kernel
theorem dX13_isLying_3 : decode cX13_isLying 3 = .ok (.iload 5, 2) := by decide +kernel
theorem dX13_isLying_5 : decode cX13_isLying 5 = .ok (.bipush 12, 2) := by decide +kernel
theorem dX13_isLying_7 : decode cX13_isLying 7 = .ok (.aload_n 0, 1) := by decide +kernel
theorem dX13_isLying_8 : decode cX13_isLying 8 = .ok (.getfield 17, 3) := by decide +kernel
theorem dX13_isLying_11 : decode cX13_isLying 11 = .ok (.iload_n 2, 1) := by decide +kernel
theorem dX13_isLying_12 : decode cX13_isLying 12 = .ok (.iaload, 1) := by decide +kernel
theorem dX13_isLying_13 : decode cX13_isLying 13 = .ok (.imul, 1) := by decide +kernel
theorem dX13_isLying_14 : decode cX13_isLying 14 = .ok (.if_icmp .ge 104, 3) := by decide +kernel
theorem dX13_isLying_17 : decode cX13_isLying 17 = .ok (.iload 5, 2) := by decide +kernel
theorem dX13_isLying_19 : decode cX13_isLying 19 = .ok (.bipush 12, 2) := by decide +kernel
theorem dX13_isLying_21 : decode cX13_isLying 21 = .ok (.idiv, 1) := by decide +kernel
theorem dX13_isLying_22 : decode cX13_isLying 22 = .ok (.istore 6, 2) := by decide +kernel
theorem dX13_isLying_24 : decode cX13_isLying 24 = .ok (.iload 5, 2) := by decide +kernel
theorem dX13_isLying_26 : decode cX13_isLying 26 = .ok (.bipush 12, 2) := by decide +kernel
theorem dX13_isLying_28 : decode cX13_isLying 28 = .ok (.irem, 1) := by decide +kernel
theorem dX13_isLying_29 : decode cX13_isLying 29 = .ok (.istore 7, 2) := by decide +kernel
theorem dX13_isLying_31 : decode cX13_isLying 31 = .ok (.aload_n 0, 1) := by decide +kernel
theorem dX13_isLying_32 : decode cX13_isLying 32 = .ok (.iload_n 2, 1) := by decide +kernel
theorem dX13_isLying_33 : decode cX13_isLying 33 = .ok (.iload 6, 2) := by decide +kernel
theorem dX13_isLying_35 : decode cX13_isLying 35 = .ok (.iload 7, 2) := by decide +kernel
theorem dX13_isLying_37 : decode cX13_isLying 37 = .ok (.invokevirtual 348, 3) := by decide +kernel
theorem dX13_isLying_40 : decode cX13_isLying 40 = .ok (.ifCond .eq 72, 3) := by decide +kernel
theorem dX13_isLying_43 : decode cX13_isLying 43 = .ok (.aload_n 0, 1) := by decide +kernel
theorem dX13_isLying_44 : decode cX13_isLying 44 = .ok (.iload_n 1, 1) := by decide +kernel
theorem dX13_isLying_45 : decode cX13_isLying 45 = .ok (.iload_n 3, 1) := by decide +kernel
theorem dX13_isLying_46 : decode cX13_isLying 46 = .ok (.iload 6, 2) := by decide +kernel
theorem dX13_isLying_48 : decode cX13_isLying 48 = .ok (.iadd, 1) := by decide +kernel
theorem dX13_isLying_49 : decode cX13_isLying 49 = .ok (.iload 4, 2) := by decide +kernel
theorem dX13_isLying_51 : decode cX13_isLying 51 = .ok (.iload 7, 2) := by decide +kernel
theorem dX13_isLying_53 : decode cX13_isLying 53 = .ok (.iadd, 1) := by decide +kernel
theorem dX13_isLying_54 : decode cX13_isLying 54 = .ok (.invokevirtual 348, 3) := by decide +kernel
theorem dX13_isLying_57 : decode cX13_isLying 57 = .ok (.ifCond .ne 5, 3) := by decide +kernel
theorem dX13_isLying_60 : decode cX13_isLying 60 = .ok (.iconst 0, 1) := by decide +kernel
theorem dX13_isLying_61 : decode cX13_isLying 61 = .ok (.ireturn, 1) := by decide +kernel
theorem dX13_isLying_62 : decode cX13_isLying 62 = .ok (.aload_n 0, 1) := by decide +kernel
theorem dX13_isLying_63 : decode cX13_isLying 63 = .ok (.iload_n 2, 1) := by decide +kernel
theorem dX13_isLying_64 : decode cX13_isLying 64 = .ok (.iload 5, 2) := by decide +kernel
theorem dX13_isLying_66 : decode cX13_isLying 66 = .ok (.invokevirtual 413, 3) := by decide +kernel
theorem dX13_isLying_69 : decode cX13_isLying 69 = .ok (.istore 8, 2) := by decide +kernel
theorem dX13_isLying_71 : decode cX13_isLying 71 = .ok (.aload_n 0, 1) := by decide +kernel
theorem dX13_isLying_72 : decode cX13_isLying 72 = .ok (.getfield 32, 3) := by decide +kernel
theorem dX13_isLying_75 : decode cX13_isLying 75 = .ok (.iload 8, 2) := by decide +kernel
theorem dX13_isLying_77 : decode cX13_isLying 77 = .ok (.iaload, 1) := by decide +kernel
theorem dX13_isLying_78 : decode cX13_isLying 78 = .ok (.bipush 11, 2) := by decide +kernel
theorem dX13_isLying_80 : decode cX13_isLying 80 = .ok (.if_icmp .eq 32, 3) := by decide +kernel
theorem dX13_isLying_83 : decode cX13_isLying 83 = .ok (.aload_n 0, 1) := by decide +kernel
theorem dX13_isLying_84 : decode cX13_isLying 84 = .ok (.bipush 12, 2) := by decide +kernel
theorem dX13_isLying_86 : decode cX13_isLying 86 = .ok (.aload_n 0, 1) := by decide +kernel
theorem dX13_isLying_87 : decode cX13_isLying 87 = .ok (.iload_n 1, 1) := by decide +kernel
theorem dX13_isLying_88 : decode cX13_isLying 88 = .ok (.iload_n 3, 1) := by decide +kernel
theorem dX13_isLying_89 : decode cX13_isLying 89 = .ok (.iload 6, 2) := by decide +kernel
theorem dX13_isLying_91 : decode cX13_isLying 91 = .ok (.iadd, 1) := by decide +kernel
theorem dX13_isLying_92 : decode cX13_isLying 92 = .ok (.invokevirtual 128, 3) := by decide +kernel
theorem dX13_isLying_95 : decode cX13_isLying 95 = .ok (.imul, 1) := by decide +kernel
theorem dX13_isLying_96 : decode cX13_isLying 96 = .ok (.iload 4, 2) := by decide +kernel
theorem dX13_isLying_98 : decode cX13_isLying 98 = .ok (.iadd, 1) := by decide +kernel
theorem dX13_isLying_99 : decode cX13_isLying 99 = .ok (.iload 7, 2) := by decide +kernel
theorem dX13_isLying_101 : decode cX13_isLying 101 = .ok (.iadd, 1) := by decide +kernel
theorem dX13_isLying_102 : decode cX13_isLying 102 = .ok (.iload 8, 2) := by decide +kernel
theorem dX13_isLying_104 : decode cX13_isLying 104 = .ok (.invokevirtual 274, 3) := by decide +kernel
theorem dX13_isLying_107 : decode cX13_isLying 107 = .ok (.ifCond .ne 5, 3) := by decide +kernel
theorem dX13_isLying_110 : decode cX13_isLying 110 = .ok (.iconst 0, 1) := by decide +kernel
theorem dX13_isLying_111 : decode cX13_isLying 111 = .ok (.ireturn, 1) := by decide +kernel
theorem dX13_isLying_112 : decode cX13_isLying 112 = .ok (.iinc 5 1, 3) := by decide +kernel
theorem dX13_isLying_115 : decode cX13_isLying 115 = .ok (.goto (-112), 3) := by decide +kernel
theorem dX13_isLying_118 : decode cX13_isLying 118 = .ok (.iconst 1, 1) := by decide +kernel
theorem dX13_isLying_119 : decode cX13_isLying 119 = .ok (.ireturn, 1) := by decide +kernel
theorem dX13_liesAnswer_0 : decode cX13_liesAnswer 0 = .ok (.iload_n 1, 1) := by decide +kernel
theorem dX13_liesAnswer_1 : decode cX13_liesAnswer 1 = .ok (.invokestatic 134, 3) := by decide +kernel
theorem dX13_liesAnswer_4 : decode cX13_liesAnswer 4 = .ok (.ifCond .eq 14, 3) := by decide +kernel
theorem dX13_liesAnswer_7 : decode cX13_liesAnswer 7 = .ok (.iload_n 2, 1) := by decide +kernel
theorem dX13_liesAnswer_8 : decode cX13_liesAnswer 8 = .ok (.invokestatic 134, 3) := by decide +kernel
theorem dX13_liesAnswer_11 : decode cX13_liesAnswer 11 = .ok (.ifCond .eq 7, 3) := by decide +kernel
theorem dX13_liesAnswer_14 : decode cX13_liesAnswer 14 = .ok (.iload_n 3, 1) := by decide +kernel
theorem dX13_liesAnswer_15 : decode cX13_liesAnswer 15 = .ok (.ifCond .ge 5, 3) := by decide +kernel
theorem dX13_liesAnswer_18 : decode cX13_liesAnswer 18 = .ok (.iconst (-1), 1) := by decide +kernel
theorem dX13_liesAnswer_19 : decode cX13_liesAnswer 19 = .ok (.ireturn, 1) := by decide +kernel
theorem dX13_liesAnswer_20 : decode cX13_liesAnswer 20 = .ok (.aload_n 0, 1) := by decide +kernel
theorem dX13_liesAnswer_21 : decode cX13_liesAnswer 21 = .ok (.getfield 17, 3) := by decide +kernel
theorem dX13_liesAnswer_24 : decode cX13_liesAnswer 24 = .ok (.iload_n 1, 1) := by decide +kernel
theorem dX13_liesAnswer_25 : decode cX13_liesAnswer 25 = .ok (.iaload, 1) := by decide +kernel
theorem dX13_liesAnswer_26 : decode cX13_liesAnswer 26 = .ok (.ifCond .lt 12, 3) := by decide +kernel
theorem dX13_liesAnswer_29 : decode cX13_liesAnswer 29 = .ok (.aload_n 0, 1) := by decide +kernel
theorem dX13_liesAnswer_30 : decode cX13_liesAnswer 30 = .ok (.getfield 17, 3) := by decide +kernel
theorem dX13_liesAnswer_33 : decode cX13_liesAnswer 33 = .ok (.iload_n 2, 1) := by decide +kernel
theorem dX13_liesAnswer_34 : decode cX13_liesAnswer 34 = .ok (.iaload, 1) := by decide +kernel
theorem dX13_liesAnswer_35 : decode cX13_liesAnswer 35 = .ok (.ifCond .ge 6, 3) := by decide +kernel
theorem dX13_liesAnswer_38 : decode cX13_liesAnswer 38 = .ok (.bipush (-2), 2) := by decide +kernel
theorem dX13_liesAnswer_40 : decode cX13_liesAnswer 40 = .ok (.ireturn, 1) := by decide +kernel
theorem dX13_liesAnswer_41 : decode cX13_liesAnswer 41 = .ok (.iconst 0, 1) := by decide +kernel
theorem dX13_liesAnswer_42 : decode cX13_liesAnswer 42 = .ok (.istore 4, 2) := by decide +kernel
theorem dX13_liesAnswer_44 : decode cX13_liesAnswer 44 = .ok (.bipush (-9), 2) := by decide +kernel
theorem dX13_liesAnswer_46 : decode cX13_liesAnswer 46 = .ok (.istore 5, 2) := by decide +kernel
theorem dX13_liesAnswer_48 : decode cX13_liesAnswer 48 = .ok (.iconst 0, 1) := by decide +kernel
theorem dX13_liesAnswer_49 : decode cX13_liesAnswer 49 = .ok (.istore 6, 2) := by decide +kernel
theorem dX13_liesAnswer_51 : decode cX13_liesAnswer 51 = .ok (.iload 6, 2) := by decide +kernel
theorem dX13_liesAnswer_53 : decode cX13_liesAnswer 53 = .ok (.aload_n 0, 1) := by decide +kernel
theorem dX13_liesAnswer_54 : decode cX13_liesAnswer 54 = .ok (.getfield 17, 3) := by decide +kernel
theorem dX13_liesAnswer_57 : decode cX13_liesAnswer 57 = .ok (.iload_n 2, 1) := by decide +kernel
theorem dX13_liesAnswer_58 : decode cX13_liesAnswer 58 = .ok (.iaload, 1) := by decide +kernel
theorem dX13_liesAnswer_59 : decode cX13_liesAnswer 59 = .ok (.iadd, 1) := by decide +kernel
theorem dX13_liesAnswer_60 : decode cX13_liesAnswer 60 = .ok (.aload_n 0, 1) := by decide +kernel
theorem dX13_liesAnswer_61 : decode cX13_liesAnswer 61 = .ok (.getfield 17, 3) := by decide +kernel
theorem dX13_liesAnswer_64 : decode cX13_liesAnswer 64 = .ok (.iload_n 1, 1) := by decide +kernel
theorem dX13_liesAnswer_65 : decode cX13_liesAnswer 65 = .ok (.iaload, 1) := by decide +kernel
theorem dX13_liesAnswer_66 : decode cX13_liesAnswer 66 = .ok (.if_icmp .gt 62, 3) := by decide +kernel
theorem dX13_liesAnswer_69 : decode cX13_liesAnswer 69 = .ok (.iconst 0, 1) := by decide +kernel
theorem dX13_liesAnswer_70 : decode cX13_liesAnswer 70 = .ok (.istore 7, 2) := by decide +kernel
theorem dX13_liesAnswer_72 : decode cX13_liesAnswer 72 = .ok (.iload 7, 2) := by decide +kernel
theorem dX13_liesAnswer_74 : decode cX13_liesAnswer 74 = .ok (.bipush 12, 2) := by decide +kernel
theorem dX13_liesAnswer_76 : decode cX13_liesAnswer 76 = .ok (.if_icmp .ge 46, 3) := by decide +kernel
theorem dX13_liesAnswer_79 : decode cX13_liesAnswer 79 = .ok (.aload_n 0, 1) := by decide +kernel
theorem dX13_liesAnswer_80 : decode cX13_liesAnswer 80 = .ok (.iload_n 1, 1) := by decide +kernel
theorem dX13_liesAnswer_81 : decode cX13_liesAnswer 81 = .ok (.iload_n 2, 1) := by decide +kernel
theorem dX13_liesAnswer_82 : decode cX13_liesAnswer 82 = .ok (.iload 6, 2) := by decide +kernel
theorem dX13_liesAnswer_84 : decode cX13_liesAnswer 84 = .ok (.iload 7, 2) := by decide +kernel
theorem dX13_liesAnswer_86 : decode cX13_liesAnswer 86 = .ok (.invokevirtual 450, 3) := by decide +kernel
theorem dX13_liesAnswer_89 : decode cX13_liesAnswer 89 = .ok (.ifCond .eq 27, 3) := by decide +kernel
theorem dX13_liesAnswer_92 : decode cX13_liesAnswer 92 = .ok (.iload 4, 2) := by decide +kernel
theorem dX13_liesAnswer_94 : decode cX13_liesAnswer 94 = .ok (.iload_n 3, 1) := by decide +kernel
theorem dX13_liesAnswer_95 : decode cX13_liesAnswer 95 = .ok (.if_icmp .ne 14, 3) := by decide +kernel
theorem dX13_liesAnswer_98 : decode cX13_liesAnswer 98 = .ok (.bipush 100, 2) := by decide +kernel
theorem dX13_liesAnswer_100 : decode cX13_liesAnswer 100 = .ok (.iload 6, 2) := by decide +kernel
theorem dX13_liesAnswer_102 : decode cX13_liesAnswer 102 = .ok (.imul, 1) := by decide +kernel
theorem dX13_liesAnswer_103 : decode cX13_liesAnswer 103 = .ok (.iload 7, 2) := by decide +kernel
theorem dX13_liesAnswer_105 : decode cX13_liesAnswer 105 = .ok (.iadd, 1) := by decide +kernel
theorem dX13_liesAnswer_106 : decode cX13_liesAnswer 106 = .ok (.goto 5, 3) := by decide +kernel
theorem dX13_liesAnswer_109 : decode cX13_liesAnswer 109 = .ok (.iload 5, 2) := by decide +kernel
theorem dX13_liesAnswer_111 : decode cX13_liesAnswer 111 = .ok (.istore 5, 2) := by decide +kernel
theorem dX13_liesAnswer_113 : decode cX13_liesAnswer 113 = .ok (.iinc 4 1, 3) := by decide +kernel
theorem dX13_liesAnswer_116 : decode cX13_liesAnswer 116 = .ok (.iinc 7 1, 3) := by decide +kernel
theorem dX13_liesAnswer_119 : decode cX13_liesAnswer 119 = .ok (.goto (-47), 3) := by decide +kernel
theorem dX13_liesAnswer_122 : decode cX13_liesAnswer 122 = .ok (.iinc 6 1, 3) := by decide +kernel
theorem dX13_liesAnswer_125 : decode cX13_liesAnswer 125 = .ok (.goto (-74), 3) := by decide +kernel
theorem dX13_liesAnswer_128 : decode cX13_liesAnswer 128 = .ok (.iload 5, 2) := by decide +kernel
theorem dX13_liesAnswer_130 : decode cX13_liesAnswer 130 = .ok (.bipush (-9), 2) := by decide +kernel
theorem dX13_liesAnswer_132 : decode cX13_liesAnswer 132 = .ok (.if_icmp .ne 8, 3) := by decide +kernel
theorem dX13_liesAnswer_135 : decode cX13_liesAnswer 135 = .ok (.bipush (-9), 2) := by decide +kernel
theorem dX13_liesAnswer_137 : decode cX13_liesAnswer 137 = .ok (.goto 12, 3) := by decide +kernel
theorem dX13_liesAnswer_140 : decode cX13_liesAnswer 140 = .ok (.aload_n 0, 1) := by decide +kernel
theorem dX13_liesAnswer_141 : decode cX13_liesAnswer 141 = .ok (.iload 4, 2) := by decide +kernel
theorem dX13_liesAnswer_143 : decode cX13_liesAnswer 143 = .ok (.i2l, 1) := by decide +kernel
theorem dX13_liesAnswer_144 : decode cX13_liesAnswer 144 = .ok (.iload 5, 2) := by decide +kernel
theorem dX13_liesAnswer_146 : decode cX13_liesAnswer 146 = .ok (.invokevirtual 243, 3) := by decide +kernel
theorem dX13_liesAnswer_149 : decode cX13_liesAnswer 149 = .ok (.ireturn, 1) := by decide +kernel
theorem dX13_lies_0 : decode cX13_lies 0 = .ok (.aload_n 0, 1) := by decide +kernel
theorem dX13_lies_1 : decode cX13_lies 1 = .ok (.aload_n 0, 1) := by decide +kernel
theorem dX13_lies_2 : decode cX13_lies 2 = .ok (.iload_n 1, 1) := by decide +kernel
theorem dX13_lies_3 : decode cX13_lies 3 = .ok (.iload_n 2, 1) := by decide +kernel
theorem dX13_lies_4 : decode cX13_lies 4 = .ok (.iload_n 3, 1) := by decide +kernel
theorem dX13_lies_5 : decode cX13_lies 5 = .ok (.invokevirtual 453, 3) := by decide +kernel
theorem dX13_lies_8 : decode cX13_lies 8 = .ok (.invokevirtual 137, 3) := by decide +kernel
theorem dX13_lies_11 : decode cX13_lies 11 = .ok (.ireturn, 1) := by decide +kernel
theorem dX13_keeps_0 : decode cX13_keeps 0 = .ok (.aload_n 0, 1) := by decide +kernel
theorem dX13_keeps_1 : decode cX13_keeps 1 = .ok (.getfield 70, 3) := by decide +kernel
theorem dX13_keeps_4 : decode cX13_keeps 4 = .ok (.iload_n 1, 1) := by decide +kernel
theorem dX13_keeps_5 : decode cX13_keeps 5 = .ok (.iconst 1, 1) := by decide +kernel
theorem dX13_keeps_6 : decode cX13_keeps 6 = .ok (.iastore, 1) := by decide +kernel
theorem dX13_keeps_7 : decode cX13_keeps 7 = .ok (.iconst 0, 1) := by decide +kernel
theorem dX13_keeps_8 : decode cX13_keeps 8 = .ok (.istore_n 2, 1) := by decide +kernel
theorem dX13_keeps_9 : decode cX13_keeps 9 = .ok (.iload_n 2, 1) := by decide +kernel
theorem dX13_keeps_10 : decode cX13_keeps 10 = .ok (.iconst 4, 1) := by decide +kernel
theorem dX13_keeps_11 : decode cX13_keeps 11 = .ok (.if_icmp .ge 25, 3) := by decide +kernel
theorem dX13_keeps_14 : decode cX13_keeps 14 = .ok (.aload_n 0, 1) := by decide +kernel
theorem dX13_keeps_15 : decode cX13_keeps 15 = .ok (.getfield 73, 3) := by decide +kernel
theorem dX13_keeps_18 : decode cX13_keeps 18 = .ok (.iconst 4, 1) := by decide +kernel
theorem dX13_keeps_19 : decode cX13_keeps 19 = .ok (.iload_n 1, 1) := by decide +kernel
theorem dX13_keeps_20 : decode cX13_keeps 20 = .ok (.imul, 1) := by decide +kernel
theorem dX13_keeps_21 : decode cX13_keeps 21 = .ok (.iload_n 2, 1) := by decide +kernel
theorem dX13_keeps_22 : decode cX13_keeps 22 = .ok (.iadd, 1) := by decide +kernel
theorem dX13_keeps_23 : decode cX13_keeps 23 = .ok (.aload_n 0, 1) := by decide +kernel
theorem dX13_keeps_24 : decode cX13_keeps 24 = .ok (.getfield 17, 3) := by decide +kernel
theorem dX13_keeps_27 : decode cX13_keeps 27 = .ok (.iload_n 2, 1) := by decide +kernel
theorem dX13_keeps_28 : decode cX13_keeps 28 = .ok (.iaload, 1) := by decide +kernel
theorem dX13_keeps_29 : decode cX13_keeps 29 = .ok (.iastore, 1) := by decide +kernel
theorem dX13_keeps_30 : decode cX13_keeps 30 = .ok (.iinc 2 1, 3) := by decide +kernel
theorem dX13_keeps_33 : decode cX13_keeps 33 = .ok (.goto (-24), 3) := by decide +kernel
theorem dX13_keeps_36 : decode cX13_keeps 36 = .ok (.iconst 0, 1) := by decide +kernel
theorem dX13_keeps_37 : decode cX13_keeps 37 = .ok (.istore_n 2, 1) := by decide +kernel
theorem dX13_keeps_38 : decode cX13_keeps 38 = .ok (.iload_n 2, 1) := by decide +kernel
theorem dX13_keeps_39 : decode cX13_keeps 39 = .ok (.bipush 24, 2) := by decide +kernel
theorem dX13_keeps_41 : decode cX13_keeps 41 = .ok (.if_icmp .ge 26, 3) := by decide +kernel
theorem dX13_keeps_44 : decode cX13_keeps 44 = .ok (.aload_n 0, 1) := by decide +kernel
theorem dX13_keeps_45 : decode cX13_keeps 45 = .ok (.getfield 76, 3) := by decide +kernel
theorem dX13_keeps_48 : decode cX13_keeps 48 = .ok (.bipush 24, 2) := by decide +kernel
theorem dX13_keeps_50 : decode cX13_keeps 50 = .ok (.iload_n 1, 1) := by decide +kernel
theorem dX13_keeps_51 : decode cX13_keeps 51 = .ok (.imul, 1) := by decide +kernel
theorem dX13_keeps_52 : decode cX13_keeps 52 = .ok (.iload_n 2, 1) := by decide +kernel
theorem dX13_keeps_53 : decode cX13_keeps 53 = .ok (.iadd, 1) := by decide +kernel
theorem dX13_keeps_54 : decode cX13_keeps 54 = .ok (.aload_n 0, 1) := by decide +kernel
theorem dX13_keeps_55 : decode cX13_keeps 55 = .ok (.getfield 20, 3) := by decide +kernel
theorem dX13_keeps_58 : decode cX13_keeps 58 = .ok (.iload_n 2, 1) := by decide +kernel
theorem dX13_keeps_59 : decode cX13_keeps 59 = .ok (.iaload, 1) := by decide +kernel
theorem dX13_keeps_60 : decode cX13_keeps 60 = .ok (.iastore, 1) := by decide +kernel
theorem dX13_keeps_61 : decode cX13_keeps 61 = .ok (.iinc 2 1, 3) := by decide +kernel
theorem dX13_keeps_64 : decode cX13_keeps 64 = .ok (.goto (-26), 3) := by decide +kernel
theorem dX13_keeps_67 : decode cX13_keeps 67 = .ok (.iconst 0, 1) := by decide +kernel
theorem dX13_keeps_68 : decode cX13_keeps 68 = .ok (.istore_n 2, 1) := by decide +kernel
theorem dX13_keeps_69 : decode cX13_keeps 69 = .ok (.iload_n 2, 1) := by decide +kernel
theorem dX13_keeps_70 : decode cX13_keeps 70 = .ok (.bipush 32, 2) := by decide +kernel
theorem dX13_keeps_72 : decode cX13_keeps 72 = .ok (.if_icmp .ge 43, 3) := by decide +kernel
theorem dX13_keeps_75 : decode cX13_keeps 75 = .ok (.aload_n 0, 1) := by decide +kernel
theorem dX13_keeps_76 : decode cX13_keeps 76 = .ok (.getfield 79, 3) := by decide +kernel
theorem dX13_keeps_79 : decode cX13_keeps 79 = .ok (.bipush 32, 2) := by decide +kernel
theorem dX13_keeps_81 : decode cX13_keeps 81 = .ok (.iload_n 1, 1) := by decide +kernel
theorem dX13_keeps_82 : decode cX13_keeps 82 = .ok (.imul, 1) := by decide +kernel
theorem dX13_keeps_83 : decode cX13_keeps 83 = .ok (.iload_n 2, 1) := by decide +kernel
theorem dX13_keeps_84 : decode cX13_keeps 84 = .ok (.iadd, 1) := by decide +kernel
theorem dX13_keeps_85 : decode cX13_keeps 85 = .ok (.aload_n 0, 1) := by decide +kernel
theorem dX13_keeps_86 : decode cX13_keeps 86 = .ok (.getfield 23, 3) := by decide +kernel
theorem dX13_keeps_89 : decode cX13_keeps 89 = .ok (.iload_n 2, 1) := by decide +kernel
theorem dX13_keeps_90 : decode cX13_keeps 90 = .ok (.iaload, 1) := by decide +kernel
theorem dX13_keeps_91 : decode cX13_keeps 91 = .ok (.iastore, 1) := by decide +kernel
theorem dX13_keeps_92 : decode cX13_keeps 92 = .ok (.aload_n 0, 1) := by decide +kernel
theorem dX13_keeps_93 : decode cX13_keeps 93 = .ok (.getfield 82, 3) := by decide +kernel
theorem dX13_keeps_96 : decode cX13_keeps 96 = .ok (.bipush 32, 2) := by decide +kernel
theorem dX13_keeps_98 : decode cX13_keeps 98 = .ok (.iload_n 1, 1) := by decide +kernel
theorem dX13_keeps_99 : decode cX13_keeps 99 = .ok (.imul, 1) := by decide +kernel
theorem dX13_keeps_100 : decode cX13_keeps 100 = .ok (.iload_n 2, 1) := by decide +kernel
theorem dX13_keeps_101 : decode cX13_keeps 101 = .ok (.iadd, 1) := by decide +kernel
theorem dX13_keeps_102 : decode cX13_keeps 102 = .ok (.aload_n 0, 1) := by decide +kernel
theorem dX13_keeps_103 : decode cX13_keeps 103 = .ok (.getfield 26, 3) := by decide +kernel
theorem dX13_keeps_106 : decode cX13_keeps 106 = .ok (.iload_n 2, 1) := by decide +kernel
theorem dX13_keeps_107 : decode cX13_keeps 107 = .ok (.iaload, 1) := by decide +kernel
theorem dX13_keeps_108 : decode cX13_keeps 108 = .ok (.iastore, 1) := by decide +kernel
theorem dX13_keeps_109 : decode cX13_keeps 109 = .ok (.iinc 2 1, 3) := by decide +kernel
theorem dX13_keeps_112 : decode cX13_keeps 112 = .ok (.goto (-43), 3) := by decide +kernel
theorem dX13_keeps_115 : decode cX13_keeps 115 = .ok (.iconst 0, 1) := by decide +kernel
theorem dX13_keeps_116 : decode cX13_keeps 116 = .ok (.istore_n 2, 1) := by decide +kernel
theorem dX13_keeps_117 : decode cX13_keeps 117 = .ok (.iload_n 2, 1) := by decide +kernel
theorem dX13_keeps_118 : decode cX13_keeps 118 = .ok (.sipush 384, 3) := by decide +kernel
theorem dX13_keeps_121 : decode cX13_keeps 121 = .ok (.if_icmp .ge 63, 3) := by decide +kernel
theorem dX13_keeps_124 : decode cX13_keeps 124 = .ok (.aload_n 0, 1) := by decide +kernel
theorem dX13_keeps_125 : decode cX13_keeps 125 = .ok (.getfield 85, 3) := by decide +kernel
theorem dX13_keeps_128 : decode cX13_keeps 128 = .ok (.sipush 384, 3) := by decide +kernel
theorem dX13_keeps_131 : decode cX13_keeps 131 = .ok (.iload_n 1, 1) := by decide +kernel
theorem dX13_keeps_132 : decode cX13_keeps 132 = .ok (.imul, 1) := by decide +kernel
theorem dX13_keeps_133 : decode cX13_keeps 133 = .ok (.iload_n 2, 1) := by decide +kernel
theorem dX13_keeps_134 : decode cX13_keeps 134 = .ok (.iadd, 1) := by decide +kernel
theorem dX13_keeps_135 : decode cX13_keeps 135 = .ok (.aload_n 0, 1) := by decide +kernel
theorem dX13_keeps_136 : decode cX13_keeps 136 = .ok (.getfield 32, 3) := by decide +kernel
theorem dX13_keeps_139 : decode cX13_keeps 139 = .ok (.iload_n 2, 1) := by decide +kernel
theorem dX13_keeps_140 : decode cX13_keeps 140 = .ok (.iaload, 1) := by decide +kernel
theorem dX13_keeps_141 : decode cX13_keeps 141 = .ok (.iastore, 1) := by decide +kernel
theorem dX13_keeps_142 : decode cX13_keeps 142 = .ok (.aload_n 0, 1) := by decide +kernel
theorem dX13_keeps_143 : decode cX13_keeps 143 = .ok (.getfield 88, 3) := by decide +kernel
theorem dX13_keeps_146 : decode cX13_keeps 146 = .ok (.sipush 384, 3) := by decide +kernel
theorem dX13_keeps_149 : decode cX13_keeps 149 = .ok (.iload_n 1, 1) := by decide +kernel
theorem dX13_keeps_150 : decode cX13_keeps 150 = .ok (.imul, 1) := by decide +kernel
theorem dX13_keeps_151 : decode cX13_keeps 151 = .ok (.iload_n 2, 1) := by decide +kernel
theorem dX13_keeps_152 : decode cX13_keeps 152 = .ok (.iadd, 1) := by decide +kernel
theorem dX13_keeps_153 : decode cX13_keeps 153 = .ok (.aload_n 0, 1) := by decide +kernel
theorem dX13_keeps_154 : decode cX13_keeps 154 = .ok (.getfield 35, 3) := by decide +kernel
theorem dX13_keeps_157 : decode cX13_keeps 157 = .ok (.iload_n 2, 1) := by decide +kernel
theorem dX13_keeps_158 : decode cX13_keeps 158 = .ok (.laload, 1) := by decide +kernel
theorem dX13_keeps_159 : decode cX13_keeps 159 = .ok (.lastore, 1) := by decide +kernel
theorem dX13_keeps_160 : decode cX13_keeps 160 = .ok (.aload_n 0, 1) := by decide +kernel
theorem dX13_keeps_161 : decode cX13_keeps 161 = .ok (.getfield 91, 3) := by decide +kernel
theorem dX13_keeps_164 : decode cX13_keeps 164 = .ok (.sipush 384, 3) := by decide +kernel
theorem dX13_keeps_167 : decode cX13_keeps 167 = .ok (.iload_n 1, 1) := by decide +kernel
theorem dX13_keeps_168 : decode cX13_keeps 168 = .ok (.imul, 1) := by decide +kernel
theorem dX13_keeps_169 : decode cX13_keeps 169 = .ok (.iload_n 2, 1) := by decide +kernel
theorem dX13_keeps_170 : decode cX13_keeps 170 = .ok (.iadd, 1) := by decide +kernel
theorem dX13_keeps_171 : decode cX13_keeps 171 = .ok (.aload_n 0, 1) := by decide +kernel
theorem dX13_keeps_172 : decode cX13_keeps 172 = .ok (.getfield 39, 3) := by decide +kernel
theorem dX13_keeps_175 : decode cX13_keeps 175 = .ok (.iload_n 2, 1) := by decide +kernel
theorem dX13_keeps_176 : decode cX13_keeps 176 = .ok (.daload, 1) := by decide +kernel
theorem dX13_keeps_177 : decode cX13_keeps 177 = .ok (.dastore, 1) := by decide +kernel
theorem dX13_keeps_178 : decode cX13_keeps 178 = .ok (.iinc 2 1, 3) := by decide +kernel
theorem dX13_keeps_181 : decode cX13_keeps 181 = .ok (.goto (-64), 3) := by decide +kernel
theorem dX13_keeps_184 : decode cX13_keeps 184 = .ok (.return_, 1) := by decide +kernel
theorem dX13_comesBack_0 : decode cX13_comesBack 0 = .ok (.iconst 0, 1) := by decide +kernel
theorem dX13_comesBack_1 : decode cX13_comesBack 1 = .ok (.istore_n 2, 1) := by decide +kernel
theorem dX13_comesBack_2 : decode cX13_comesBack 2 = .ok (.iload_n 2, 1) := by decide +kernel
theorem dX13_comesBack_3 : decode cX13_comesBack 3 = .ok (.iconst 4, 1) := by decide +kernel
theorem dX13_comesBack_4 : decode cX13_comesBack 4 = .ok (.if_icmp .ge 25, 3) := by decide +kernel
theorem dX13_comesBack_7 : decode cX13_comesBack 7 = .ok (.aload_n 0, 1) := by decide +kernel
theorem dX13_comesBack_8 : decode cX13_comesBack 8 = .ok (.getfield 17, 3) := by decide +kernel
theorem dX13_comesBack_11 : decode cX13_comesBack 11 = .ok (.iload_n 2, 1) := by decide +kernel
theorem dX13_comesBack_12 : decode cX13_comesBack 12 = .ok (.aload_n 0, 1) := by decide +kernel
theorem dX13_comesBack_13 : decode cX13_comesBack 13 = .ok (.getfield 73, 3) := by decide +kernel
theorem dX13_comesBack_16 : decode cX13_comesBack 16 = .ok (.iconst 4, 1) := by decide +kernel
theorem dX13_comesBack_17 : decode cX13_comesBack 17 = .ok (.iload_n 1, 1) := by decide +kernel
theorem dX13_comesBack_18 : decode cX13_comesBack 18 = .ok (.imul, 1) := by decide +kernel
theorem dX13_comesBack_19 : decode cX13_comesBack 19 = .ok (.iload_n 2, 1) := by decide +kernel
theorem dX13_comesBack_20 : decode cX13_comesBack 20 = .ok (.iadd, 1) := by decide +kernel
theorem dX13_comesBack_21 : decode cX13_comesBack 21 = .ok (.iaload, 1) := by decide +kernel
theorem dX13_comesBack_22 : decode cX13_comesBack 22 = .ok (.iastore, 1) := by decide +kernel
theorem dX13_comesBack_23 : decode cX13_comesBack 23 = .ok (.iinc 2 1, 3) := by decide +kernel
theorem dX13_comesBack_26 : decode cX13_comesBack 26 = .ok (.goto (-24), 3) := by decide +kernel
theorem dX13_comesBack_29 : decode cX13_comesBack 29 = .ok (.iconst 0, 1) := by decide +kernel
theorem dX13_comesBack_30 : decode cX13_comesBack 30 = .ok (.istore_n 2, 1) := by decide +kernel
theorem dX13_comesBack_31 : decode cX13_comesBack 31 = .ok (.iload_n 2, 1) := by decide +kernel
theorem dX13_comesBack_32 : decode cX13_comesBack 32 = .ok (.bipush 24, 2) := by decide +kernel
theorem dX13_comesBack_34 : decode cX13_comesBack 34 = .ok (.if_icmp .ge 26, 3) := by decide +kernel
theorem dX13_comesBack_37 : decode cX13_comesBack 37 = .ok (.aload_n 0, 1) := by decide +kernel
theorem dX13_comesBack_38 : decode cX13_comesBack 38 = .ok (.getfield 20, 3) := by decide +kernel
theorem dX13_comesBack_41 : decode cX13_comesBack 41 = .ok (.iload_n 2, 1) := by decide +kernel
theorem dX13_comesBack_42 : decode cX13_comesBack 42 = .ok (.aload_n 0, 1) := by decide +kernel
theorem dX13_comesBack_43 : decode cX13_comesBack 43 = .ok (.getfield 76, 3) := by decide +kernel
theorem dX13_comesBack_46 : decode cX13_comesBack 46 = .ok (.bipush 24, 2) := by decide +kernel
theorem dX13_comesBack_48 : decode cX13_comesBack 48 = .ok (.iload_n 1, 1) := by decide +kernel
theorem dX13_comesBack_49 : decode cX13_comesBack 49 = .ok (.imul, 1) := by decide +kernel
theorem dX13_comesBack_50 : decode cX13_comesBack 50 = .ok (.iload_n 2, 1) := by decide +kernel
theorem dX13_comesBack_51 : decode cX13_comesBack 51 = .ok (.iadd, 1) := by decide +kernel
theorem dX13_comesBack_52 : decode cX13_comesBack 52 = .ok (.iaload, 1) := by decide +kernel
theorem dX13_comesBack_53 : decode cX13_comesBack 53 = .ok (.iastore, 1) := by decide +kernel
theorem dX13_comesBack_54 : decode cX13_comesBack 54 = .ok (.iinc 2 1, 3) := by decide +kernel
theorem dX13_comesBack_57 : decode cX13_comesBack 57 = .ok (.goto (-26), 3) := by decide +kernel
theorem dX13_comesBack_60 : decode cX13_comesBack 60 = .ok (.iconst 0, 1) := by decide +kernel
theorem dX13_comesBack_61 : decode cX13_comesBack 61 = .ok (.istore_n 2, 1) := by decide +kernel
theorem dX13_comesBack_62 : decode cX13_comesBack 62 = .ok (.iload_n 2, 1) := by decide +kernel
theorem dX13_comesBack_63 : decode cX13_comesBack 63 = .ok (.bipush 32, 2) := by decide +kernel
theorem dX13_comesBack_65 : decode cX13_comesBack 65 = .ok (.if_icmp .ge 43, 3) := by decide +kernel
theorem dX13_comesBack_68 : decode cX13_comesBack 68 = .ok (.aload_n 0, 1) := by decide +kernel
theorem dX13_comesBack_69 : decode cX13_comesBack 69 = .ok (.getfield 23, 3) := by decide +kernel
theorem dX13_comesBack_72 : decode cX13_comesBack 72 = .ok (.iload_n 2, 1) := by decide +kernel
theorem dX13_comesBack_73 : decode cX13_comesBack 73 = .ok (.aload_n 0, 1) := by decide +kernel
theorem dX13_comesBack_74 : decode cX13_comesBack 74 = .ok (.getfield 79, 3) := by decide +kernel
theorem dX13_comesBack_77 : decode cX13_comesBack 77 = .ok (.bipush 32, 2) := by decide +kernel
theorem dX13_comesBack_79 : decode cX13_comesBack 79 = .ok (.iload_n 1, 1) := by decide +kernel
theorem dX13_comesBack_80 : decode cX13_comesBack 80 = .ok (.imul, 1) := by decide +kernel
theorem dX13_comesBack_81 : decode cX13_comesBack 81 = .ok (.iload_n 2, 1) := by decide +kernel
theorem dX13_comesBack_82 : decode cX13_comesBack 82 = .ok (.iadd, 1) := by decide +kernel
theorem dX13_comesBack_83 : decode cX13_comesBack 83 = .ok (.iaload, 1) := by decide +kernel
theorem dX13_comesBack_84 : decode cX13_comesBack 84 = .ok (.iastore, 1) := by decide +kernel
theorem dX13_comesBack_85 : decode cX13_comesBack 85 = .ok (.aload_n 0, 1) := by decide +kernel
theorem dX13_comesBack_86 : decode cX13_comesBack 86 = .ok (.getfield 26, 3) := by decide +kernel
theorem dX13_comesBack_89 : decode cX13_comesBack 89 = .ok (.iload_n 2, 1) := by decide +kernel
theorem dX13_comesBack_90 : decode cX13_comesBack 90 = .ok (.aload_n 0, 1) := by decide +kernel
theorem dX13_comesBack_91 : decode cX13_comesBack 91 = .ok (.getfield 82, 3) := by decide +kernel
theorem dX13_comesBack_94 : decode cX13_comesBack 94 = .ok (.bipush 32, 2) := by decide +kernel
theorem dX13_comesBack_96 : decode cX13_comesBack 96 = .ok (.iload_n 1, 1) := by decide +kernel
theorem dX13_comesBack_97 : decode cX13_comesBack 97 = .ok (.imul, 1) := by decide +kernel
theorem dX13_comesBack_98 : decode cX13_comesBack 98 = .ok (.iload_n 2, 1) := by decide +kernel
theorem dX13_comesBack_99 : decode cX13_comesBack 99 = .ok (.iadd, 1) := by decide +kernel
theorem dX13_comesBack_100 : decode cX13_comesBack 100 = .ok (.iaload, 1) := by decide +kernel
theorem dX13_comesBack_101 : decode cX13_comesBack 101 = .ok (.iastore, 1) := by decide +kernel
theorem dX13_comesBack_102 : decode cX13_comesBack 102 = .ok (.iinc 2 1, 3) := by decide +kernel
theorem dX13_comesBack_105 : decode cX13_comesBack 105 = .ok (.goto (-43), 3) := by decide +kernel
theorem dX13_comesBack_108 : decode cX13_comesBack 108 = .ok (.iconst 0, 1) := by decide +kernel
theorem dX13_comesBack_109 : decode cX13_comesBack 109 = .ok (.istore_n 2, 1) := by decide +kernel
theorem dX13_comesBack_110 : decode cX13_comesBack 110 = .ok (.iload_n 2, 1) := by decide +kernel
theorem dX13_comesBack_111 : decode cX13_comesBack 111 = .ok (.sipush 384, 3) := by decide +kernel
theorem dX13_comesBack_114 : decode cX13_comesBack 114 = .ok (.if_icmp .ge 63, 3) := by decide +kernel
theorem dX13_comesBack_117 : decode cX13_comesBack 117 = .ok (.aload_n 0, 1) := by decide +kernel
theorem dX13_comesBack_118 : decode cX13_comesBack 118 = .ok (.getfield 32, 3) := by decide +kernel
theorem dX13_comesBack_121 : decode cX13_comesBack 121 = .ok (.iload_n 2, 1) := by decide +kernel
theorem dX13_comesBack_122 : decode cX13_comesBack 122 = .ok (.aload_n 0, 1) := by decide +kernel
theorem dX13_comesBack_123 : decode cX13_comesBack 123 = .ok (.getfield 85, 3) := by decide +kernel
theorem dX13_comesBack_126 : decode cX13_comesBack 126 = .ok (.sipush 384, 3) := by decide +kernel
theorem dX13_comesBack_129 : decode cX13_comesBack 129 = .ok (.iload_n 1, 1) := by decide +kernel
theorem dX13_comesBack_130 : decode cX13_comesBack 130 = .ok (.imul, 1) := by decide +kernel
theorem dX13_comesBack_131 : decode cX13_comesBack 131 = .ok (.iload_n 2, 1) := by decide +kernel
theorem dX13_comesBack_132 : decode cX13_comesBack 132 = .ok (.iadd, 1) := by decide +kernel
theorem dX13_comesBack_133 : decode cX13_comesBack 133 = .ok (.iaload, 1) := by decide +kernel
theorem dX13_comesBack_134 : decode cX13_comesBack 134 = .ok (.iastore, 1) := by decide +kernel
theorem dX13_comesBack_135 : decode cX13_comesBack 135 = .ok (.aload_n 0, 1) := by decide +kernel
theorem dX13_comesBack_136 : decode cX13_comesBack 136 = .ok (.getfield 35, 3) := by decide +kernel
theorem dX13_comesBack_139 : decode cX13_comesBack 139 = .ok (.iload_n 2, 1) := by decide +kernel
theorem dX13_comesBack_140 : decode cX13_comesBack 140 = .ok (.aload_n 0, 1) := by decide +kernel
theorem dX13_comesBack_141 : decode cX13_comesBack 141 = .ok (.getfield 88, 3) := by decide +kernel
theorem dX13_comesBack_144 : decode cX13_comesBack 144 = .ok (.sipush 384, 3) := by decide +kernel
theorem dX13_comesBack_147 : decode cX13_comesBack 147 = .ok (.iload_n 1, 1) := by decide +kernel
theorem dX13_comesBack_148 : decode cX13_comesBack 148 = .ok (.imul, 1) := by decide +kernel
theorem dX13_comesBack_149 : decode cX13_comesBack 149 = .ok (.iload_n 2, 1) := by decide +kernel
theorem dX13_comesBack_150 : decode cX13_comesBack 150 = .ok (.iadd, 1) := by decide +kernel
theorem dX13_comesBack_151 : decode cX13_comesBack 151 = .ok (.laload, 1) := by decide +kernel
theorem dX13_comesBack_152 : decode cX13_comesBack 152 = .ok (.lastore, 1) := by decide +kernel
theorem dX13_comesBack_153 : decode cX13_comesBack 153 = .ok (.aload_n 0, 1) := by decide +kernel
theorem dX13_comesBack_154 : decode cX13_comesBack 154 = .ok (.getfield 39, 3) := by decide +kernel
theorem dX13_comesBack_157 : decode cX13_comesBack 157 = .ok (.iload_n 2, 1) := by decide +kernel
theorem dX13_comesBack_158 : decode cX13_comesBack 158 = .ok (.aload_n 0, 1) := by decide +kernel
theorem dX13_comesBack_159 : decode cX13_comesBack 159 = .ok (.getfield 91, 3) := by decide +kernel
theorem dX13_comesBack_162 : decode cX13_comesBack 162 = .ok (.sipush 384, 3) := by decide +kernel
theorem dX13_comesBack_165 : decode cX13_comesBack 165 = .ok (.iload_n 1, 1) := by decide +kernel
theorem dX13_comesBack_166 : decode cX13_comesBack 166 = .ok (.imul, 1) := by decide +kernel
theorem dX13_comesBack_167 : decode cX13_comesBack 167 = .ok (.iload_n 2, 1) := by decide +kernel
theorem dX13_comesBack_168 : decode cX13_comesBack 168 = .ok (.iadd, 1) := by decide +kernel
theorem dX13_comesBack_169 : decode cX13_comesBack 169 = .ok (.daload, 1) := by decide +kernel
theorem dX13_comesBack_170 : decode cX13_comesBack 170 = .ok (.dastore, 1) := by decide +kernel
theorem dX13_comesBack_171 : decode cX13_comesBack 171 = .ok (.iinc 2 1, 3) := by decide +kernel
theorem dX13_comesBack_174 : decode cX13_comesBack 174 = .ok (.goto (-64), 3) := by decide +kernel
theorem dX13_comesBack_177 : decode cX13_comesBack 177 = .ok (.return_, 1) := by decide +kernel
theorem dX13_gridMany_0 : decode cX13_gridMany 0 = .ok (.iconst 0, 1) := by decide +kernel
theorem dX13_gridMany_1 : decode cX13_gridMany 1 = .ok (.istore_n 1, 1) := by decide +kernel
theorem dX13_gridMany_2 : decode cX13_gridMany 2 = .ok (.iconst 0, 1) := by decide +kernel
theorem dX13_gridMany_3 : decode cX13_gridMany 3 = .ok (.istore_n 2, 1) := by decide +kernel
theorem dX13_gridMany_4 : decode cX13_gridMany 4 = .ok (.iload_n 2, 1) := by decide +kernel
theorem dX13_gridMany_5 : decode cX13_gridMany 5 = .ok (.iconst 4, 1) := by decide +kernel
theorem dX13_gridMany_6 : decode cX13_gridMany 6 = .ok (.if_icmp .ge 26, 3) := by decide +kernel
theorem dX13_gridMany_9 : decode cX13_gridMany 9 = .ok (.iload_n 1, 1) := by decide +kernel
theorem dX13_gridMany_10 : decode cX13_gridMany 10 = .ok (.aload_n 0, 1) := by decide +kernel
theorem dX13_gridMany_11 : decode cX13_gridMany 11 = .ok (.getfield 17, 3) := by decide +kernel
theorem dX13_gridMany_14 : decode cX13_gridMany 14 = .ok (.iload_n 2, 1) := by decide +kernel
theorem dX13_gridMany_15 : decode cX13_gridMany 15 = .ok (.iaload, 1) := by decide +kernel
theorem dX13_gridMany_16 : decode cX13_gridMany 16 = .ok (.ifCond .lt 7, 3) := by decide +kernel
theorem dX13_gridMany_19 : decode cX13_gridMany 19 = .ok (.iconst 1, 1) := by decide +kernel
theorem dX13_gridMany_20 : decode cX13_gridMany 20 = .ok (.goto 4, 3) := by decide +kernel
theorem dX13_gridMany_23 : decode cX13_gridMany 23 = .ok (.iconst 0, 1) := by decide +kernel
theorem dX13_gridMany_24 : decode cX13_gridMany 24 = .ok (.iadd, 1) := by decide +kernel
theorem dX13_gridMany_25 : decode cX13_gridMany 25 = .ok (.istore_n 1, 1) := by decide +kernel
theorem dX13_gridMany_26 : decode cX13_gridMany 26 = .ok (.iinc 2 1, 3) := by decide +kernel
theorem dX13_gridMany_29 : decode cX13_gridMany 29 = .ok (.goto (-25), 3) := by decide +kernel
theorem dX13_gridMany_32 : decode cX13_gridMany 32 = .ok (.iload_n 1, 1) := by decide +kernel
theorem dX13_gridMany_33 : decode cX13_gridMany 33 = .ok (.ireturn, 1) := by decide +kernel
theorem dX13_keep_0 : decode cX13_keep 0 = .ok (.iload_n 1, 1) := by decide +kernel
theorem dX13_keep_1 : decode cX13_keep 1 = .ok (.iconst 0, 1) := by decide +kernel
theorem dX13_keep_2 : decode cX13_keep 2 = .ok (.iconst 1, 1) := by decide +kernel
theorem dX13_keep_3 : decode cX13_keep 3 = .ok (.invokestatic 109, 3) := by decide +kernel
theorem dX13_keep_6 : decode cX13_keep 6 = .ok (.ifCond .ne 9, 3) := by decide +kernel
theorem dX13_keep_9 : decode cX13_keep 9 = .ok (.aload_n 0, 1) := by decide +kernel
theorem dX13_keep_10 : decode cX13_keep 10 = .ok (.iconst (-1), 1) := by decide +kernel
theorem dX13_keep_11 : decode cX13_keep 11 = .ok (.invokevirtual 137, 3) := by decide +kernel
theorem dX13_keep_14 : decode cX13_keep 14 = .ok (.ireturn, 1) := by decide +kernel
theorem dX13_keep_15 : decode cX13_keep 15 = .ok (.aload_n 0, 1) := by decide +kernel
theorem dX13_keep_16 : decode cX13_keep 16 = .ok (.iload_n 1, 1) := by decide +kernel
theorem dX13_keep_17 : decode cX13_keep 17 = .ok (.invokevirtual 456, 3) := by decide +kernel
theorem dX13_keep_20 : decode cX13_keep 20 = .ok (.aload_n 0, 1) := by decide +kernel
theorem dX13_keep_21 : decode cX13_keep 21 = .ok (.invokevirtual 459, 3) := by decide +kernel
theorem dX13_keep_24 : decode cX13_keep 24 = .ok (.ireturn, 1) := by decide +kernel
theorem dX13_back_0 : decode cX13_back 0 = .ok (.iload_n 1, 1) := by decide +kernel
theorem dX13_back_1 : decode cX13_back 1 = .ok (.iconst 0, 1) := by decide +kernel
theorem dX13_back_2 : decode cX13_back 2 = .ok (.iconst 1, 1) := by decide +kernel
theorem dX13_back_3 : decode cX13_back 3 = .ok (.invokestatic 109, 3) := by decide +kernel
theorem dX13_back_6 : decode cX13_back 6 = .ok (.ifCond .ne 9, 3) := by decide +kernel
theorem dX13_back_9 : decode cX13_back 9 = .ok (.aload_n 0, 1) := by decide +kernel
theorem dX13_back_10 : decode cX13_back 10 = .ok (.iconst (-1), 1) := by decide +kernel
theorem dX13_back_11 : decode cX13_back 11 = .ok (.invokevirtual 137, 3) := by decide +kernel
theorem dX13_back_14 : decode cX13_back 14 = .ok (.ireturn, 1) := by decide +kernel
theorem dX13_back_15 : decode cX13_back 15 = .ok (.aload_n 0, 1) := by decide +kernel
theorem dX13_back_16 : decode cX13_back 16 = .ok (.getfield 70, 3) := by decide +kernel
theorem dX13_back_19 : decode cX13_back 19 = .ok (.iload_n 1, 1) := by decide +kernel
theorem dX13_back_20 : decode cX13_back 20 = .ok (.iaload, 1) := by decide +kernel
theorem dX13_back_21 : decode cX13_back 21 = .ok (.ifCond .ne 10, 3) := by decide +kernel
theorem dX13_back_24 : decode cX13_back 24 = .ok (.aload_n 0, 1) := by decide +kernel
theorem dX13_back_25 : decode cX13_back 25 = .ok (.bipush (-2), 2) := by decide +kernel
theorem dX13_back_27 : decode cX13_back 27 = .ok (.invokevirtual 137, 3) := by decide +kernel
theorem dX13_back_30 : decode cX13_back 30 = .ok (.ireturn, 1) := by decide +kernel
theorem dX13_back_31 : decode cX13_back 31 = .ok (.aload_n 0, 1) := by decide +kernel
theorem dX13_back_32 : decode cX13_back 32 = .ok (.iload_n 1, 1) := by decide +kernel
theorem dX13_back_33 : decode cX13_back 33 = .ok (.invokevirtual 463, 3) := by decide +kernel
