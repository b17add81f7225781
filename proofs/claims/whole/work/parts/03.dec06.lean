theorem dX13_back_36 : decode cX13_back 36 = .ok (.aload_n 0, 1) := by decide +kernel
theorem dX13_back_37 : decode cX13_back 37 = .ok (.invokevirtual 459, 3) := by decide +kernel
theorem dX13_back_40 : decode cX13_back 40 = .ok (.ireturn, 1) := by decide +kernel
theorem dX13_type_0 : decode cX13_type 0 = .ok (.iload_n 1, 1) := by decide +kernel
theorem dX13_type_1 : decode cX13_type 1 = .ok (.iconst 0, 1) := by decide +kernel
theorem dX13_type_2 : decode cX13_type 2 = .ok (.sipush 255, 3) := by decide +kernel
theorem dX13_type_5 : decode cX13_type 5 = .ok (.invokestatic 109, 3) := by decide +kernel
theorem dX13_type_8 : decode cX13_type 8 = .ok (.ifCond .ne 9, 3) := by decide +kernel
theorem dX13_type_11 : decode cX13_type 11 = .ok (.aload_n 0, 1) := by decide +kernel
theorem dX13_type_12 : decode cX13_type 12 = .ok (.iconst (-1), 1) := by decide +kernel
theorem dX13_type_13 : decode cX13_type 13 = .ok (.invokevirtual 137, 3) := by decide +kernel
theorem dX13_type_16 : decode cX13_type 16 = .ok (.ireturn, 1) := by decide +kernel
theorem dX13_type_17 : decode cX13_type 17 = .ok (.aload_n 0, 1) := by decide +kernel
theorem dX13_type_18 : decode cX13_type 18 = .ok (.getfield 466, 3) := by decide +kernel
theorem dX13_type_21 : decode cX13_type 21 = .ok (.bipush 80, 2) := by decide +kernel
theorem dX13_type_23 : decode cX13_type 23 = .ok (.if_icmp .ne 10, 3) := by decide +kernel
theorem dX13_type_26 : decode cX13_type 26 = .ok (.aload_n 0, 1) := by decide +kernel
theorem dX13_type_27 : decode cX13_type 27 = .ok (.bipush (-10), 2) := by decide +kernel
theorem dX13_type_29 : decode cX13_type 29 = .ok (.invokevirtual 137, 3) := by decide +kernel
theorem dX13_type_32 : decode cX13_type 32 = .ok (.ireturn, 1) := by decide +kernel
theorem dX13_type_33 : decode cX13_type 33 = .ok (.aload_n 0, 1) := by decide +kernel
theorem dX13_type_34 : decode cX13_type 34 = .ok (.getfield 94, 3) := by decide +kernel
theorem dX13_type_37 : decode cX13_type 37 = .ok (.aload_n 0, 1) := by decide +kernel
theorem dX13_type_38 : decode cX13_type 38 = .ok (.getfield 466, 3) := by decide +kernel
theorem dX13_type_41 : decode cX13_type 41 = .ok (.iload_n 1, 1) := by decide +kernel
theorem dX13_type_42 : decode cX13_type 42 = .ok (.iastore, 1) := by decide +kernel
theorem dX13_type_43 : decode cX13_type 43 = .ok (.aload_n 0, 1) := by decide +kernel
theorem dX13_type_44 : decode cX13_type 44 = .ok (.dup, 1) := by decide +kernel
theorem dX13_type_45 : decode cX13_type 45 = .ok (.getfield 466, 3) := by decide +kernel
theorem dX13_type_48 : decode cX13_type 48 = .ok (.iconst 1, 1) := by decide +kernel
theorem dX13_type_49 : decode cX13_type 49 = .ok (.iadd, 1) := by decide +kernel
theorem dX13_type_50 : decode cX13_type 50 = .ok (.putfield 466, 3) := by decide +kernel
theorem dX13_type_53 : decode cX13_type 53 = .ok (.aload_n 0, 1) := by decide +kernel
theorem dX13_type_54 : decode cX13_type 54 = .ok (.getfield 466, 3) := by decide +kernel
theorem dX13_type_57 : decode cX13_type 57 = .ok (.ireturn, 1) := by decide +kernel
theorem dX13_clear_0 : decode cX13_clear 0 = .ok (.aload_n 0, 1) := by decide +kernel
theorem dX13_clear_1 : decode cX13_clear 1 = .ok (.getfield 466, 3) := by decide +kernel
theorem dX13_clear_4 : decode cX13_clear 4 = .ok (.istore_n 1, 1) := by decide +kernel
theorem dX13_clear_5 : decode cX13_clear 5 = .ok (.aload_n 0, 1) := by decide +kernel
theorem dX13_clear_6 : decode cX13_clear 6 = .ok (.iconst 0, 1) := by decide +kernel
theorem dX13_clear_7 : decode cX13_clear 7 = .ok (.putfield 466, 3) := by decide +kernel
theorem dX13_clear_10 : decode cX13_clear 10 = .ok (.iload_n 1, 1) := by decide +kernel
theorem dX13_clear_11 : decode cX13_clear 11 = .ok (.ireturn, 1) := by decide +kernel
theorem dX13_isLetter_0 : decode cX13_isLetter 0 = .ok (.iload_n 1, 1) := by decide +kernel
theorem dX13_isLetter_1 : decode cX13_isLetter 1 = .ok (.aload_n 0, 1) := by decide +kernel
theorem dX13_isLetter_2 : decode cX13_isLetter 2 = .ok (.getfield 466, 3) := by decide +kernel
theorem dX13_isLetter_5 : decode cX13_isLetter 5 = .ok (.if_icmp .ge 23, 3) := by decide +kernel
theorem dX13_isLetter_8 : decode cX13_isLetter 8 = .ok (.aload_n 0, 1) := by decide +kernel
theorem dX13_isLetter_9 : decode cX13_isLetter 9 = .ok (.getfield 94, 3) := by decide +kernel
theorem dX13_isLetter_12 : decode cX13_isLetter 12 = .ok (.iload_n 1, 1) := by decide +kernel
theorem dX13_isLetter_13 : decode cX13_isLetter 13 = .ok (.iaload, 1) := by decide +kernel
theorem dX13_isLetter_14 : decode cX13_isLetter 14 = .ok (.bipush 97, 2) := by decide +kernel
theorem dX13_isLetter_16 : decode cX13_isLetter 16 = .ok (.bipush 122, 2) := by decide +kernel
theorem dX13_isLetter_18 : decode cX13_isLetter 18 = .ok (.invokestatic 109, 3) := by decide +kernel
theorem dX13_isLetter_21 : decode cX13_isLetter 21 = .ok (.ifCond .eq 7, 3) := by decide +kernel
theorem dX13_isLetter_24 : decode cX13_isLetter 24 = .ok (.iconst 1, 1) := by decide +kernel
theorem dX13_isLetter_25 : decode cX13_isLetter 25 = .ok (.goto 4, 3) := by decide +kernel
theorem dX13_isLetter_28 : decode cX13_isLetter 28 = .ok (.iconst 0, 1) := by decide +kernel
theorem dX13_isLetter_29 : decode cX13_isLetter 29 = .ok (.ireturn, 1) := by decide +kernel
theorem dX13_isFigure_0 : decode cX13_isFigure 0 = .ok (.iload_n 1, 1) := by decide +kernel
theorem dX13_isFigure_1 : decode cX13_isFigure 1 = .ok (.aload_n 0, 1) := by decide +kernel
theorem dX13_isFigure_2 : decode cX13_isFigure 2 = .ok (.getfield 466, 3) := by decide +kernel
theorem dX13_isFigure_5 : decode cX13_isFigure 5 = .ok (.if_icmp .ge 23, 3) := by decide +kernel
theorem dX13_isFigure_8 : decode cX13_isFigure 8 = .ok (.aload_n 0, 1) := by decide +kernel
theorem dX13_isFigure_9 : decode cX13_isFigure 9 = .ok (.getfield 94, 3) := by decide +kernel
theorem dX13_isFigure_12 : decode cX13_isFigure 12 = .ok (.iload_n 1, 1) := by decide +kernel
theorem dX13_isFigure_13 : decode cX13_isFigure 13 = .ok (.iaload, 1) := by decide +kernel
theorem dX13_isFigure_14 : decode cX13_isFigure 14 = .ok (.bipush 48, 2) := by decide +kernel
theorem dX13_isFigure_16 : decode cX13_isFigure 16 = .ok (.bipush 57, 2) := by decide +kernel
theorem dX13_isFigure_18 : decode cX13_isFigure 18 = .ok (.invokestatic 109, 3) := by decide +kernel
theorem dX13_isFigure_21 : decode cX13_isFigure 21 = .ok (.ifCond .eq 7, 3) := by decide +kernel
theorem dX13_isFigure_24 : decode cX13_isFigure 24 = .ok (.iconst 1, 1) := by decide +kernel
theorem dX13_isFigure_25 : decode cX13_isFigure 25 = .ok (.goto 4, 3) := by decide +kernel
theorem dX13_isFigure_28 : decode cX13_isFigure 28 = .ok (.iconst 0, 1) := by decide +kernel
theorem dX13_isFigure_29 : decode cX13_isFigure 29 = .ok (.ireturn, 1) := by decide +kernel
theorem dX13_passesBlanks_0 : decode cX13_passesBlanks 0 = .ok (.aload_n 0, 1) := by decide +kernel
theorem dX13_passesBlanks_1 : decode cX13_passesBlanks 1 = .ok (.getfield 469, 3) := by decide +kernel
theorem dX13_passesBlanks_4 : decode cX13_passesBlanks 4 = .ok (.aload_n 0, 1) := by decide +kernel
theorem dX13_passesBlanks_5 : decode cX13_passesBlanks 5 = .ok (.getfield 466, 3) := by decide +kernel
theorem dX13_passesBlanks_8 : decode cX13_passesBlanks 8 = .ok (.if_icmp .ge 30, 3) := by decide +kernel
theorem dX13_passesBlanks_11 : decode cX13_passesBlanks 11 = .ok (.aload_n 0, 1) := by decide +kernel
theorem dX13_passesBlanks_12 : decode cX13_passesBlanks 12 = .ok (.getfield 94, 3) := by decide +kernel
theorem dX13_passesBlanks_15 : decode cX13_passesBlanks 15 = .ok (.aload_n 0, 1) := by decide +kernel
theorem dX13_passesBlanks_16 : decode cX13_passesBlanks 16 = .ok (.getfield 469, 3) := by decide +kernel
theorem dX13_passesBlanks_19 : decode cX13_passesBlanks 19 = .ok (.iaload, 1) := by decide +kernel
theorem dX13_passesBlanks_20 : decode cX13_passesBlanks 20 = .ok (.bipush 32, 2) := by decide +kernel
theorem dX13_passesBlanks_22 : decode cX13_passesBlanks 22 = .ok (.if_icmp .ne 16, 3) := by decide +kernel
theorem dX13_passesBlanks_25 : decode cX13_passesBlanks 25 = .ok (.aload_n 0, 1) := by decide +kernel
theorem dX13_passesBlanks_26 : decode cX13_passesBlanks 26 = .ok (.dup, 1) := by decide +kernel
theorem dX13_passesBlanks_27 : decode cX13_passesBlanks 27 = .ok (.getfield 469, 3) := by decide +kernel
theorem dX13_passesBlanks_30 : decode cX13_passesBlanks 30 = .ok (.iconst 1, 1) := by decide +kernel
theorem dX13_passesBlanks_31 : decode cX13_passesBlanks 31 = .ok (.iadd, 1) := by decide +kernel
theorem dX13_passesBlanks_32 : decode cX13_passesBlanks 32 = .ok (.putfield 469, 3) := by decide +kernel
theorem dX13_passesBlanks_35 : decode cX13_passesBlanks 35 = .ok (.goto (-35), 3) := by decide +kernel
theorem dX13_passesBlanks_38 : decode cX13_passesBlanks 38 = .ok (.return_, 1) := by decide +kernel
theorem dX13_word_0 : decode cX13_word 0 = .ok (.lconst 0, 1) := by decide +kernel
theorem dX13_word_1 : decode cX13_word 1 = .ok (.lstore_n 1, 1) := by decide +kernel
theorem dX13_word_2 : decode cX13_word 2 = .ok (.iconst 0, 1) := by decide +kernel
theorem dX13_word_3 : decode cX13_word 3 = .ok (.istore_n 3, 1) := by decide +kernel
theorem dX13_word_4 : decode cX13_word 4 = .ok (.aload_n 0, 1) := by decide +kernel
theorem dX13_word_5 : decode cX13_word 5 = .ok (.aload_n 0, 1) := by decide +kernel
theorem dX13_word_6 : decode cX13_word 6 = .ok (.getfield 469, 3) := by decide +kernel
theorem dX13_word_9 : decode cX13_word 9 = .ok (.invokevirtual 472, 3) := by decide +kernel
theorem dX13_word_12 : decode cX13_word 12 = .ok (.ifCond .eq 51, 3) := by decide +kernel
theorem dX13_word_15 : decode cX13_word 15 = .ok (.iload_n 3, 1) := by decide +kernel
theorem dX13_word_16 : decode cX13_word 16 = .ok (.bipush 6, 2) := by decide +kernel
theorem dX13_word_18 : decode cX13_word 18 = .ok (.if_icmp .ge 25, 3) := by decide +kernel
theorem dX13_word_21 : decode cX13_word 21 = .ok (.ldc2_w 475, 3) := by decide +kernel
theorem dX13_word_24 : decode cX13_word 24 = .ok (.lload_n 1, 1) := by decide +kernel
theorem dX13_word_25 : decode cX13_word 25 = .ok (.lmul, 1) := by decide +kernel
theorem dX13_word_26 : decode cX13_word 26 = .ok (.aload_n 0, 1) := by decide +kernel
theorem dX13_word_27 : decode cX13_word 27 = .ok (.getfield 94, 3) := by decide +kernel
theorem dX13_word_30 : decode cX13_word 30 = .ok (.aload_n 0, 1) := by decide +kernel
theorem dX13_word_31 : decode cX13_word 31 = .ok (.getfield 469, 3) := by decide +kernel
theorem dX13_word_34 : decode cX13_word 34 = .ok (.iaload, 1) := by decide +kernel
theorem dX13_word_35 : decode cX13_word 35 = .ok (.bipush 96, 2) := by decide +kernel
theorem dX13_word_37 : decode cX13_word 37 = .ok (.isub, 1) := by decide +kernel
theorem dX13_word_38 : decode cX13_word 38 = .ok (.i2l, 1) := by decide +kernel
theorem dX13_word_39 : decode cX13_word 39 = .ok (.ladd, 1) := by decide +kernel
theorem dX13_word_40 : decode cX13_word 40 = .ok (.goto 6, 3) := by decide +kernel
theorem dX13_word_43 : decode cX13_word 43 = .ok (.ldc2_w 477, 3) := by decide +kernel
theorem dX13_word_46 : decode cX13_word 46 = .ok (.lstore_n 1, 1) := by decide +kernel
theorem dX13_word_47 : decode cX13_word 47 = .ok (.iinc 3 1, 3) := by decide +kernel
theorem dX13_word_50 : decode cX13_word 50 = .ok (.aload_n 0, 1) := by decide +kernel
theorem dX13_word_51 : decode cX13_word 51 = .ok (.dup, 1) := by decide +kernel
theorem dX13_word_52 : decode cX13_word 52 = .ok (.getfield 469, 3) := by decide +kernel
theorem dX13_word_55 : decode cX13_word 55 = .ok (.iconst 1, 1) := by decide +kernel
theorem dX13_word_56 : decode cX13_word 56 = .ok (.iadd, 1) := by decide +kernel
theorem dX13_word_57 : decode cX13_word 57 = .ok (.putfield 469, 3) := by decide +kernel
theorem dX13_word_60 : decode cX13_word 60 = .ok (.goto (-56), 3) := by decide +kernel
theorem dX13_word_63 : decode cX13_word 63 = .ok (.iload_n 3, 1) := by decide +kernel
theorem dX13_word_64 : decode cX13_word 64 = .ok (.bipush 6, 2) := by decide +kernel
theorem dX13_word_66 : decode cX13_word 66 = .ok (.if_icmp .le 9, 3) := by decide +kernel
theorem dX13_word_69 : decode cX13_word 69 = .ok (.ldc2_w 477, 3) := by decide +kernel
theorem dX13_word_72 : decode cX13_word 72 = .ok (.goto 4, 3) := by decide +kernel
theorem dX13_word_75 : decode cX13_word 75 = .ok (.lload_n 1, 1) := by decide +kernel
theorem dX13_word_76 : decode cX13_word 76 = .ok (.lreturn, 1) := by decide +kernel
theorem dX13_packed_0 : decode cX13_packed 0 = .ok (.iload_n 0, 1) := by decide +kernel
theorem dX13_packed_1 : decode cX13_packed 1 = .ok (.i2l, 1) := by decide +kernel
theorem dX13_packed_2 : decode cX13_packed 2 = .ok (.ldc2_w 475, 3) := by decide +kernel
theorem dX13_packed_5 : decode cX13_packed 5 = .ok (.lmul, 1) := by decide +kernel
theorem dX13_packed_6 : decode cX13_packed 6 = .ok (.iload_n 1, 1) := by decide +kernel
theorem dX13_packed_7 : decode cX13_packed 7 = .ok (.i2l, 1) := by decide +kernel
theorem dX13_packed_8 : decode cX13_packed 8 = .ok (.ladd, 1) := by decide +kernel
theorem dX13_packed_9 : decode cX13_packed 9 = .ok (.ldc2_w 475, 3) := by decide +kernel
theorem dX13_packed_12 : decode cX13_packed 12 = .ok (.lmul, 1) := by decide +kernel
theorem dX13_packed_13 : decode cX13_packed 13 = .ok (.iload_n 2, 1) := by decide +kernel
theorem dX13_packed_14 : decode cX13_packed 14 = .ok (.i2l, 1) := by decide +kernel
theorem dX13_packed_15 : decode cX13_packed 15 = .ok (.ladd, 1) := by decide +kernel
theorem dX13_packed_16 : decode cX13_packed 16 = .ok (.ldc2_w 475, 3) := by decide +kernel
theorem dX13_packed_19 : decode cX13_packed 19 = .ok (.lmul, 1) := by decide +kernel
theorem dX13_packed_20 : decode cX13_packed 20 = .ok (.iload_n 3, 1) := by decide +kernel
theorem dX13_packed_21 : decode cX13_packed 21 = .ok (.i2l, 1) := by decide +kernel
theorem dX13_packed_22 : decode cX13_packed 22 = .ok (.ladd, 1) := by decide +kernel
theorem dX13_packed_23 : decode cX13_packed 23 = .ok (.lreturn, 1) := by decide +kernel
theorem dX13_deedOf_0 : decode cX13_deedOf 0 = .ok (.lload_n 0, 1) := by decide +kernel
theorem dX13_deedOf_1 : decode cX13_deedOf 1 = .ok (.iconst 0, 1) := by decide +kernel
theorem dX13_deedOf_2 : decode cX13_deedOf 2 = .ok (.bipush 18, 2) := by decide +kernel
theorem dX13_deedOf_4 : decode cX13_deedOf 4 = .ok (.bipush 15, 2) := by decide +kernel
theorem dX13_deedOf_6 : decode cX13_deedOf 6 = .ok (.bipush 23, 2) := by decide +kernel
theorem dX13_deedOf_8 : decode cX13_deedOf 8 = .ok (.invokestatic 479, 3) := by decide +kernel
theorem dX13_deedOf_11 : decode cX13_deedOf 11 = .ok (.lcmp, 1) := by decide +kernel
theorem dX13_deedOf_12 : decode cX13_deedOf 12 = .ok (.ifCond .ne 5, 3) := by decide +kernel
theorem dX13_deedOf_15 : decode cX13_deedOf 15 = .ok (.iconst 0, 1) := by decide +kernel
theorem dX13_deedOf_16 : decode cX13_deedOf 16 = .ok (.ireturn, 1) := by decide +kernel
theorem dX13_deedOf_17 : decode cX13_deedOf 17 = .ok (.lload_n 0, 1) := by decide +kernel
theorem dX13_deedOf_18 : decode cX13_deedOf 18 = .ok (.iconst 4, 1) := by decide +kernel
theorem dX13_deedOf_19 : decode cX13_deedOf 19 = .ok (.bipush 18, 2) := by decide +kernel
theorem dX13_deedOf_21 : decode cX13_deedOf 21 = .ok (.bipush 15, 2) := by decide +kernel
theorem dX13_deedOf_23 : decode cX13_deedOf 23 = .ok (.bipush 16, 2) := by decide +kernel
theorem dX13_deedOf_25 : decode cX13_deedOf 25 = .ok (.invokestatic 479, 3) := by decide +kernel
theorem dX13_deedOf_28 : decode cX13_deedOf 28 = .ok (.lcmp, 1) := by decide +kernel
theorem dX13_deedOf_29 : decode cX13_deedOf 29 = .ok (.ifCond .ne 5, 3) := by decide +kernel
theorem dX13_deedOf_32 : decode cX13_deedOf 32 = .ok (.iconst 1, 1) := by decide +kernel
theorem dX13_deedOf_33 : decode cX13_deedOf 33 = .ok (.ireturn, 1) := by decide +kernel
theorem dX13_deedOf_34 : decode cX13_deedOf 34 = .ok (.lload_n 0, 1) := by decide +kernel
theorem dX13_deedOf_35 : decode cX13_deedOf 35 = .ok (.bipush 19, 2) := by decide +kernel
theorem dX13_deedOf_37 : decode cX13_deedOf 37 = .ok (.bipush 23, 2) := by decide +kernel
theorem dX13_deedOf_39 : decode cX13_deedOf 39 = .ok (.iconst 1, 1) := by decide +kernel
theorem dX13_deedOf_40 : decode cX13_deedOf 40 = .ok (.bipush 16, 2) := by decide +kernel
theorem dX13_deedOf_42 : decode cX13_deedOf 42 = .ok (.invokestatic 479, 3) := by decide +kernel
theorem dX13_deedOf_45 : decode cX13_deedOf 45 = .ok (.lcmp, 1) := by decide +kernel
theorem dX13_deedOf_46 : decode cX13_deedOf 46 = .ok (.ifCond .ne 5, 3) := by decide +kernel
theorem dX13_deedOf_49 : decode cX13_deedOf 49 = .ok (.iconst 2, 1) := by decide +kernel
theorem dX13_deedOf_50 : decode cX13_deedOf 50 = .ok (.ireturn, 1) := by decide +kernel
theorem dX13_deedOf_51 : decode cX13_deedOf 51 = .ok (.lload_n 0, 1) := by decide +kernel
theorem dX13_deedOf_52 : decode cX13_deedOf 52 = .ok (.ldc2_w 475, 3) := by decide +kernel
theorem dX13_deedOf_55 : decode cX13_deedOf 55 = .ok (.bipush 19, 2) := by decide +kernel
theorem dX13_deedOf_57 : decode cX13_deedOf 57 = .ok (.bipush 8, 2) := by decide +kernel
theorem dX13_deedOf_59 : decode cX13_deedOf 59 = .ok (.iconst 1, 1) := by decide +kernel
theorem dX13_deedOf_60 : decode cX13_deedOf 60 = .ok (.bipush 18, 2) := by decide +kernel
theorem dX13_deedOf_62 : decode cX13_deedOf 62 = .ok (.invokestatic 479, 3) := by decide +kernel
theorem dX13_deedOf_65 : decode cX13_deedOf 65 = .ok (.lmul, 1) := by decide +kernel
theorem dX13_deedOf_66 : decode cX13_deedOf 66 = .ok (.ldc2_w 482, 3) := by decide +kernel
theorem dX13_deedOf_69 : decode cX13_deedOf 69 = .ok (.ladd, 1) := by decide +kernel
theorem dX13_deedOf_70 : decode cX13_deedOf 70 = .ok (.lcmp, 1) := by decide +kernel
theorem dX13_deedOf_71 : decode cX13_deedOf 71 = .ok (.ifCond .ne 5, 3) := by decide +kernel
theorem dX13_deedOf_74 : decode cX13_deedOf 74 = .ok (.iconst 3, 1) := by decide +kernel
theorem dX13_deedOf_75 : decode cX13_deedOf 75 = .ok (.ireturn, 1) := by decide +kernel
theorem dX13_deedOf_76 : decode cX13_deedOf 76 = .ok (.lload_n 0, 1) := by decide +kernel
theorem dX13_deedOf_77 : decode cX13_deedOf 77 = .ok (.iconst 0, 1) := by decide +kernel
theorem dX13_deedOf_78 : decode cX13_deedOf 78 = .ok (.iconst 3, 1) := by decide +kernel
theorem dX13_deedOf_79 : decode cX13_deedOf 79 = .ok (.bipush 21, 2) := by decide +kernel
theorem dX13_deedOf_81 : decode cX13_deedOf 81 = .ok (.bipush 20, 2) := by decide +kernel
theorem dX13_deedOf_83 : decode cX13_deedOf 83 = .ok (.invokestatic 479, 3) := by decide +kernel
theorem dX13_deedOf_86 : decode cX13_deedOf 86 = .ok (.lcmp, 1) := by decide +kernel
theorem dX13_deedOf_87 : decode cX13_deedOf 87 = .ok (.ifCond .ne 5, 3) := by decide +kernel
theorem dX13_deedOf_90 : decode cX13_deedOf 90 = .ok (.iconst 4, 1) := by decide +kernel
theorem dX13_deedOf_91 : decode cX13_deedOf 91 = .ok (.ireturn, 1) := by decide +kernel
theorem dX13_deedOf_92 : decode cX13_deedOf 92 = .ok (.lload_n 0, 1) := by decide +kernel
theorem dX13_deedOf_93 : decode cX13_deedOf 93 = .ok (.iconst 3, 1) := by decide +kernel
theorem dX13_deedOf_94 : decode cX13_deedOf 94 = .ok (.iconst 1, 1) := by decide +kernel
theorem dX13_deedOf_95 : decode cX13_deedOf 95 = .ok (.bipush 19, 2) := by decide +kernel
theorem dX13_deedOf_97 : decode cX13_deedOf 97 = .ok (.bipush 20, 2) := by decide +kernel
theorem dX13_deedOf_99 : decode cX13_deedOf 99 = .ok (.invokestatic 479, 3) := by decide +kernel
theorem dX13_deedOf_102 : decode cX13_deedOf 102 = .ok (.lcmp, 1) := by decide +kernel
theorem dX13_deedOf_103 : decode cX13_deedOf 103 = .ok (.ifCond .ne 5, 3) := by decide +kernel
theorem dX13_deedOf_106 : decode cX13_deedOf 106 = .ok (.iconst 5, 1) := by decide +kernel
theorem dX13_deedOf_107 : decode cX13_deedOf 107 = .ok (.ireturn, 1) := by decide +kernel
theorem dX13_deedOf_108 : decode cX13_deedOf 108 = .ok (.lload_n 0, 1) := by decide +kernel
theorem dX13_deedOf_109 : decode cX13_deedOf 109 = .ok (.bipush 10, 2) := by decide +kernel
theorem dX13_deedOf_111 : decode cX13_deedOf 111 = .ok (.bipush 15, 2) := by decide +kernel
theorem dX13_deedOf_113 : decode cX13_deedOf 113 = .ok (.bipush 9, 2) := by decide +kernel
theorem dX13_deedOf_115 : decode cX13_deedOf 115 = .ok (.bipush 14, 2) := by decide +kernel
theorem dX13_deedOf_117 : decode cX13_deedOf 117 = .ok (.invokestatic 479, 3) := by decide +kernel
theorem dX13_deedOf_120 : decode cX13_deedOf 120 = .ok (.lcmp, 1) := by decide +kernel
theorem dX13_deedOf_121 : decode cX13_deedOf 121 = .ok (.ifCond .ne 6, 3) := by decide +kernel
theorem dX13_deedOf_124 : decode cX13_deedOf 124 = .ok (.bipush 6, 2) := by decide +kernel
theorem dX13_deedOf_126 : decode cX13_deedOf 126 = .ok (.ireturn, 1) := by decide +kernel
theorem dX13_deedOf_127 : decode cX13_deedOf 127 = .ok (.lload_n 0, 1) := by decide +kernel
theorem dX13_deedOf_128 : decode cX13_deedOf 128 = .ok (.invokestatic 484, 3) := by decide +kernel
theorem dX13_deedOf_131 : decode cX13_deedOf 131 = .ok (.ireturn, 1) := by decide +kernel
theorem dX13_laterDeed_0 : decode cX13_laterDeed 0 = .ok (.lload_n 0, 1) := by decide +kernel
theorem dX13_laterDeed_1 : decode cX13_laterDeed 1 = .ok (.bipush 6, 2) := by decide +kernel
theorem dX13_laterDeed_3 : decode cX13_laterDeed 3 = .ok (.bipush 12, 2) := by decide +kernel
theorem dX13_laterDeed_5 : decode cX13_laterDeed 5 = .ok (.bipush 9, 2) := by decide +kernel
theorem dX13_laterDeed_7 : decode cX13_laterDeed 7 = .ok (.bipush 16, 2) := by decide +kernel
theorem dX13_laterDeed_9 : decode cX13_laterDeed 9 = .ok (.invokestatic 479, 3) := by decide +kernel
theorem dX13_laterDeed_12 : decode cX13_laterDeed 12 = .ok (.lcmp, 1) := by decide +kernel
theorem dX13_laterDeed_13 : decode cX13_laterDeed 13 = .ok (.ifCond .ne 6, 3) := by decide +kernel
theorem dX13_laterDeed_16 : decode cX13_laterDeed 16 = .ok (.bipush 7, 2) := by decide +kernel
theorem dX13_laterDeed_18 : decode cX13_laterDeed 18 = .ok (.ireturn, 1) := by decide +kernel
theorem dX13_laterDeed_19 : decode cX13_laterDeed 19 = .ok (.lload_n 0, 1) := by decide +kernel
theorem dX13_laterDeed_20 : decode cX13_laterDeed 20 = .ok (.bipush 18, 2) := by decide +kernel
theorem dX13_laterDeed_22 : decode cX13_laterDeed 22 = .ok (.bipush 15, 2) := by decide +kernel
theorem dX13_laterDeed_24 : decode cX13_laterDeed 24 = .ok (.bipush 12, 2) := by decide +kernel
theorem dX13_laterDeed_26 : decode cX13_laterDeed 26 = .ok (.bipush 12, 2) := by decide +kernel
theorem dX13_laterDeed_28 : decode cX13_laterDeed 28 = .ok (.invokestatic 479, 3) := by decide +kernel
theorem dX13_laterDeed_31 : decode cX13_laterDeed 31 = .ok (.lcmp, 1) := by decide +kernel
theorem dX13_laterDeed_32 : decode cX13_laterDeed 32 = .ok (.ifCond .ne 6, 3) := by decide +kernel
theorem dX13_laterDeed_35 : decode cX13_laterDeed 35 = .ok (.bipush 8, 2) := by decide +kernel
theorem dX13_laterDeed_37 : decode cX13_laterDeed 37 = .ok (.ireturn, 1) := by decide +kernel
theorem dX13_laterDeed_38 : decode cX13_laterDeed 38 = .ok (.lload_n 0, 1) := by decide +kernel
theorem dX13_laterDeed_39 : decode cX13_laterDeed 39 = .ok (.ldc2_w 475, 3) := by decide +kernel
theorem dX13_laterDeed_42 : decode cX13_laterDeed 42 = .ok (.bipush 15, 2) := by decide +kernel
theorem dX13_laterDeed_44 : decode cX13_laterDeed 44 = .ok (.bipush 18, 2) := by decide +kernel
theorem dX13_laterDeed_46 : decode cX13_laterDeed 46 = .ok (.iconst 4, 1) := by decide +kernel
theorem dX13_laterDeed_47 : decode cX13_laterDeed 47 = .ok (.iconst 5, 1) := by decide +kernel
theorem dX13_laterDeed_48 : decode cX13_laterDeed 48 = .ok (.invokestatic 479, 3) := by decide +kernel
theorem dX13_laterDeed_51 : decode cX13_laterDeed 51 = .ok (.lmul, 1) := by decide +kernel
theorem dX13_laterDeed_52 : decode cX13_laterDeed 52 = .ok (.ldc2_w 488, 3) := by decide +kernel
theorem dX13_laterDeed_55 : decode cX13_laterDeed 55 = .ok (.ladd, 1) := by decide +kernel
theorem dX13_laterDeed_56 : decode cX13_laterDeed 56 = .ok (.lcmp, 1) := by decide +kernel
theorem dX13_laterDeed_57 : decode cX13_laterDeed 57 = .ok (.ifCond .ne 6, 3) := by decide +kernel
theorem dX13_laterDeed_60 : decode cX13_laterDeed 60 = .ok (.bipush 9, 2) := by decide +kernel
theorem dX13_laterDeed_62 : decode cX13_laterDeed 62 = .ok (.ireturn, 1) := by decide +kernel
theorem dX13_laterDeed_63 : decode cX13_laterDeed 63 = .ok (.lload_n 0, 1) := by decide +kernel
theorem dX13_laterDeed_64 : decode cX13_laterDeed 64 = .ok (.iconst 0, 1) := by decide +kernel
theorem dX13_laterDeed_65 : decode cX13_laterDeed 65 = .ok (.iconst 1, 1) := by decide +kernel
theorem dX13_laterDeed_66 : decode cX13_laterDeed 66 = .ok (.iconst 4, 1) := by decide +kernel
theorem dX13_laterDeed_67 : decode cX13_laterDeed 67 = .ok (.iconst 4, 1) := by decide +kernel
theorem dX13_laterDeed_68 : decode cX13_laterDeed 68 = .ok (.invokestatic 479, 3) := by decide +kernel
theorem dX13_laterDeed_71 : decode cX13_laterDeed 71 = .ok (.lcmp, 1) := by decide +kernel
theorem dX13_laterDeed_72 : decode cX13_laterDeed 72 = .ok (.ifCond .ne 6, 3) := by decide +kernel
theorem dX13_laterDeed_75 : decode cX13_laterDeed 75 = .ok (.bipush 10, 2) := by decide +kernel
theorem dX13_laterDeed_77 : decode cX13_laterDeed 77 = .ok (.ireturn, 1) := by decide +kernel
theorem dX13_laterDeed_78 : decode cX13_laterDeed 78 = .ok (.lload_n 0, 1) := by decide +kernel
theorem dX13_laterDeed_79 : decode cX13_laterDeed 79 = .ok (.bipush 6, 2) := by decide +kernel
theorem dX13_laterDeed_81 : decode cX13_laterDeed 81 = .ok (.bipush 12, 2) := by decide +kernel
theorem dX13_laterDeed_83 : decode cX13_laterDeed 83 = .ok (.iconst 1, 1) := by decide +kernel
theorem dX13_laterDeed_84 : decode cX13_laterDeed 84 = .ok (.bipush 20, 2) := by decide +kernel
theorem dX13_laterDeed_86 : decode cX13_laterDeed 86 = .ok (.invokestatic 479, 3) := by decide +kernel
theorem dX13_laterDeed_89 : decode cX13_laterDeed 89 = .ok (.lcmp, 1) := by decide +kernel
theorem dX13_laterDeed_90 : decode cX13_laterDeed 90 = .ok (.ifCond .ne 6, 3) := by decide +kernel
theorem dX13_laterDeed_93 : decode cX13_laterDeed 93 = .ok (.bipush 11, 2) := by decide +kernel
theorem dX13_laterDeed_95 : decode cX13_laterDeed 95 = .ok (.ireturn, 1) := by decide +kernel
theorem dX13_laterDeed_96 : decode cX13_laterDeed 96 = .ok (.lload_n 0, 1) := by decide +kernel
theorem dX13_laterDeed_97 : decode cX13_laterDeed 97 = .ok (.iconst 4, 1) := by decide +kernel
theorem dX13_laterDeed_98 : decode cX13_laterDeed 98 = .ok (.iconst 5, 1) := by decide +kernel
theorem dX13_laterDeed_99 : decode cX13_laterDeed 99 = .ok (.iconst 1, 1) := by decide +kernel
theorem dX13_laterDeed_100 : decode cX13_laterDeed 100 = .ok (.bipush 12, 2) := by decide +kernel
theorem dX13_laterDeed_102 : decode cX13_laterDeed 102 = .ok (.invokestatic 479, 3) := by decide +kernel
theorem dX13_laterDeed_105 : decode cX13_laterDeed 105 = .ok (.lcmp, 1) := by decide +kernel
theorem dX13_laterDeed_106 : decode cX13_laterDeed 106 = .ok (.ifCond .ne 6, 3) := by decide +kernel
theorem dX13_laterDeed_109 : decode cX13_laterDeed 109 = .ok (.bipush 12, 2) := by decide +kernel
theorem dX13_laterDeed_111 : decode cX13_laterDeed 111 = .ok (.ireturn, 1) := by decide +kernel
theorem dX13_laterDeed_112 : decode cX13_laterDeed 112 = .ok (.lload_n 0, 1) := by decide +kernel
theorem dX13_laterDeed_113 : decode cX13_laterDeed 113 = .ok (.bipush 20, 2) := by decide +kernel
theorem dX13_laterDeed_115 : decode cX13_laterDeed 115 = .ok (.bipush 21, 2) := by decide +kernel
theorem dX13_laterDeed_117 : decode cX13_laterDeed 117 = .ok (.bipush 18, 2) := by decide +kernel
theorem dX13_laterDeed_119 : decode cX13_laterDeed 119 = .ok (.bipush 14, 2) := by decide +kernel
theorem dX13_laterDeed_121 : decode cX13_laterDeed 121 = .ok (.invokestatic 479, 3) := by decide +kernel
theorem dX13_laterDeed_124 : decode cX13_laterDeed 124 = .ok (.lcmp, 1) := by decide +kernel
theorem dX13_laterDeed_125 : decode cX13_laterDeed 125 = .ok (.ifCond .ne 8, 3) := by decide +kernel
theorem dX13_laterDeed_128 : decode cX13_laterDeed 128 = .ok (.bipush 13, 2) := by decide +kernel
theorem dX13_laterDeed_130 : decode cX13_laterDeed 130 = .ok (.goto 5, 3) := by decide +kernel
theorem dX13_laterDeed_133 : decode cX13_laterDeed 133 = .ok (.bipush (-9), 2) := by decide +kernel
theorem dX13_laterDeed_135 : decode cX13_laterDeed 135 = .ok (.ireturn, 1) := by decide +kernel
theorem dX13_numbersOf_0 : decode cX13_numbersOf 0 = .ok (.iload_n 0, 1) := by decide +kernel
theorem dX13_numbersOf_1 : decode cX13_numbersOf 1 = .ok (.tableswitch 75 1 13 #[67, 75, 75, 73, 71, 71, 69, 71, 69, 75, 71, 75, 69], 67) := by decide +kernel
theorem dX13_numbersOf_68 : decode cX13_numbersOf 68 = .ok (.iconst 1, 1) := by decide +kernel
theorem dX13_numbersOf_69 : decode cX13_numbersOf 69 = .ok (.ireturn, 1) := by decide +kernel
theorem dX13_numbersOf_70 : decode cX13_numbersOf 70 = .ok (.iconst 2, 1) := by decide +kernel
theorem dX13_numbersOf_71 : decode cX13_numbersOf 71 = .ok (.ireturn, 1) := by decide +kernel
theorem dX13_numbersOf_72 : decode cX13_numbersOf 72 = .ok (.iconst 3, 1) := by decide +kernel
theorem dX13_numbersOf_73 : decode cX13_numbersOf 73 = .ok (.ireturn, 1) := by decide +kernel
theorem dX13_numbersOf_74 : decode cX13_numbersOf 74 = .ok (.iconst 5, 1) := by decide +kernel
theorem dX13_numbersOf_75 : decode cX13_numbersOf 75 = .ok (.ireturn, 1) := by decide +kernel
theorem dX13_numbersOf_76 : decode cX13_numbersOf 76 = .ok (.iconst 4, 1) := by decide +kernel
theorem dX13_numbersOf_77 : decode cX13_numbersOf 77 = .ok (.ireturn, 1) := by decide +kernel
theorem dX13_readsNumber_0 : decode cX13_readsNumber 0 = .ok (.aload_n 0, 1) := by decide +kernel
theorem dX13_readsNumber_1 : decode cX13_readsNumber 1 = .ok (.getfield 469, 3) := by decide +kernel
theorem dX13_readsNumber_4 : decode cX13_readsNumber 4 = .ok (.istore_n 1, 1) := by decide +kernel
theorem dX13_readsNumber_5 : decode cX13_readsNumber 5 = .ok (.aload_n 0, 1) := by decide +kernel
theorem dX13_readsNumber_6 : decode cX13_readsNumber 6 = .ok (.iconst 0, 1) := by decide +kernel
theorem dX13_readsNumber_7 : decode cX13_readsNumber 7 = .ok (.putfield 490, 3) := by decide +kernel
theorem dX13_readsNumber_10 : decode cX13_readsNumber 10 = .ok (.aload_n 0, 1) := by decide +kernel
theorem dX13_readsNumber_11 : decode cX13_readsNumber 11 = .ok (.aload_n 0, 1) := by decide +kernel
theorem dX13_readsNumber_12 : decode cX13_readsNumber 12 = .ok (.getfield 469, 3) := by decide +kernel
theorem dX13_readsNumber_15 : decode cX13_readsNumber 15 = .ok (.invokevirtual 493, 3) := by decide +kernel
theorem dX13_readsNumber_18 : decode cX13_readsNumber 18 = .ok (.ifCond .eq 57, 3) := by decide +kernel
theorem dX13_readsNumber_21 : decode cX13_readsNumber 21 = .ok (.aload_n 0, 1) := by decide +kernel
theorem dX13_readsNumber_22 : decode cX13_readsNumber 22 = .ok (.aload_n 0, 1) := by decide +kernel
theorem dX13_readsNumber_23 : decode cX13_readsNumber 23 = .ok (.getfield 469, 3) := by decide +kernel
theorem dX13_readsNumber_26 : decode cX13_readsNumber 26 = .ok (.iload_n 1, 1) := by decide +kernel
theorem dX13_readsNumber_27 : decode cX13_readsNumber 27 = .ok (.isub, 1) := by decide +kernel
theorem dX13_readsNumber_28 : decode cX13_readsNumber 28 = .ok (.iconst 2, 1) := by decide +kernel
theorem dX13_readsNumber_29 : decode cX13_readsNumber 29 = .ok (.if_icmp .ge 26, 3) := by decide +kernel
theorem dX13_readsNumber_32 : decode cX13_readsNumber 32 = .ok (.bipush 10, 2) := by decide +kernel
theorem dX13_readsNumber_34 : decode cX13_readsNumber 34 = .ok (.aload_n 0, 1) := by decide +kernel
theorem dX13_readsNumber_35 : decode cX13_readsNumber 35 = .ok (.getfield 490, 3) := by decide +kernel
theorem dX13_readsNumber_38 : decode cX13_readsNumber 38 = .ok (.imul, 1) := by decide +kernel
theorem dX13_readsNumber_39 : decode cX13_readsNumber 39 = .ok (.aload_n 0, 1) := by decide +kernel
theorem dX13_readsNumber_40 : decode cX13_readsNumber 40 = .ok (.getfield 94, 3) := by decide +kernel
theorem dX13_readsNumber_43 : decode cX13_readsNumber 43 = .ok (.aload_n 0, 1) := by decide +kernel
theorem dX13_readsNumber_44 : decode cX13_readsNumber 44 = .ok (.getfield 469, 3) := by decide +kernel
theorem dX13_readsNumber_47 : decode cX13_readsNumber 47 = .ok (.iaload, 1) := by decide +kernel
theorem dX13_readsNumber_48 : decode cX13_readsNumber 48 = .ok (.iadd, 1) := by decide +kernel
theorem dX13_readsNumber_49 : decode cX13_readsNumber 49 = .ok (.bipush 48, 2) := by decide +kernel
theorem dX13_readsNumber_51 : decode cX13_readsNumber 51 = .ok (.isub, 1) := by decide +kernel
theorem dX13_readsNumber_52 : decode cX13_readsNumber 52 = .ok (.goto 7, 3) := by decide +kernel
theorem dX13_readsNumber_55 : decode cX13_readsNumber 55 = .ok (.aload_n 0, 1) := by decide +kernel
theorem dX13_readsNumber_56 : decode cX13_readsNumber 56 = .ok (.getfield 490, 3) := by decide +kernel
theorem dX13_readsNumber_59 : decode cX13_readsNumber 59 = .ok (.putfield 490, 3) := by decide +kernel
theorem dX13_readsNumber_62 : decode cX13_readsNumber 62 = .ok (.aload_n 0, 1) := by decide +kernel
theorem dX13_readsNumber_63 : decode cX13_readsNumber 63 = .ok (.dup, 1) := by decide +kernel
theorem dX13_readsNumber_64 : decode cX13_readsNumber 64 = .ok (.getfield 469, 3) := by decide +kernel
theorem dX13_readsNumber_67 : decode cX13_readsNumber 67 = .ok (.iconst 1, 1) := by decide +kernel
theorem dX13_readsNumber_68 : decode cX13_readsNumber 68 = .ok (.iadd, 1) := by decide +kernel
theorem dX13_readsNumber_69 : decode cX13_readsNumber 69 = .ok (.putfield 469, 3) := by decide +kernel
theorem dX13_readsNumber_72 : decode cX13_readsNumber 72 = .ok (.goto (-62), 3) := by decide +kernel
theorem dX13_readsNumber_75 : decode cX13_readsNumber 75 = .ok (.aload_n 0, 1) := by decide +kernel
theorem dX13_readsNumber_76 : decode cX13_readsNumber 76 = .ok (.getfield 469, 3) := by decide +kernel
theorem dX13_readsNumber_79 : decode cX13_readsNumber 79 = .ok (.iload_n 1, 1) := by decide +kernel
theorem dX13_readsNumber_80 : decode cX13_readsNumber 80 = .ok (.isub, 1) := by decide +kernel
theorem dX13_readsNumber_81 : decode cX13_readsNumber 81 = .ok (.istore_n 2, 1) := by decide +kernel
theorem dX13_readsNumber_82 : decode cX13_readsNumber 82 = .ok (.iload_n 2, 1) := by decide +kernel
theorem dX13_readsNumber_83 : decode cX13_readsNumber 83 = .ok (.iconst 1, 1) := by decide +kernel
theorem dX13_readsNumber_84 : decode cX13_readsNumber 84 = .ok (.if_icmp .lt 8, 3) := by decide +kernel
theorem dX13_readsNumber_87 : decode cX13_readsNumber 87 = .ok (.iload_n 2, 1) := by decide +kernel
theorem dX13_readsNumber_88 : decode cX13_readsNumber 88 = .ok (.iconst 2, 1) := by decide +kernel
theorem dX13_readsNumber_89 : decode cX13_readsNumber 89 = .ok (.if_icmp .le 8, 3) := by decide +kernel
theorem dX13_readsNumber_92 : decode cX13_readsNumber 92 = .ok (.aload_n 0, 1) := by decide +kernel
theorem dX13_readsNumber_93 : decode cX13_readsNumber 93 = .ok (.iload_n 1, 1) := by decide +kernel
theorem dX13_readsNumber_94 : decode cX13_readsNumber 94 = .ok (.putfield 469, 3) := by decide +kernel
theorem dX13_readsNumber_97 : decode cX13_readsNumber 97 = .ok (.iload_n 2, 1) := by decide +kernel
theorem dX13_readsNumber_98 : decode cX13_readsNumber 98 = .ok (.iconst 1, 1) := by decide +kernel
theorem dX13_readsNumber_99 : decode cX13_readsNumber 99 = .ok (.if_icmp .eq 8, 3) := by decide +kernel
theorem dX13_readsNumber_102 : decode cX13_readsNumber 102 = .ok (.iload_n 2, 1) := by decide +kernel
theorem dX13_readsNumber_103 : decode cX13_readsNumber 103 = .ok (.iconst 2, 1) := by decide +kernel
theorem dX13_readsNumber_104 : decode cX13_readsNumber 104 = .ok (.if_icmp .ne 7, 3) := by decide +kernel
theorem dX13_readsNumber_107 : decode cX13_readsNumber 107 = .ok (.iconst 1, 1) := by decide +kernel
theorem dX13_readsNumber_108 : decode cX13_readsNumber 108 = .ok (.goto 4, 3) := by decide +kernel
theorem dX13_readsNumber_111 : decode cX13_readsNumber 111 = .ok (.iconst 0, 1) := by decide +kernel
theorem dX13_readsNumber_112 : decode cX13_readsNumber 112 = .ok (.ireturn, 1) := by decide +kernel
theorem dX13_readsStep_0 : decode cX13_readsStep 0 = .ok (.aload_n 0, 1) := by decide +kernel
theorem dX13_readsStep_1 : decode cX13_readsStep 1 = .ok (.getfield 469, 3) := by decide +kernel
theorem dX13_readsStep_4 : decode cX13_readsStep 4 = .ok (.istore_n 1, 1) := by decide +kernel
theorem dX13_readsStep_5 : decode cX13_readsStep 5 = .ok (.aload_n 0, 1) := by decide +kernel
theorem dX13_readsStep_6 : decode cX13_readsStep 6 = .ok (.iload_n 1, 1) := by decide +kernel
theorem dX13_readsStep_7 : decode cX13_readsStep 7 = .ok (.invokevirtual 472, 3) := by decide +kernel
theorem dX13_readsStep_10 : decode cX13_readsStep 10 = .ok (.ifCond .eq 12, 3) := by decide +kernel
theorem dX13_readsStep_13 : decode cX13_readsStep 13 = .ok (.aload_n 0, 1) := by decide +kernel
theorem dX13_readsStep_14 : decode cX13_readsStep 14 = .ok (.getfield 496, 3) := by decide +kernel
theorem dX13_readsStep_17 : decode cX13_readsStep 17 = .ok (.bipush 8, 2) := by decide +kernel
theorem dX13_readsStep_19 : decode cX13_readsStep 19 = .ok (.if_icmp .ne 5, 3) := by decide +kernel
theorem dX13_readsStep_22 : decode cX13_readsStep 22 = .ok (.iconst 0, 1) := by decide +kernel
theorem dX13_readsStep_23 : decode cX13_readsStep 23 = .ok (.ireturn, 1) := by decide +kernel
theorem dX13_readsStep_24 : decode cX13_readsStep 24 = .ok (.aload_n 0, 1) := by decide +kernel
theorem dX13_readsStep_25 : decode cX13_readsStep 25 = .ok (.invokevirtual 499, 3) := by decide +kernel
theorem dX13_readsStep_28 : decode cX13_readsStep 28 = .ok (.invokestatic 502, 3) := by decide +kernel
theorem dX13_readsStep_31 : decode cX13_readsStep 31 = .ok (.istore_n 2, 1) := by decide +kernel
theorem dX13_readsStep_32 : decode cX13_readsStep 32 = .ok (.iload_n 2, 1) := by decide +kernel
theorem dX13_readsStep_33 : decode cX13_readsStep 33 = .ok (.bipush (-9), 2) := by decide +kernel
theorem dX13_readsStep_35 : decode cX13_readsStep 35 = .ok (.if_icmp .ne 10, 3) := by decide +kernel
theorem dX13_readsStep_38 : decode cX13_readsStep 38 = .ok (.aload_n 0, 1) := by decide +kernel
theorem dX13_readsStep_39 : decode cX13_readsStep 39 = .ok (.iload_n 1, 1) := by decide +kernel
theorem dX13_readsStep_40 : decode cX13_readsStep 40 = .ok (.putfield 469, 3) := by decide +kernel
theorem dX13_readsStep_43 : decode cX13_readsStep 43 = .ok (.iconst 0, 1) := by decide +kernel
theorem dX13_readsStep_44 : decode cX13_readsStep 44 = .ok (.ireturn, 1) := by decide +kernel
theorem dX13_readsStep_45 : decode cX13_readsStep 45 = .ok (.aload_n 0, 1) := by decide +kernel
theorem dX13_readsStep_46 : decode cX13_readsStep 46 = .ok (.getfield 97, 3) := by decide +kernel
theorem dX13_readsStep_49 : decode cX13_readsStep 49 = .ok (.aload_n 0, 1) := by decide +kernel
theorem dX13_readsStep_50 : decode cX13_readsStep 50 = .ok (.getfield 496, 3) := by decide +kernel
theorem dX13_readsStep_53 : decode cX13_readsStep 53 = .ok (.iload_n 2, 1) := by decide +kernel
theorem dX13_readsStep_54 : decode cX13_readsStep 54 = .ok (.iastore, 1) := by decide +kernel
theorem dX13_readsStep_55 : decode cX13_readsStep 55 = .ok (.iconst 0, 1) := by decide +kernel
theorem dX13_readsStep_56 : decode cX13_readsStep 56 = .ok (.istore_n 3, 1) := by decide +kernel
theorem dX13_readsStep_57 : decode cX13_readsStep 57 = .ok (.iload_n 3, 1) := by decide +kernel
theorem dX13_readsStep_58 : decode cX13_readsStep 58 = .ok (.iload_n 2, 1) := by decide +kernel
theorem dX13_readsStep_59 : decode cX13_readsStep 59 = .ok (.invokestatic 505, 3) := by decide +kernel
theorem dX13_readsStep_62 : decode cX13_readsStep 62 = .ok (.if_icmp .ge 39, 3) := by decide +kernel
theorem dX13_readsStep_65 : decode cX13_readsStep 65 = .ok (.aload_n 0, 1) := by decide +kernel
theorem dX13_readsStep_66 : decode cX13_readsStep 66 = .ok (.invokevirtual 508, 3) := by decide +kernel
theorem dX13_readsStep_69 : decode cX13_readsStep 69 = .ok (.aload_n 0, 1) := by decide +kernel
theorem dX13_readsStep_70 : decode cX13_readsStep 70 = .ok (.invokevirtual 511, 3) := by decide +kernel
theorem dX13_readsStep_73 : decode cX13_readsStep 73 = .ok (.ifCond .ne 5, 3) := by decide +kernel
theorem dX13_readsStep_76 : decode cX13_readsStep 76 = .ok (.iconst 0, 1) := by decide +kernel
theorem dX13_readsStep_77 : decode cX13_readsStep 77 = .ok (.ireturn, 1) := by decide +kernel
theorem dX13_readsStep_78 : decode cX13_readsStep 78 = .ok (.aload_n 0, 1) := by decide +kernel
theorem dX13_readsStep_79 : decode cX13_readsStep 79 = .ok (.getfield 100, 3) := by decide +kernel
theorem dX13_readsStep_82 : decode cX13_readsStep 82 = .ok (.iconst 5, 1) := by decide +kernel
theorem dX13_readsStep_83 : decode cX13_readsStep 83 = .ok (.aload_n 0, 1) := by decide +kernel
theorem dX13_readsStep_84 : decode cX13_readsStep 84 = .ok (.getfield 496, 3) := by decide +kernel
theorem dX13_readsStep_87 : decode cX13_readsStep 87 = .ok (.imul, 1) := by decide +kernel
theorem dX13_readsStep_88 : decode cX13_readsStep 88 = .ok (.iload_n 3, 1) := by decide +kernel
theorem dX13_readsStep_89 : decode cX13_readsStep 89 = .ok (.iadd, 1) := by decide +kernel
theorem dX13_readsStep_90 : decode cX13_readsStep 90 = .ok (.aload_n 0, 1) := by decide +kernel
theorem dX13_readsStep_91 : decode cX13_readsStep 91 = .ok (.getfield 490, 3) := by decide +kernel
theorem dX13_readsStep_94 : decode cX13_readsStep 94 = .ok (.iastore, 1) := by decide +kernel
theorem dX13_readsStep_95 : decode cX13_readsStep 95 = .ok (.iinc 3 1, 3) := by decide +kernel
theorem dX13_readsStep_98 : decode cX13_readsStep 98 = .ok (.goto (-41), 3) := by decide +kernel
theorem dX13_readsStep_101 : decode cX13_readsStep 101 = .ok (.aload_n 0, 1) := by decide +kernel
theorem dX13_readsStep_102 : decode cX13_readsStep 102 = .ok (.invokevirtual 508, 3) := by decide +kernel
theorem dX13_readsStep_105 : decode cX13_readsStep 105 = .ok (.aload_n 0, 1) := by decide +kernel
theorem dX13_readsStep_106 : decode cX13_readsStep 106 = .ok (.getfield 469, 3) := by decide +kernel
theorem dX13_readsStep_109 : decode cX13_readsStep 109 = .ok (.aload_n 0, 1) := by decide +kernel
theorem dX13_readsStep_110 : decode cX13_readsStep 110 = .ok (.getfield 466, 3) := by decide +kernel
theorem dX13_readsStep_113 : decode cX13_readsStep 113 = .ok (.if_icmp .eq 17, 3) := by decide +kernel
theorem dX13_readsStep_116 : decode cX13_readsStep 116 = .ok (.aload_n 0, 1) := by decide +kernel
theorem dX13_readsStep_117 : decode cX13_readsStep 117 = .ok (.getfield 94, 3) := by decide +kernel
theorem dX13_readsStep_120 : decode cX13_readsStep 120 = .ok (.aload_n 0, 1) := by decide +kernel
theorem dX13_readsStep_121 : decode cX13_readsStep 121 = .ok (.getfield 469, 3) := by decide +kernel
theorem dX13_readsStep_124 : decode cX13_readsStep 124 = .ok (.iaload, 1) := by decide +kernel
theorem dX13_readsStep_125 : decode cX13_readsStep 125 = .ok (.bipush 59, 2) := by decide +kernel
theorem dX13_readsStep_127 : decode cX13_readsStep 127 = .ok (.if_icmp .eq 5, 3) := by decide +kernel
theorem dX13_readsStep_130 : decode cX13_readsStep 130 = .ok (.iconst 0, 1) := by decide +kernel
theorem dX13_readsStep_131 : decode cX13_readsStep 131 = .ok (.ireturn, 1) := by decide +kernel
theorem dX13_readsStep_132 : decode cX13_readsStep 132 = .ok (.aload_n 0, 1) := by decide +kernel
theorem dX13_readsStep_133 : decode cX13_readsStep 133 = .ok (.dup, 1) := by decide +kernel
theorem dX13_readsStep_134 : decode cX13_readsStep 134 = .ok (.getfield 469, 3) := by decide +kernel
theorem dX13_readsStep_137 : decode cX13_readsStep 137 = .ok (.iconst 1, 1) := by decide +kernel
theorem dX13_readsStep_138 : decode cX13_readsStep 138 = .ok (.iadd, 1) := by decide +kernel
theorem dX13_readsStep_139 : decode cX13_readsStep 139 = .ok (.putfield 469, 3) := by decide +kernel
theorem dX13_readsStep_142 : decode cX13_readsStep 142 = .ok (.aload_n 0, 1) := by decide +kernel
theorem dX13_readsStep_143 : decode cX13_readsStep 143 = .ok (.dup, 1) := by decide +kernel
theorem dX13_readsStep_144 : decode cX13_readsStep 144 = .ok (.getfield 496, 3) := by decide +kernel
theorem dX13_readsStep_147 : decode cX13_readsStep 147 = .ok (.iconst 1, 1) := by decide +kernel
theorem dX13_readsStep_148 : decode cX13_readsStep 148 = .ok (.iadd, 1) := by decide +kernel
theorem dX13_readsStep_149 : decode cX13_readsStep 149 = .ok (.putfield 496, 3) := by decide +kernel
theorem dX13_readsStep_152 : decode cX13_readsStep 152 = .ok (.iconst 1, 1) := by decide +kernel
theorem dX13_readsStep_153 : decode cX13_readsStep 153 = .ok (.ireturn, 1) := by decide +kernel
theorem dX13_reads_0 : decode cX13_reads 0 = .ok (.aload_n 0, 1) := by decide +kernel
theorem dX13_reads_1 : decode cX13_reads 1 = .ok (.iconst 0, 1) := by decide +kernel
theorem dX13_reads_2 : decode cX13_reads 2 = .ok (.putfield 469, 3) := by decide +kernel
theorem dX13_reads_5 : decode cX13_reads 5 = .ok (.aload_n 0, 1) := by decide +kernel
theorem dX13_reads_6 : decode cX13_reads 6 = .ok (.iconst 0, 1) := by decide +kernel
theorem dX13_reads_7 : decode cX13_reads 7 = .ok (.putfield 496, 3) := by decide +kernel
theorem dX13_reads_10 : decode cX13_reads 10 = .ok (.aload_n 0, 1) := by decide +kernel
theorem dX13_reads_11 : decode cX13_reads 11 = .ok (.invokevirtual 508, 3) := by decide +kernel
theorem dX13_reads_14 : decode cX13_reads 14 = .ok (.aload_n 0, 1) := by decide +kernel
theorem dX13_reads_15 : decode cX13_reads 15 = .ok (.getfield 469, 3) := by decide +kernel
theorem dX13_reads_18 : decode cX13_reads 18 = .ok (.aload_n 0, 1) := by decide +kernel
theorem dX13_reads_19 : decode cX13_reads 19 = .ok (.getfield 466, 3) := by decide +kernel
theorem dX13_reads_22 : decode cX13_reads 22 = .ok (.if_icmp .ge 19, 3) := by decide +kernel
theorem dX13_reads_25 : decode cX13_reads 25 = .ok (.aload_n 0, 1) := by decide +kernel
theorem dX13_reads_26 : decode cX13_reads 26 = .ok (.invokevirtual 515, 3) := by decide +kernel
theorem dX13_reads_29 : decode cX13_reads 29 = .ok (.ifCond .ne 5, 3) := by decide +kernel
theorem dX13_reads_32 : decode cX13_reads 32 = .ok (.iconst 0, 1) := by decide +kernel
theorem dX13_reads_33 : decode cX13_reads 33 = .ok (.ireturn, 1) := by decide +kernel
theorem dX13_reads_34 : decode cX13_reads 34 = .ok (.aload_n 0, 1) := by decide +kernel
theorem dX13_reads_35 : decode cX13_reads 35 = .ok (.invokevirtual 508, 3) := by decide +kernel
theorem dX13_reads_38 : decode cX13_reads 38 = .ok (.goto (-24), 3) := by decide +kernel
theorem dX13_reads_41 : decode cX13_reads 41 = .ok (.iconst 1, 1) := by decide +kernel
theorem dX13_reads_42 : decode cX13_reads 42 = .ok (.ireturn, 1) := by decide +kernel
theorem dX13_does_0 : decode cX13_does 0 = .ok (.iload_n 1, 1) := by decide +kernel
theorem dX13_does_1 : decode cX13_does 1 = .ok (.tableswitch 191 0 12 #[67, 78, 84, 95, 106, 119, 128, 137, 144, 153, 160, 171, 180], 67) := by decide +kernel
theorem dX13_does_68 : decode cX13_does 68 = .ok (.aload_n 0, 1) := by decide +kernel
theorem dX13_does_69 : decode cX13_does 69 = .ok (.iload_n 2, 1) := by decide +kernel
theorem dX13_does_70 : decode cX13_does 70 = .ok (.iload_n 3, 1) := by decide +kernel
theorem dX13_does_71 : decode cX13_does 71 = .ok (.iload 4, 2) := by decide +kernel
theorem dX13_does_73 : decode cX13_does 73 = .ok (.iload 5, 2) := by decide +kernel
theorem dX13_does_75 : decode cX13_does 75 = .ok (.invokevirtual 158, 3) := by decide +kernel
theorem dX13_does_78 : decode cX13_does 78 = .ok (.ireturn, 1) := by decide +kernel
theorem dX13_does_79 : decode cX13_does 79 = .ok (.aload_n 0, 1) := by decide +kernel
theorem dX13_does_80 : decode cX13_does 80 = .ok (.iload_n 2, 1) := by decide +kernel
theorem dX13_does_81 : decode cX13_does 81 = .ok (.invokevirtual 149, 3) := by decide +kernel
theorem dX13_does_84 : decode cX13_does 84 = .ok (.ireturn, 1) := by decide +kernel
theorem dX13_does_85 : decode cX13_does 85 = .ok (.aload_n 0, 1) := by decide +kernel
theorem dX13_does_86 : decode cX13_does 86 = .ok (.iload_n 2, 1) := by decide +kernel
theorem dX13_does_87 : decode cX13_does 87 = .ok (.iload_n 3, 1) := by decide +kernel
theorem dX13_does_88 : decode cX13_does 88 = .ok (.iload 4, 2) := by decide +kernel
theorem dX13_does_90 : decode cX13_does 90 = .ok (.iload 5, 2) := by decide +kernel
theorem dX13_does_92 : decode cX13_does 92 = .ok (.invokevirtual 175, 3) := by decide +kernel
theorem dX13_does_95 : decode cX13_does 95 = .ok (.ireturn, 1) := by decide +kernel
theorem dX13_does_96 : decode cX13_does 96 = .ok (.aload_n 0, 1) := by decide +kernel
theorem dX13_does_97 : decode cX13_does 97 = .ok (.iload_n 2, 1) := by decide +kernel
theorem dX13_does_98 : decode cX13_does 98 = .ok (.iload_n 3, 1) := by decide +kernel
theorem dX13_does_99 : decode cX13_does 99 = .ok (.iload 4, 2) := by decide +kernel
theorem dX13_does_101 : decode cX13_does 101 = .ok (.iload 5, 2) := by decide +kernel
theorem dX13_does_103 : decode cX13_does 103 = .ok (.invokevirtual 172, 3) := by decide +kernel
theorem dX13_does_106 : decode cX13_does 106 = .ok (.ireturn, 1) := by decide +kernel
theorem dX13_does_107 : decode cX13_does 107 = .ok (.aload_n 0, 1) := by decide +kernel
theorem dX13_does_108 : decode cX13_does 108 = .ok (.iload_n 2, 1) := by decide +kernel
theorem dX13_does_109 : decode cX13_does 109 = .ok (.iload_n 3, 1) := by decide +kernel
theorem dX13_does_110 : decode cX13_does 110 = .ok (.iload 4, 2) := by decide +kernel
theorem dX13_does_112 : decode cX13_does 112 = .ok (.iload 5, 2) := by decide +kernel
theorem dX13_does_114 : decode cX13_does 114 = .ok (.iload 6, 2) := by decide +kernel
theorem dX13_does_116 : decode cX13_does 116 = .ok (.invokevirtual 284, 3) := by decide +kernel
theorem dX13_does_119 : decode cX13_does 119 = .ok (.ireturn, 1) := by decide +kernel
theorem dX13_does_120 : decode cX13_does 120 = .ok (.aload_n 0, 1) := by decide +kernel
theorem dX13_does_121 : decode cX13_does 121 = .ok (.iload_n 2, 1) := by decide +kernel
theorem dX13_does_122 : decode cX13_does 122 = .ok (.iload_n 3, 1) := by decide +kernel
theorem dX13_does_123 : decode cX13_does 123 = .ok (.iload 4, 2) := by decide +kernel
theorem dX13_does_125 : decode cX13_does 125 = .ok (.invokevirtual 288, 3) := by decide +kernel
theorem dX13_does_128 : decode cX13_does 128 = .ok (.ireturn, 1) := by decide +kernel
theorem dX13_does_129 : decode cX13_does 129 = .ok (.aload_n 0, 1) := by decide +kernel
theorem dX13_does_130 : decode cX13_does 130 = .ok (.iload_n 2, 1) := by decide +kernel
theorem dX13_does_131 : decode cX13_does 131 = .ok (.iload_n 3, 1) := by decide +kernel
theorem dX13_does_132 : decode cX13_does 132 = .ok (.iload 4, 2) := by decide +kernel
theorem dX13_does_134 : decode cX13_does 134 = .ok (.invokevirtual 297, 3) := by decide +kernel
theorem dX13_does_137 : decode cX13_does 137 = .ok (.ireturn, 1) := by decide +kernel
theorem dX13_does_138 : decode cX13_does 138 = .ok (.aload_n 0, 1) := by decide +kernel
theorem dX13_does_139 : decode cX13_does 139 = .ok (.iload_n 2, 1) := by decide +kernel
theorem dX13_does_140 : decode cX13_does 140 = .ok (.iload_n 3, 1) := by decide +kernel
theorem dX13_does_141 : decode cX13_does 141 = .ok (.invokevirtual 306, 3) := by decide +kernel
theorem dX13_does_144 : decode cX13_does 144 = .ok (.ireturn, 1) := by decide +kernel
theorem dX13_does_145 : decode cX13_does 145 = .ok (.aload_n 0, 1) := by decide +kernel
theorem dX13_does_146 : decode cX13_does 146 = .ok (.iload_n 2, 1) := by decide +kernel
theorem dX13_does_147 : decode cX13_does 147 = .ok (.iload_n 3, 1) := by decide +kernel
theorem dX13_does_148 : decode cX13_does 148 = .ok (.iload 4, 2) := by decide +kernel
theorem dX13_does_150 : decode cX13_does 150 = .ok (.invokevirtual 309, 3) := by decide +kernel
theorem dX13_does_153 : decode cX13_does 153 = .ok (.ireturn, 1) := by decide +kernel
theorem dX13_does_154 : decode cX13_does 154 = .ok (.aload_n 0, 1) := by decide +kernel
theorem dX13_does_155 : decode cX13_does 155 = .ok (.iload_n 2, 1) := by decide +kernel
theorem dX13_does_156 : decode cX13_does 156 = .ok (.iload_n 3, 1) := by decide +kernel
theorem dX13_does_157 : decode cX13_does 157 = .ok (.invokevirtual 315, 3) := by decide +kernel
theorem dX13_does_160 : decode cX13_does 160 = .ok (.ireturn, 1) := by decide +kernel
theorem dX13_does_161 : decode cX13_does 161 = .ok (.aload_n 0, 1) := by decide +kernel
theorem dX13_does_162 : decode cX13_does 162 = .ok (.iload_n 2, 1) := by decide +kernel
theorem dX13_does_163 : decode cX13_does 163 = .ok (.iload_n 3, 1) := by decide +kernel
theorem dX13_does_164 : decode cX13_does 164 = .ok (.iload 4, 2) := by decide +kernel
theorem dX13_does_166 : decode cX13_does 166 = .ok (.iload 5, 2) := by decide +kernel
theorem dX13_does_168 : decode cX13_does 168 = .ok (.invokevirtual 322, 3) := by decide +kernel
theorem dX13_does_171 : decode cX13_does 171 = .ok (.ireturn, 1) := by decide +kernel
theorem dX13_does_172 : decode cX13_does 172 = .ok (.aload_n 0, 1) := by decide +kernel
theorem dX13_does_173 : decode cX13_does 173 = .ok (.iload_n 2, 1) := by decide +kernel
theorem dX13_does_174 : decode cX13_does 174 = .ok (.iload_n 3, 1) := by decide +kernel
theorem dX13_does_175 : decode cX13_does 175 = .ok (.iload 4, 2) := by decide +kernel
theorem dX13_does_177 : decode cX13_does 177 = .ok (.invokevirtual 339, 3) := by decide +kernel
theorem dX13_does_180 : decode cX13_does 180 = .ok (.ireturn, 1) := by decide +kernel
theorem dX13_does_181 : decode cX13_does 181 = .ok (.aload_n 0, 1) := by decide +kernel
theorem dX13_does_182 : decode cX13_does 182 = .ok (.iload_n 2, 1) := by decide +kernel
theorem dX13_does_183 : decode cX13_does 183 = .ok (.iload_n 3, 1) := by decide +kernel
theorem dX13_does_184 : decode cX13_does 184 = .ok (.iload 4, 2) := by decide +kernel
theorem dX13_does_186 : decode cX13_does 186 = .ok (.iload 5, 2) := by decide +kernel
theorem dX13_does_188 : decode cX13_does 188 = .ok (.invokevirtual 345, 3) := by decide +kernel
theorem dX13_does_191 : decode cX13_does 191 = .ok (.ireturn, 1) := by decide +kernel
theorem dX13_does_192 : decode cX13_does 192 = .ok (.aload_n 0, 1) := by decide +kernel
theorem dX13_does_193 : decode cX13_does 193 = .ok (.iload_n 2, 1) := by decide +kernel
theorem dX13_does_194 : decode cX13_does 194 = .ok (.iload_n 3, 1) := by decide +kernel
theorem dX13_does_195 : decode cX13_does 195 = .ok (.invokevirtual 357, 3) := by decide +kernel
theorem dX13_does_198 : decode cX13_does 198 = .ok (.ireturn, 1) := by decide +kernel
theorem dX13_planDeed_0 : decode cX13_planDeed 0 = .ok (.aload_n 0, 1) := by decide +kernel
theorem dX13_planDeed_1 : decode cX13_planDeed 1 = .ok (.invokevirtual 518, 3) := by decide +kernel
theorem dX13_planDeed_4 : decode cX13_planDeed 4 = .ok (.ifCond .ne 11, 3) := by decide +kernel
theorem dX13_planDeed_7 : decode cX13_planDeed 7 = .ok (.bipush (-20), 2) := by decide +kernel
theorem dX13_planDeed_9 : decode cX13_planDeed 9 = .ok (.aload_n 0, 1) := by decide +kernel
theorem dX13_planDeed_10 : decode cX13_planDeed 10 = .ok (.getfield 469, 3) := by decide +kernel
theorem dX13_planDeed_13 : decode cX13_planDeed 13 = .ok (.isub, 1) := by decide +kernel
theorem dX13_planDeed_14 : decode cX13_planDeed 14 = .ok (.ireturn, 1) := by decide +kernel
theorem dX13_planDeed_15 : decode cX13_planDeed 15 = .ok (.aload_n 0, 1) := by decide +kernel
theorem dX13_planDeed_16 : decode cX13_planDeed 16 = .ok (.iconst 2, 1) := by decide +kernel
theorem dX13_planDeed_17 : decode cX13_planDeed 17 = .ok (.invokevirtual 456, 3) := by decide +kernel
theorem dX13_planDeed_20 : decode cX13_planDeed 20 = .ok (.iconst 0, 1) := by decide +kernel
theorem dX13_planDeed_21 : decode cX13_planDeed 21 = .ok (.istore_n 1, 1) := by decide +kernel
theorem dX13_planDeed_22 : decode cX13_planDeed 22 = .ok (.iload_n 1, 1) := by decide +kernel
theorem dX13_planDeed_23 : decode cX13_planDeed 23 = .ok (.aload_n 0, 1) := by decide +kernel
theorem dX13_planDeed_24 : decode cX13_planDeed 24 = .ok (.getfield 496, 3) := by decide +kernel
theorem dX13_planDeed_27 : decode cX13_planDeed 27 = .ok (.if_icmp .ge 82, 3) := by decide +kernel
theorem dX13_planDeed_30 : decode cX13_planDeed 30 = .ok (.iconst 5, 1) := by decide +kernel
theorem dX13_planDeed_31 : decode cX13_planDeed 31 = .ok (.iload_n 1, 1) := by decide +kernel
theorem dX13_planDeed_32 : decode cX13_planDeed 32 = .ok (.imul, 1) := by decide +kernel
theorem dX13_planDeed_33 : decode cX13_planDeed 33 = .ok (.istore_n 2, 1) := by decide +kernel
theorem dX13_planDeed_34 : decode cX13_planDeed 34 = .ok (.aload_n 0, 1) := by decide +kernel
theorem dX13_planDeed_35 : decode cX13_planDeed 35 = .ok (.aload_n 0, 1) := by decide +kernel
theorem dX13_planDeed_36 : decode cX13_planDeed 36 = .ok (.getfield 97, 3) := by decide +kernel
theorem dX13_planDeed_39 : decode cX13_planDeed 39 = .ok (.iload_n 1, 1) := by decide +kernel
theorem dX13_planDeed_40 : decode cX13_planDeed 40 = .ok (.iaload, 1) := by decide +kernel
theorem dX13_planDeed_41 : decode cX13_planDeed 41 = .ok (.aload_n 0, 1) := by decide +kernel
theorem dX13_planDeed_42 : decode cX13_planDeed 42 = .ok (.getfield 100, 3) := by decide +kernel
theorem dX13_planDeed_45 : decode cX13_planDeed 45 = .ok (.iload_n 2, 1) := by decide +kernel
theorem dX13_planDeed_46 : decode cX13_planDeed 46 = .ok (.iaload, 1) := by decide +kernel
theorem dX13_planDeed_47 : decode cX13_planDeed 47 = .ok (.aload_n 0, 1) := by decide +kernel
theorem dX13_planDeed_48 : decode cX13_planDeed 48 = .ok (.getfield 100, 3) := by decide +kernel
theorem dX13_planDeed_51 : decode cX13_planDeed 51 = .ok (.iload_n 2, 1) := by decide +kernel
theorem dX13_planDeed_52 : decode cX13_planDeed 52 = .ok (.iconst 1, 1) := by decide +kernel
theorem dX13_planDeed_53 : decode cX13_planDeed 53 = .ok (.iadd, 1) := by decide +kernel
theorem dX13_planDeed_54 : decode cX13_planDeed 54 = .ok (.iaload, 1) := by decide +kernel
theorem dX13_planDeed_55 : decode cX13_planDeed 55 = .ok (.aload_n 0, 1) := by decide +kernel
theorem dX13_planDeed_56 : decode cX13_planDeed 56 = .ok (.getfield 100, 3) := by decide +kernel
theorem dX13_planDeed_59 : decode cX13_planDeed 59 = .ok (.iload_n 2, 1) := by decide +kernel
theorem dX13_planDeed_60 : decode cX13_planDeed 60 = .ok (.iconst 2, 1) := by decide +kernel
theorem dX13_planDeed_61 : decode cX13_planDeed 61 = .ok (.iadd, 1) := by decide +kernel
theorem dX13_planDeed_62 : decode cX13_planDeed 62 = .ok (.iaload, 1) := by decide +kernel
theorem dX13_planDeed_63 : decode cX13_planDeed 63 = .ok (.aload_n 0, 1) := by decide +kernel
theorem dX13_planDeed_64 : decode cX13_planDeed 64 = .ok (.getfield 100, 3) := by decide +kernel
theorem dX13_planDeed_67 : decode cX13_planDeed 67 = .ok (.iload_n 2, 1) := by decide +kernel
theorem dX13_planDeed_68 : decode cX13_planDeed 68 = .ok (.iconst 3, 1) := by decide +kernel
theorem dX13_planDeed_69 : decode cX13_planDeed 69 = .ok (.iadd, 1) := by decide +kernel
theorem dX13_planDeed_70 : decode cX13_planDeed 70 = .ok (.iaload, 1) := by decide +kernel
theorem dX13_planDeed_71 : decode cX13_planDeed 71 = .ok (.aload_n 0, 1) := by decide +kernel
theorem dX13_planDeed_72 : decode cX13_planDeed 72 = .ok (.getfield 100, 3) := by decide +kernel
theorem dX13_planDeed_75 : decode cX13_planDeed 75 = .ok (.iload_n 2, 1) := by decide +kernel
theorem dX13_planDeed_76 : decode cX13_planDeed 76 = .ok (.iconst 4, 1) := by decide +kernel
theorem dX13_planDeed_77 : decode cX13_planDeed 77 = .ok (.iadd, 1) := by decide +kernel
theorem dX13_planDeed_78 : decode cX13_planDeed 78 = .ok (.iaload, 1) := by decide +kernel
theorem dX13_planDeed_79 : decode cX13_planDeed 79 = .ok (.invokevirtual 521, 3) := by decide +kernel
theorem dX13_planDeed_82 : decode cX13_planDeed 82 = .ok (.istore_n 3, 1) := by decide +kernel
theorem dX13_planDeed_83 : decode cX13_planDeed 83 = .ok (.aload_n 0, 1) := by decide +kernel
theorem dX13_planDeed_84 : decode cX13_planDeed 84 = .ok (.invokevirtual 113, 3) := by decide +kernel
theorem dX13_planDeed_87 : decode cX13_planDeed 87 = .ok (.iload_n 3, 1) := by decide +kernel
theorem dX13_planDeed_88 : decode cX13_planDeed 88 = .ok (.ifCond .ge 15, 3) := by decide +kernel
theorem dX13_planDeed_91 : decode cX13_planDeed 91 = .ok (.aload_n 0, 1) := by decide +kernel
theorem dX13_planDeed_92 : decode cX13_planDeed 92 = .ok (.iconst 2, 1) := by decide +kernel
theorem dX13_planDeed_93 : decode cX13_planDeed 93 = .ok (.invokevirtual 463, 3) := by decide +kernel
theorem dX13_planDeed_96 : decode cX13_planDeed 96 = .ok (.aload_n 0, 1) := by decide +kernel
theorem dX13_planDeed_97 : decode cX13_planDeed 97 = .ok (.iload_n 1, 1) := by decide +kernel
theorem dX13_planDeed_98 : decode cX13_planDeed 98 = .ok (.putfield 13, 3) := by decide +kernel
theorem dX13_planDeed_101 : decode cX13_planDeed 101 = .ok (.iload_n 3, 1) := by decide +kernel
theorem dX13_planDeed_102 : decode cX13_planDeed 102 = .ok (.ireturn, 1) := by decide +kernel
theorem dX13_planDeed_103 : decode cX13_planDeed 103 = .ok (.iinc 1 1, 3) := by decide +kernel
theorem dX13_planDeed_106 : decode cX13_planDeed 106 = .ok (.goto (-84), 3) := by decide +kernel
theorem dX13_planDeed_109 : decode cX13_planDeed 109 = .ok (.aload_n 0, 1) := by decide +kernel
theorem dX13_planDeed_110 : decode cX13_planDeed 110 = .ok (.getfield 496, 3) := by decide +kernel
theorem dX13_planDeed_113 : decode cX13_planDeed 113 = .ok (.ireturn, 1) := by decide +kernel
theorem dX13_plan_0 : decode cX13_plan 0 = .ok (.aload_n 0, 1) := by decide +kernel
theorem dX13_plan_1 : decode cX13_plan 1 = .ok (.aload_n 0, 1) := by decide +kernel
theorem dX13_plan_2 : decode cX13_plan 2 = .ok (.invokevirtual 525, 3) := by decide +kernel
theorem dX13_plan_5 : decode cX13_plan 5 = .ok (.invokevirtual 137, 3) := by decide +kernel
theorem dX13_plan_8 : decode cX13_plan 8 = .ok (.ireturn, 1) := by decide +kernel
theorem dX13_least_0 : decode cX13_least 0 = .ok (.iload_n 1, 1) := by decide +kernel
theorem dX13_least_1 : decode cX13_least 1 = .ok (.invokestatic 152, 3) := by decide +kernel
theorem dX13_least_4 : decode cX13_least 4 = .ok (.ifCond .eq 23, 3) := by decide +kernel
theorem dX13_least_7 : decode cX13_least 7 = .ok (.iload_n 2, 1) := by decide +kernel
theorem dX13_least_8 : decode cX13_least 8 = .ok (.invokestatic 152, 3) := by decide +kernel
theorem dX13_least_11 : decode cX13_least 11 = .ok (.ifCond .eq 16, 3) := by decide +kernel
theorem dX13_least_14 : decode cX13_least 14 = .ok (.iconst 1, 1) := by decide +kernel
theorem dX13_least_15 : decode cX13_least 15 = .ok (.iload_n 1, 1) := by decide +kernel
theorem dX13_least_16 : decode cX13_least 16 = .ok (.ishl, 1) := by decide +kernel
theorem dX13_least_17 : decode cX13_least 17 = .ok (.iconst 1, 1) := by decide +kernel
theorem dX13_least_18 : decode cX13_least 18 = .ok (.iload_n 2, 1) := by decide +kernel
theorem dX13_least_19 : decode cX13_least 19 = .ok (.ishl, 1) := by decide +kernel
theorem dX13_least_20 : decode cX13_least 20 = .ok (.ior, 1) := by decide +kernel
theorem dX13_least_21 : decode cX13_least 21 = .ok (.invokestatic 294, 3) := by decide +kernel
theorem dX13_least_24 : decode cX13_least 24 = .ok (.goto 8, 3) := by decide +kernel
theorem dX13_least_27 : decode cX13_least 27 = .ok (.aload_n 0, 1) := by decide +kernel
theorem dX13_least_28 : decode cX13_least 28 = .ok (.iconst (-1), 1) := by decide +kernel
theorem dX13_least_29 : decode cX13_least 29 = .ok (.invokevirtual 137, 3) := by decide +kernel
theorem dX13_least_32 : decode cX13_least 32 = .ok (.ireturn, 1) := by decide +kernel
theorem dX13_isTaken_0 : decode cX13_isTaken 0 = .ok (.iload_n 0, 1) := by decide +kernel
theorem dX13_isTaken_1 : decode cX13_isTaken 1 = .ok (.bipush 8, 2) := by decide +kernel
theorem dX13_isTaken_3 : decode cX13_isTaken 3 = .ok (.if_icmp .ge 24, 3) := by decide +kernel
theorem dX13_isTaken_6 : decode cX13_isTaken 6 = .ok (.iload_n 1, 1) := by decide +kernel
theorem dX13_isTaken_7 : decode cX13_isTaken 7 = .ok (.invokestatic 209, 3) := by decide +kernel
theorem dX13_isTaken_10 : decode cX13_isTaken 10 = .ok (.ifCond .eq 15, 3) := by decide +kernel
theorem dX13_isTaken_13 : decode cX13_isTaken 13 = .ok (.iload_n 0, 1) := by decide +kernel
theorem dX13_isTaken_14 : decode cX13_isTaken 14 = .ok (.iload_n 1, 1) := by decide +kernel
theorem dX13_isTaken_15 : decode cX13_isTaken 15 = .ok (.invokestatic 205, 3) := by decide +kernel
theorem dX13_isTaken_18 : decode cX13_isTaken 18 = .ok (.ifCond .eq 7, 3) := by decide +kernel
theorem dX13_isTaken_21 : decode cX13_isTaken 21 = .ok (.iconst 1, 1) := by decide +kernel
theorem dX13_isTaken_22 : decode cX13_isTaken 22 = .ok (.goto 4, 3) := by decide +kernel
theorem dX13_isTaken_25 : decode cX13_isTaken 25 = .ok (.iconst 0, 1) := by decide +kernel
theorem dX13_isTaken_26 : decode cX13_isTaken 26 = .ok (.ireturn, 1) := by decide +kernel
theorem dX13_isTaken_27 : decode cX13_isTaken 27 = .ok (.iload_n 0, 1) := by decide +kernel
theorem dX13_isTaken_28 : decode cX13_isTaken 28 = .ok (.bipush 16, 2) := by decide +kernel
theorem dX13_isTaken_30 : decode cX13_isTaken 30 = .ok (.if_icmp .ge 27, 3) := by decide +kernel
theorem dX13_isTaken_33 : decode cX13_isTaken 33 = .ok (.iload_n 1, 1) := by decide +kernel
theorem dX13_isTaken_34 : decode cX13_isTaken 34 = .ok (.invokestatic 209, 3) := by decide +kernel
theorem dX13_isTaken_37 : decode cX13_isTaken 37 = .ok (.ifCond .eq 18, 3) := by decide +kernel
theorem dX13_isTaken_40 : decode cX13_isTaken 40 = .ok (.iload_n 1, 1) := by decide +kernel
theorem dX13_isTaken_41 : decode cX13_isTaken 41 = .ok (.iload_n 0, 1) := by decide +kernel
theorem dX13_isTaken_42 : decode cX13_isTaken 42 = .ok (.bipush 8, 2) := by decide +kernel
theorem dX13_isTaken_44 : decode cX13_isTaken 44 = .ok (.isub, 1) := by decide +kernel
theorem dX13_isTaken_45 : decode cX13_isTaken 45 = .ok (.invokestatic 205, 3) := by decide +kernel
theorem dX13_isTaken_48 : decode cX13_isTaken 48 = .ok (.ifCond .eq 7, 3) := by decide +kernel
theorem dX13_isTaken_51 : decode cX13_isTaken 51 = .ok (.iconst 1, 1) := by decide +kernel
theorem dX13_isTaken_52 : decode cX13_isTaken 52 = .ok (.goto 4, 3) := by decide +kernel
theorem dX13_isTaken_55 : decode cX13_isTaken 55 = .ok (.iconst 0, 1) := by decide +kernel
theorem dX13_isTaken_56 : decode cX13_isTaken 56 = .ok (.ireturn, 1) := by decide +kernel
theorem dX13_isTaken_57 : decode cX13_isTaken 57 = .ok (.iload_n 1, 1) := by decide +kernel
theorem dX13_isTaken_58 : decode cX13_isTaken 58 = .ok (.iload_n 0, 1) := by decide +kernel
theorem dX13_isTaken_59 : decode cX13_isTaken 59 = .ok (.bipush 16, 2) := by decide +kernel
theorem dX13_isTaken_61 : decode cX13_isTaken 61 = .ok (.isub, 1) := by decide +kernel
theorem dX13_isTaken_62 : decode cX13_isTaken 62 = .ok (.invokestatic 205, 3) := by decide +kernel
theorem dX13_isTaken_65 : decode cX13_isTaken 65 = .ok (.ireturn, 1) := by decide +kernel
theorem dX13_fits_0 : decode cX13_fits 0 = .ok (.iload_n 1, 1) := by decide +kernel
theorem dX13_fits_1 : decode cX13_fits 1 = .ok (.iconst 0, 1) := by decide +kernel
theorem dX13_fits_2 : decode cX13_fits 2 = .ok (.bipush 27, 2) := by decide +kernel
theorem dX13_fits_4 : decode cX13_fits 4 = .ok (.invokestatic 109, 3) := by decide +kernel
theorem dX13_fits_7 : decode cX13_fits 7 = .ok (.ifCond .eq 26, 3) := by decide +kernel
theorem dX13_fits_10 : decode cX13_fits 10 = .ok (.iload_n 2, 1) := by decide +kernel
theorem dX13_fits_11 : decode cX13_fits 11 = .ok (.invokestatic 152, 3) := by decide +kernel
theorem dX13_fits_14 : decode cX13_fits 14 = .ok (.ifCond .eq 19, 3) := by decide +kernel
theorem dX13_fits_17 : decode cX13_fits 17 = .ok (.iload_n 1, 1) := by decide +kernel
theorem dX13_fits_18 : decode cX13_fits 18 = .ok (.iload_n 2, 1) := by decide +kernel
theorem dX13_fits_19 : decode cX13_fits 19 = .ok (.invokestatic 528, 3) := by decide +kernel
theorem dX13_fits_22 : decode cX13_fits 22 = .ok (.ifCond .eq 7, 3) := by decide +kernel
theorem dX13_fits_25 : decode cX13_fits 25 = .ok (.iconst 1, 1) := by decide +kernel
theorem dX13_fits_26 : decode cX13_fits 26 = .ok (.goto 12, 3) := by decide +kernel
theorem dX13_fits_29 : decode cX13_fits 29 = .ok (.iconst 0, 1) := by decide +kernel
theorem dX13_fits_30 : decode cX13_fits 30 = .ok (.goto 8, 3) := by decide +kernel
theorem dX13_fits_33 : decode cX13_fits 33 = .ok (.aload_n 0, 1) := by decide +kernel
theorem dX13_fits_34 : decode cX13_fits 34 = .ok (.iconst (-1), 1) := by decide +kernel
theorem dX13_fits_35 : decode cX13_fits 35 = .ok (.invokevirtual 137, 3) := by decide +kernel
theorem dX13_fits_38 : decode cX13_fits 38 = .ok (.ireturn, 1) := by decide +kernel
theorem dX13_sees_0 : decode cX13_sees 0 = .ok (.iload_n 1, 1) := by decide +kernel
theorem dX13_sees_1 : decode cX13_sees 1 = .ok (.iconst 0, 1) := by decide +kernel
theorem dX13_sees_2 : decode cX13_sees 2 = .ok (.bipush 27, 2) := by decide +kernel
theorem dX13_sees_4 : decode cX13_sees 4 = .ok (.invokestatic 109, 3) := by decide +kernel
theorem dX13_sees_7 : decode cX13_sees 7 = .ok (.ifCond .eq 12, 3) := by decide +kernel
theorem dX13_sees_10 : decode cX13_sees 10 = .ok (.iload_n 2, 1) := by decide +kernel
theorem dX13_sees_11 : decode cX13_sees 11 = .ok (.iconst 0, 1) := by decide +kernel
theorem dX13_sees_12 : decode cX13_sees 12 = .ok (.iconst 1, 1) := by decide +kernel
theorem dX13_sees_13 : decode cX13_sees 13 = .ok (.invokestatic 109, 3) := by decide +kernel
theorem dX13_sees_16 : decode cX13_sees 16 = .ok (.ifCond .ne 9, 3) := by decide +kernel
theorem dX13_sees_19 : decode cX13_sees 19 = .ok (.aload_n 0, 1) := by decide +kernel
theorem dX13_sees_20 : decode cX13_sees 20 = .ok (.iconst (-1), 1) := by decide +kernel
theorem dX13_sees_21 : decode cX13_sees 21 = .ok (.invokevirtual 137, 3) := by decide +kernel
theorem dX13_sees_24 : decode cX13_sees 24 = .ok (.ireturn, 1) := by decide +kernel
theorem dX13_sees_25 : decode cX13_sees 25 = .ok (.aload_n 0, 1) := by decide +kernel
theorem dX13_sees_26 : decode cX13_sees 26 = .ok (.getfield 531, 3) := by decide +kernel
theorem dX13_sees_29 : decode cX13_sees 29 = .ok (.bipush 6, 2) := by decide +kernel
theorem dX13_sees_31 : decode cX13_sees 31 = .ok (.if_icmp .ne 10, 3) := by decide +kernel
theorem dX13_sees_34 : decode cX13_sees 34 = .ok (.aload_n 0, 1) := by decide +kernel
theorem dX13_sees_35 : decode cX13_sees 35 = .ok (.bipush (-10), 2) := by decide +kernel
theorem dX13_sees_37 : decode cX13_sees 37 = .ok (.invokevirtual 137, 3) := by decide +kernel
theorem dX13_sees_40 : decode cX13_sees 40 = .ok (.ireturn, 1) := by decide +kernel
theorem dX13_sees_41 : decode cX13_sees 41 = .ok (.aload_n 0, 1) := by decide +kernel
theorem dX13_sees_42 : decode cX13_sees 42 = .ok (.getfield 103, 3) := by decide +kernel
theorem dX13_sees_45 : decode cX13_sees 45 = .ok (.aload_n 0, 1) := by decide +kernel
theorem dX13_sees_46 : decode cX13_sees 46 = .ok (.getfield 531, 3) := by decide +kernel
theorem dX13_sees_49 : decode cX13_sees 49 = .ok (.iload_n 1, 1) := by decide +kernel
theorem dX13_sees_50 : decode cX13_sees 50 = .ok (.iastore, 1) := by decide +kernel
theorem dX13_sees_51 : decode cX13_sees 51 = .ok (.aload_n 0, 1) := by decide +kernel
theorem dX13_sees_52 : decode cX13_sees 52 = .ok (.getfield 106, 3) := by decide +kernel
theorem dX13_sees_55 : decode cX13_sees 55 = .ok (.aload_n 0, 1) := by decide +kernel
theorem dX13_sees_56 : decode cX13_sees 56 = .ok (.getfield 531, 3) := by decide +kernel
theorem dX13_sees_59 : decode cX13_sees 59 = .ok (.iload_n 2, 1) := by decide +kernel
theorem dX13_sees_60 : decode cX13_sees 60 = .ok (.iastore, 1) := by decide +kernel
theorem dX13_sees_61 : decode cX13_sees 61 = .ok (.aload_n 0, 1) := by decide +kernel
theorem dX13_sees_62 : decode cX13_sees 62 = .ok (.dup, 1) := by decide +kernel
theorem dX13_sees_63 : decode cX13_sees 63 = .ok (.getfield 531, 3) := by decide +kernel
theorem dX13_sees_66 : decode cX13_sees 66 = .ok (.iconst 1, 1) := by decide +kernel
theorem dX13_sees_67 : decode cX13_sees 67 = .ok (.iadd, 1) := by decide +kernel
theorem dX13_sees_68 : decode cX13_sees 68 = .ok (.putfield 531, 3) := by decide +kernel
theorem dX13_sees_71 : decode cX13_sees 71 = .ok (.aload_n 0, 1) := by decide +kernel
theorem dX13_sees_72 : decode cX13_sees 72 = .ok (.getfield 531, 3) := by decide +kernel
theorem dX13_sees_75 : decode cX13_sees 75 = .ok (.ireturn, 1) := by decide +kernel
theorem dX13_forget_0 : decode cX13_forget 0 = .ok (.aload_n 0, 1) := by decide +kernel
theorem dX13_forget_1 : decode cX13_forget 1 = .ok (.getfield 531, 3) := by decide +kernel
theorem dX13_forget_4 : decode cX13_forget 4 = .ok (.istore_n 1, 1) := by decide +kernel
theorem dX13_forget_5 : decode cX13_forget 5 = .ok (.aload_n 0, 1) := by decide +kernel
theorem dX13_forget_6 : decode cX13_forget 6 = .ok (.iconst 0, 1) := by decide +kernel
theorem dX13_forget_7 : decode cX13_forget 7 = .ok (.putfield 531, 3) := by decide +kernel
theorem dX13_forget_10 : decode cX13_forget 10 = .ok (.iload_n 1, 1) := by decide +kernel
theorem dX13_forget_11 : decode cX13_forget 11 = .ok (.ireturn, 1) := by decide +kernel
theorem dX13_leftSet_0 : decode cX13_leftSet 0 = .ok (.iconst 0, 1) := by decide +kernel
theorem dX13_leftSet_1 : decode cX13_leftSet 1 = .ok (.istore_n 1, 1) := by decide +kernel
theorem dX13_leftSet_2 : decode cX13_leftSet 2 = .ok (.iconst 0, 1) := by decide +kernel
theorem dX13_leftSet_3 : decode cX13_leftSet 3 = .ok (.istore_n 2, 1) := by decide +kernel
theorem dX13_leftSet_4 : decode cX13_leftSet 4 = .ok (.iload_n 2, 1) := by decide +kernel
theorem dX13_leftSet_5 : decode cX13_leftSet 5 = .ok (.bipush 11, 2) := by decide +kernel
theorem dX13_leftSet_7 : decode cX13_leftSet 7 = .ok (.if_icmp .gt 83, 3) := by decide +kernel
theorem dX13_leftSet_10 : decode cX13_leftSet 10 = .ok (.iconst 1, 1) := by decide +kernel
theorem dX13_leftSet_11 : decode cX13_leftSet 11 = .ok (.istore_n 3, 1) := by decide +kernel
theorem dX13_leftSet_12 : decode cX13_leftSet 12 = .ok (.iconst 0, 1) := by decide +kernel
theorem dX13_leftSet_13 : decode cX13_leftSet 13 = .ok (.istore 4, 2) := by decide +kernel
theorem dX13_leftSet_15 : decode cX13_leftSet 15 = .ok (.iload 4, 2) := by decide +kernel
theorem dX13_leftSet_17 : decode cX13_leftSet 17 = .ok (.aload_n 0, 1) := by decide +kernel
theorem dX13_leftSet_18 : decode cX13_leftSet 18 = .ok (.getfield 531, 3) := by decide +kernel
theorem dX13_leftSet_21 : decode cX13_leftSet 21 = .ok (.if_icmp .ge 49, 3) := by decide +kernel
theorem dX13_leftSet_24 : decode cX13_leftSet 24 = .ok (.iload_n 3, 1) := by decide +kernel
theorem dX13_leftSet_25 : decode cX13_leftSet 25 = .ok (.ifCond .eq 37, 3) := by decide +kernel
theorem dX13_leftSet_28 : decode cX13_leftSet 28 = .ok (.aload_n 0, 1) := by decide +kernel
theorem dX13_leftSet_29 : decode cX13_leftSet 29 = .ok (.getfield 103, 3) := by decide +kernel
theorem dX13_leftSet_32 : decode cX13_leftSet 32 = .ok (.iload 4, 2) := by decide +kernel
theorem dX13_leftSet_34 : decode cX13_leftSet 34 = .ok (.iaload, 1) := by decide +kernel
theorem dX13_leftSet_35 : decode cX13_leftSet 35 = .ok (.iload_n 2, 1) := by decide +kernel
theorem dX13_leftSet_36 : decode cX13_leftSet 36 = .ok (.invokestatic 528, 3) := by decide +kernel
theorem dX13_leftSet_39 : decode cX13_leftSet 39 = .ok (.aload_n 0, 1) := by decide +kernel
theorem dX13_leftSet_40 : decode cX13_leftSet 40 = .ok (.getfield 106, 3) := by decide +kernel
theorem dX13_leftSet_43 : decode cX13_leftSet 43 = .ok (.iload 4, 2) := by decide +kernel
theorem dX13_leftSet_45 : decode cX13_leftSet 45 = .ok (.iaload, 1) := by decide +kernel
theorem dX13_leftSet_46 : decode cX13_leftSet 46 = .ok (.iconst 1, 1) := by decide +kernel
theorem dX13_leftSet_47 : decode cX13_leftSet 47 = .ok (.if_icmp .ne 7, 3) := by decide +kernel
theorem dX13_leftSet_50 : decode cX13_leftSet 50 = .ok (.iconst 1, 1) := by decide +kernel
theorem dX13_leftSet_51 : decode cX13_leftSet 51 = .ok (.goto 4, 3) := by decide +kernel
theorem dX13_leftSet_54 : decode cX13_leftSet 54 = .ok (.iconst 0, 1) := by decide +kernel
theorem dX13_leftSet_55 : decode cX13_leftSet 55 = .ok (.if_icmp .ne 7, 3) := by decide +kernel
theorem dX13_leftSet_58 : decode cX13_leftSet 58 = .ok (.iconst 1, 1) := by decide +kernel
theorem dX13_leftSet_59 : decode cX13_leftSet 59 = .ok (.goto 4, 3) := by decide +kernel
theorem dX13_leftSet_62 : decode cX13_leftSet 62 = .ok (.iconst 0, 1) := by decide +kernel
theorem dX13_leftSet_63 : decode cX13_leftSet 63 = .ok (.istore_n 3, 1) := by decide +kernel
theorem dX13_leftSet_64 : decode cX13_leftSet 64 = .ok (.iinc 4 1, 3) := by decide +kernel
theorem dX13_leftSet_67 : decode cX13_leftSet 67 = .ok (.goto (-52), 3) := by decide +kernel
theorem dX13_leftSet_70 : decode cX13_leftSet 70 = .ok (.iload_n 1, 1) := by decide +kernel
theorem dX13_leftSet_71 : decode cX13_leftSet 71 = .ok (.iload_n 3, 1) := by decide +kernel
theorem dX13_leftSet_72 : decode cX13_leftSet 72 = .ok (.ifCond .eq 9, 3) := by decide +kernel
theorem dX13_leftSet_75 : decode cX13_leftSet 75 = .ok (.iconst 1, 1) := by decide +kernel
theorem dX13_leftSet_76 : decode cX13_leftSet 76 = .ok (.iload_n 2, 1) := by decide +kernel
theorem dX13_leftSet_77 : decode cX13_leftSet 77 = .ok (.ishl, 1) := by decide +kernel
theorem dX13_leftSet_78 : decode cX13_leftSet 78 = .ok (.goto 4, 3) := by decide +kernel
theorem dX13_leftSet_81 : decode cX13_leftSet 81 = .ok (.iconst 0, 1) := by decide +kernel
theorem dX13_leftSet_82 : decode cX13_leftSet 82 = .ok (.ior, 1) := by decide +kernel
theorem dX13_leftSet_83 : decode cX13_leftSet 83 = .ok (.istore_n 1, 1) := by decide +kernel
theorem dX13_leftSet_84 : decode cX13_leftSet 84 = .ok (.iinc 2 1, 3) := by decide +kernel
theorem dX13_leftSet_87 : decode cX13_leftSet 87 = .ok (.goto (-83), 3) := by decide +kernel
theorem dX13_leftSet_90 : decode cX13_leftSet 90 = .ok (.iload_n 1, 1) := by decide +kernel
theorem dX13_leftSet_91 : decode cX13_leftSet 91 = .ok (.ireturn, 1) := by decide +kernel
theorem dX13_left_0 : decode cX13_left 0 = .ok (.aload_n 0, 1) := by decide +kernel
theorem dX13_left_1 : decode cX13_left 1 = .ok (.invokevirtual 534, 3) := by decide +kernel
theorem dX13_left_4 : decode cX13_left 4 = .ok (.ireturn, 1) := by decide +kernel
theorem dX13_next_0 : decode cX13_next 0 = .ok (.aload_n 0, 1) := by decide +kernel
theorem dX13_next_1 : decode cX13_next 1 = .ok (.invokevirtual 534, 3) := by decide +kernel
theorem dX13_next_4 : decode cX13_next 4 = .ok (.istore_n 1, 1) := by decide +kernel
theorem dX13_next_5 : decode cX13_next 5 = .ok (.iconst 0, 1) := by decide +kernel
theorem dX13_next_6 : decode cX13_next 6 = .ok (.istore_n 2, 1) := by decide +kernel
theorem dX13_next_7 : decode cX13_next 7 = .ok (.iconst 0, 1) := by decide +kernel
theorem dX13_next_8 : decode cX13_next 8 = .ok (.istore_n 3, 1) := by decide +kernel
theorem dX13_next_9 : decode cX13_next 9 = .ok (.iload_n 3, 1) := by decide +kernel
theorem dX13_next_10 : decode cX13_next 10 = .ok (.bipush 11, 2) := by decide +kernel
theorem dX13_next_12 : decode cX13_next 12 = .ok (.if_icmp .gt 17, 3) := by decide +kernel
theorem dX13_next_15 : decode cX13_next 15 = .ok (.iload_n 2, 1) := by decide +kernel
theorem dX13_next_16 : decode cX13_next 16 = .ok (.iload_n 1, 1) := by decide +kernel
theorem dX13_next_17 : decode cX13_next 17 = .ok (.iload_n 3, 1) := by decide +kernel
theorem dX13_next_18 : decode cX13_next 18 = .ok (.ishr, 1) := by decide +kernel
theorem dX13_next_19 : decode cX13_next 19 = .ok (.iconst 1, 1) := by decide +kernel
theorem dX13_next_20 : decode cX13_next 20 = .ok (.iand, 1) := by decide +kernel
theorem dX13_next_21 : decode cX13_next 21 = .ok (.iadd, 1) := by decide +kernel
theorem dX13_next_22 : decode cX13_next 22 = .ok (.istore_n 2, 1) := by decide +kernel
theorem dX13_next_23 : decode cX13_next 23 = .ok (.iinc 3 1, 3) := by decide +kernel
theorem dX13_next_26 : decode cX13_next 26 = .ok (.goto (-17), 3) := by decide +kernel
theorem dX13_next_29 : decode cX13_next 29 = .ok (.iload_n 2, 1) := by decide +kernel
theorem dX13_next_30 : decode cX13_next 30 = .ok (.iconst 2, 1) := by decide +kernel
theorem dX13_next_31 : decode cX13_next 31 = .ok (.if_icmp .ge 6, 3) := by decide +kernel
theorem dX13_next_34 : decode cX13_next 34 = .ok (.bipush (-9), 2) := by decide +kernel
theorem dX13_next_36 : decode cX13_next 36 = .ok (.ireturn, 1) := by decide +kernel
theorem dX13_next_37 : decode cX13_next 37 = .ok (.bipush (-9), 2) := by decide +kernel
theorem dX13_next_39 : decode cX13_next 39 = .ok (.istore_n 3, 1) := by decide +kernel
theorem dX13_next_40 : decode cX13_next 40 = .ok (.iload_n 2, 1) := by decide +kernel
theorem dX13_next_41 : decode cX13_next 41 = .ok (.iconst 1, 1) := by decide +kernel
theorem dX13_next_42 : decode cX13_next 42 = .ok (.iadd, 1) := by decide +kernel
theorem dX13_next_43 : decode cX13_next 43 = .ok (.istore 4, 2) := by decide +kernel
theorem dX13_next_45 : decode cX13_next 45 = .ok (.iconst 0, 1) := by decide +kernel
theorem dX13_next_46 : decode cX13_next 46 = .ok (.istore 5, 2) := by decide +kernel
theorem dX13_next_48 : decode cX13_next 48 = .ok (.iload 5, 2) := by decide +kernel
theorem dX13_next_50 : decode cX13_next 50 = .ok (.bipush 28, 2) := by decide +kernel
theorem dX13_next_52 : decode cX13_next 52 = .ok (.if_icmp .ge 108, 3) := by decide +kernel
theorem dX13_next_55 : decode cX13_next 55 = .ok (.iconst 0, 1) := by decide +kernel
theorem dX13_next_56 : decode cX13_next 56 = .ok (.istore 6, 2) := by decide +kernel
theorem dX13_next_58 : decode cX13_next 58 = .ok (.iconst 0, 1) := by decide +kernel
theorem dX13_next_59 : decode cX13_next 59 = .ok (.istore 7, 2) := by decide +kernel
theorem dX13_next_61 : decode cX13_next 61 = .ok (.iload 7, 2) := by decide +kernel
theorem dX13_next_63 : decode cX13_next 63 = .ok (.bipush 11, 2) := by decide +kernel
theorem dX13_next_65 : decode cX13_next 65 = .ok (.if_icmp .gt 39, 3) := by decide +kernel
theorem dX13_next_68 : decode cX13_next 68 = .ok (.iload 6, 2) := by decide +kernel
theorem dX13_next_70 : decode cX13_next 70 = .ok (.iload_n 1, 1) := by decide +kernel
theorem dX13_next_71 : decode cX13_next 71 = .ok (.iload 7, 2) := by decide +kernel
theorem dX13_next_73 : decode cX13_next 73 = .ok (.ishr, 1) := by decide +kernel
theorem dX13_next_74 : decode cX13_next 74 = .ok (.iconst 1, 1) := by decide +kernel
theorem dX13_next_75 : decode cX13_next 75 = .ok (.iand, 1) := by decide +kernel
theorem dX13_next_76 : decode cX13_next 76 = .ok (.iconst 1, 1) := by decide +kernel
theorem dX13_next_77 : decode cX13_next 77 = .ok (.if_icmp .ne 17, 3) := by decide +kernel
theorem dX13_next_80 : decode cX13_next 80 = .ok (.iload 5, 2) := by decide +kernel
theorem dX13_next_82 : decode cX13_next 82 = .ok (.iload 7, 2) := by decide +kernel
theorem dX13_next_84 : decode cX13_next 84 = .ok (.invokestatic 528, 3) := by decide +kernel
theorem dX13_next_87 : decode cX13_next 87 = .ok (.ifCond .eq 7, 3) := by decide +kernel
theorem dX13_next_90 : decode cX13_next 90 = .ok (.iconst 1, 1) := by decide +kernel
theorem dX13_next_91 : decode cX13_next 91 = .ok (.goto 4, 3) := by decide +kernel
theorem dX13_next_94 : decode cX13_next 94 = .ok (.iconst 0, 1) := by decide +kernel
theorem dX13_next_95 : decode cX13_next 95 = .ok (.iadd, 1) := by decide +kernel
theorem dX13_next_96 : decode cX13_next 96 = .ok (.istore 6, 2) := by decide +kernel
theorem dX13_next_98 : decode cX13_next 98 = .ok (.iinc 7 1, 3) := by decide +kernel
theorem dX13_next_101 : decode cX13_next 101 = .ok (.goto (-40), 3) := by decide +kernel
theorem dX13_next_104 : decode cX13_next 104 = .ok (.iload 6, 2) := by decide +kernel
theorem dX13_next_106 : decode cX13_next 106 = .ok (.iload_n 2, 1) := by decide +kernel
theorem dX13_next_107 : decode cX13_next 107 = .ok (.iload 6, 2) := by decide +kernel
theorem dX13_next_109 : decode cX13_next 109 = .ok (.isub, 1) := by decide +kernel
theorem dX13_next_110 : decode cX13_next 110 = .ok (.if_icmp .le 8, 3) := by decide +kernel
theorem dX13_next_113 : decode cX13_next 113 = .ok (.iload 6, 2) := by decide +kernel
theorem dX13_next_115 : decode cX13_next 115 = .ok (.goto 7, 3) := by decide +kernel
theorem dX13_next_118 : decode cX13_next 118 = .ok (.iload_n 2, 1) := by decide +kernel
theorem dX13_next_119 : decode cX13_next 119 = .ok (.iload 6, 2) := by decide +kernel
theorem dX13_next_121 : decode cX13_next 121 = .ok (.isub, 1) := by decide +kernel
theorem dX13_next_122 : decode cX13_next 122 = .ok (.istore 7, 2) := by decide +kernel
theorem dX13_next_124 : decode cX13_next 124 = .ok (.iload 7, 2) := by decide +kernel
theorem dX13_next_126 : decode cX13_next 126 = .ok (.iload 4, 2) := by decide +kernel
theorem dX13_next_128 : decode cX13_next 128 = .ok (.if_icmp .ge 8, 3) := by decide +kernel
theorem dX13_next_131 : decode cX13_next 131 = .ok (.iload 5, 2) := by decide +kernel
theorem dX13_next_133 : decode cX13_next 133 = .ok (.goto 4, 3) := by decide +kernel
theorem dX13_next_136 : decode cX13_next 136 = .ok (.iload_n 3, 1) := by decide +kernel
theorem dX13_next_137 : decode cX13_next 137 = .ok (.istore_n 3, 1) := by decide +kernel
theorem dX13_next_138 : decode cX13_next 138 = .ok (.iload 7, 2) := by decide +kernel
theorem dX13_next_140 : decode cX13_next 140 = .ok (.iload 4, 2) := by decide +kernel
theorem dX13_next_142 : decode cX13_next 142 = .ok (.if_icmp .ge 8, 3) := by decide +kernel
theorem dX13_next_145 : decode cX13_next 145 = .ok (.iload 7, 2) := by decide +kernel
theorem dX13_next_147 : decode cX13_next 147 = .ok (.goto 5, 3) := by decide +kernel
theorem dX13_next_150 : decode cX13_next 150 = .ok (.iload 4, 2) := by decide +kernel
theorem dX13_next_152 : decode cX13_next 152 = .ok (.istore 4, 2) := by decide +kernel
theorem dX13_next_154 : decode cX13_next 154 = .ok (.iinc 5 1, 3) := by decide +kernel
theorem dX13_next_157 : decode cX13_next 157 = .ok (.goto (-109), 3) := by decide +kernel
theorem dX13_next_160 : decode cX13_next 160 = .ok (.aload_n 0, 1) := by decide +kernel
theorem dX13_next_161 : decode cX13_next 161 = .ok (.iload 4, 2) := by decide +kernel
theorem dX13_next_163 : decode cX13_next 163 = .ok (.i2l, 1) := by decide +kernel
theorem dX13_next_164 : decode cX13_next 164 = .ok (.iload_n 3, 1) := by decide +kernel
theorem dX13_next_165 : decode cX13_next 165 = .ok (.invokevirtual 243, 3) := by decide +kernel
theorem dX13_next_168 : decode cX13_next 168 = .ok (.ireturn, 1) := by decide +kernel
theorem dX13_told_0 : decode cX13_told 0 = .ok (.aload_n 0, 1) := by decide +kernel
theorem dX13_told_1 : decode cX13_told 1 = .ok (.getfield 116, 3) := by decide +kernel
theorem dX13_told_4 : decode cX13_told 4 = .ok (.lreturn, 1) := by decide +kernel
theorem dX13_first_0 : decode cX13_first 0 = .ok (.aload_n 0, 1) := by decide +kernel
theorem dX13_first_1 : decode cX13_first 1 = .ok (.getfield 13, 3) := by decide +kernel
theorem dX13_first_4 : decode cX13_first 4 = .ok (.ireturn, 1) := by decide +kernel
theorem dX13_passed_0 : decode cX13_passed 0 = .ok (.aload_n 0, 1) := by decide +kernel
theorem dX13_passed_1 : decode cX13_passed 1 = .ok (.getfield 389, 3) := by decide +kernel
theorem dX13_passed_4 : decode cX13_passed 4 = .ok (.ireturn, 1) := by decide +kernel
theorem dX13_refusals_0 : decode cX13_refusals 0 = .ok (.iload_n 1, 1) := by decide +kernel
theorem dX13_refusals_1 : decode cX13_refusals 1 = .ok (.bipush (-8), 2) := by decide +kernel
theorem dX13_refusals_3 : decode cX13_refusals 3 = .ok (.iconst (-1), 1) := by decide +kernel
theorem dX13_refusals_4 : decode cX13_refusals 4 = .ok (.invokestatic 109, 3) := by decide +kernel
theorem dX13_refusals_7 : decode cX13_refusals 7 = .ok (.ifCond .ne 9, 3) := by decide +kernel
theorem dX13_refusals_10 : decode cX13_refusals 10 = .ok (.iload_n 1, 1) := by decide +kernel
theorem dX13_refusals_11 : decode cX13_refusals 11 = .ok (.bipush (-10), 2) := by decide +kernel
theorem dX13_refusals_13 : decode cX13_refusals 13 = .ok (.if_icmp .ne 13, 3) := by decide +kernel
theorem dX13_refusals_16 : decode cX13_refusals 16 = .ok (.aload_n 0, 1) := by decide +kernel
theorem dX13_refusals_17 : decode cX13_refusals 17 = .ok (.getfield 7, 3) := by decide +kernel
theorem dX13_refusals_20 : decode cX13_refusals 20 = .ok (.iload_n 1, 1) := by decide +kernel
theorem dX13_refusals_21 : decode cX13_refusals 21 = .ok (.ineg, 1) := by decide +kernel
theorem dX13_refusals_22 : decode cX13_refusals 22 = .ok (.iaload, 1) := by decide +kernel
theorem dX13_refusals_23 : decode cX13_refusals 23 = .ok (.goto 4, 3) := by decide +kernel
theorem dX13_refusals_26 : decode cX13_refusals 26 = .ok (.iconst (-1), 1) := by decide +kernel
theorem dX13_refusals_27 : decode cX13_refusals 27 = .ok (.ireturn, 1) := by decide +kernel
theorem dX13_holder_0 : decode cX13_holder 0 = .ok (.iconst 0, 1) := by decide +kernel
theorem dX13_holder_1 : decode cX13_holder 1 = .ok (.istore_n 2, 1) := by decide +kernel
theorem dX13_holder_2 : decode cX13_holder 2 = .ok (.iload_n 2, 1) := by decide +kernel
theorem dX13_holder_3 : decode cX13_holder 3 = .ok (.bipush 24, 2) := by decide +kernel
theorem dX13_holder_5 : decode cX13_holder 5 = .ok (.if_icmp .ge 21, 3) := by decide +kernel
theorem dX13_holder_8 : decode cX13_holder 8 = .ok (.aload_n 0, 1) := by decide +kernel
theorem dX13_holder_9 : decode cX13_holder 9 = .ok (.getfield 20, 3) := by decide +kernel
theorem dX13_holder_12 : decode cX13_holder 12 = .ok (.iload_n 2, 1) := by decide +kernel
theorem dX13_holder_13 : decode cX13_holder 13 = .ok (.iaload, 1) := by decide +kernel
theorem dX13_holder_14 : decode cX13_holder 14 = .ok (.iload_n 1, 1) := by decide +kernel
theorem dX13_holder_15 : decode cX13_holder 15 = .ok (.if_icmp .ne 5, 3) := by decide +kernel
theorem dX13_holder_18 : decode cX13_holder 18 = .ok (.iload_n 2, 1) := by decide +kernel
theorem dX13_holder_19 : decode cX13_holder 19 = .ok (.ireturn, 1) := by decide +kernel
theorem dX13_holder_20 : decode cX13_holder 20 = .ok (.iinc 2 1, 3) := by decide +kernel
theorem dX13_holder_23 : decode cX13_holder 23 = .ok (.goto (-21), 3) := by decide +kernel
theorem dX13_holder_26 : decode cX13_holder 26 = .ok (.bipush (-9), 2) := by decide +kernel
theorem dX13_holder_28 : decode cX13_holder 28 = .ok (.ireturn, 1) := by decide +kernel
theorem dX13_placesWith_0 : decode cX13_placesWith 0 = .ok (.iconst 0, 1) := by decide +kernel
theorem dX13_placesWith_1 : decode cX13_placesWith 1 = .ok (.istore_n 3, 1) := by decide +kernel
theorem dX13_placesWith_2 : decode cX13_placesWith 2 = .ok (.iconst 0, 1) := by decide +kernel
theorem dX13_placesWith_3 : decode cX13_placesWith 3 = .ok (.istore 4, 2) := by decide +kernel
theorem dX13_placesWith_5 : decode cX13_placesWith 5 = .ok (.iload 4, 2) := by decide +kernel
theorem dX13_placesWith_7 : decode cX13_placesWith 7 = .ok (.iconst 4, 1) := by decide +kernel
theorem dX13_placesWith_8 : decode cX13_placesWith 8 = .ok (.if_icmp .ge 54, 3) := by decide +kernel
theorem dX13_placesWith_11 : decode cX13_placesWith 11 = .ok (.iconst 0, 1) := by decide +kernel
theorem dX13_placesWith_12 : decode cX13_placesWith 12 = .ok (.istore 5, 2) := by decide +kernel
theorem dX13_placesWith_14 : decode cX13_placesWith 14 = .ok (.iload 5, 2) := by decide +kernel
theorem dX13_placesWith_16 : decode cX13_placesWith 16 = .ok (.aload_n 0, 1) := by decide +kernel
theorem dX13_placesWith_17 : decode cX13_placesWith 17 = .ok (.getfield 17, 3) := by decide +kernel
theorem dX13_placesWith_20 : decode cX13_placesWith 20 = .ok (.iload 4, 2) := by decide +kernel
theorem dX13_placesWith_22 : decode cX13_placesWith 22 = .ok (.iaload, 1) := by decide +kernel
theorem dX13_placesWith_23 : decode cX13_placesWith 23 = .ok (.if_icmp .ge 33, 3) := by decide +kernel
theorem dX13_placesWith_26 : decode cX13_placesWith 26 = .ok (.iload_n 3, 1) := by decide +kernel
theorem dX13_placesWith_27 : decode cX13_placesWith 27 = .ok (.aload_n 0, 1) := by decide +kernel
theorem dX13_placesWith_28 : decode cX13_placesWith 28 = .ok (.iload 4, 2) := by decide +kernel
theorem dX13_placesWith_30 : decode cX13_placesWith 30 = .ok (.iload 5, 2) := by decide +kernel
theorem dX13_placesWith_32 : decode cX13_placesWith 32 = .ok (.invokevirtual 128, 3) := by decide +kernel
theorem dX13_placesWith_35 : decode cX13_placesWith 35 = .ok (.iload_n 1, 1) := by decide +kernel
theorem dX13_placesWith_36 : decode cX13_placesWith 36 = .ok (.iload_n 2, 1) := by decide +kernel
theorem dX13_placesWith_37 : decode cX13_placesWith 37 = .ok (.invokestatic 109, 3) := by decide +kernel
theorem dX13_placesWith_40 : decode cX13_placesWith 40 = .ok (.ifCond .eq 7, 3) := by decide +kernel
theorem dX13_placesWith_43 : decode cX13_placesWith 43 = .ok (.iconst 1, 1) := by decide +kernel
theorem dX13_placesWith_44 : decode cX13_placesWith 44 = .ok (.goto 4, 3) := by decide +kernel
theorem dX13_placesWith_47 : decode cX13_placesWith 47 = .ok (.iconst 0, 1) := by decide +kernel
theorem dX13_placesWith_48 : decode cX13_placesWith 48 = .ok (.iadd, 1) := by decide +kernel
theorem dX13_placesWith_49 : decode cX13_placesWith 49 = .ok (.istore_n 3, 1) := by decide +kernel
theorem dX13_placesWith_50 : decode cX13_placesWith 50 = .ok (.iinc 5 1, 3) := by decide +kernel
theorem dX13_placesWith_53 : decode cX13_placesWith 53 = .ok (.goto (-39), 3) := by decide +kernel
theorem dX13_placesWith_56 : decode cX13_placesWith 56 = .ok (.iinc 4 1, 3) := by decide +kernel
theorem dX13_placesWith_59 : decode cX13_placesWith 59 = .ok (.goto (-54), 3) := by decide +kernel
theorem dX13_placesWith_62 : decode cX13_placesWith 62 = .ok (.iload_n 3, 1) := by decide +kernel
theorem dX13_placesWith_63 : decode cX13_placesWith 63 = .ok (.ireturn, 1) := by decide +kernel
theorem dX13_nothings_0 : decode cX13_nothings 0 = .ok (.iconst 0, 1) := by decide +kernel
theorem dX13_nothings_1 : decode cX13_nothings 1 = .ok (.istore_n 2, 1) := by decide +kernel
theorem dX13_nothings_2 : decode cX13_nothings 2 = .ok (.iconst 0, 1) := by decide +kernel
theorem dX13_nothings_3 : decode cX13_nothings 3 = .ok (.istore_n 3, 1) := by decide +kernel
theorem dX13_nothings_4 : decode cX13_nothings 4 = .ok (.iload_n 3, 1) := by decide +kernel
theorem dX13_nothings_5 : decode cX13_nothings 5 = .ok (.aload_n 0, 1) := by decide +kernel
theorem dX13_nothings_6 : decode cX13_nothings 6 = .ok (.getfield 26, 3) := by decide +kernel
theorem dX13_nothings_9 : decode cX13_nothings 9 = .ok (.iload_n 1, 1) := by decide +kernel
theorem dX13_nothings_10 : decode cX13_nothings 10 = .ok (.iaload, 1) := by decide +kernel
theorem dX13_nothings_11 : decode cX13_nothings 11 = .ok (.if_icmp .ge 33, 3) := by decide +kernel
theorem dX13_nothings_14 : decode cX13_nothings 14 = .ok (.iload_n 2, 1) := by decide +kernel
theorem dX13_nothings_15 : decode cX13_nothings 15 = .ok (.aload_n 0, 1) := by decide +kernel
theorem dX13_nothings_16 : decode cX13_nothings 16 = .ok (.getfield 32, 3) := by decide +kernel
theorem dX13_nothings_19 : decode cX13_nothings 19 = .ok (.bipush 12, 2) := by decide +kernel
theorem dX13_nothings_21 : decode cX13_nothings 21 = .ok (.iload_n 1, 1) := by decide +kernel
theorem dX13_nothings_22 : decode cX13_nothings 22 = .ok (.imul, 1) := by decide +kernel
theorem dX13_nothings_23 : decode cX13_nothings 23 = .ok (.iload_n 3, 1) := by decide +kernel
theorem dX13_nothings_24 : decode cX13_nothings 24 = .ok (.iadd, 1) := by decide +kernel
theorem dX13_nothings_25 : decode cX13_nothings 25 = .ok (.iaload, 1) := by decide +kernel
theorem dX13_nothings_26 : decode cX13_nothings 26 = .ok (.bipush 11, 2) := by decide +kernel
theorem dX13_nothings_28 : decode cX13_nothings 28 = .ok (.if_icmp .ne 7, 3) := by decide +kernel
theorem dX13_nothings_31 : decode cX13_nothings 31 = .ok (.iconst 1, 1) := by decide +kernel
theorem dX13_nothings_32 : decode cX13_nothings 32 = .ok (.goto 4, 3) := by decide +kernel
theorem dX13_nothings_35 : decode cX13_nothings 35 = .ok (.iconst 0, 1) := by decide +kernel
theorem dX13_nothings_36 : decode cX13_nothings 36 = .ok (.iadd, 1) := by decide +kernel
theorem dX13_nothings_37 : decode cX13_nothings 37 = .ok (.istore_n 2, 1) := by decide +kernel
theorem dX13_nothings_38 : decode cX13_nothings 38 = .ok (.iinc 3 1, 3) := by decide +kernel
theorem dX13_nothings_41 : decode cX13_nothings 41 = .ok (.goto (-37), 3) := by decide +kernel
theorem dX13_nothings_44 : decode cX13_nothings 44 = .ok (.iload_n 2, 1) := by decide +kernel
theorem dX13_nothings_45 : decode cX13_nothings 45 = .ok (.ireturn, 1) := by decide +kernel
theorem dX13_ofRows_0 : decode cX13_ofRows 0 = .ok (.iconst 0, 1) := by decide +kernel
theorem dX13_ofRows_1 : decode cX13_ofRows 1 = .ok (.istore_n 2, 1) := by decide +kernel
theorem dX13_ofRows_2 : decode cX13_ofRows 2 = .ok (.iconst 0, 1) := by decide +kernel
theorem dX13_ofRows_3 : decode cX13_ofRows 3 = .ok (.istore_n 3, 1) := by decide +kernel
theorem dX13_ofRows_4 : decode cX13_ofRows 4 = .ok (.iload_n 3, 1) := by decide +kernel
theorem dX13_ofRows_5 : decode cX13_ofRows 5 = .ok (.bipush 32, 2) := by decide +kernel
theorem dX13_ofRows_7 : decode cX13_ofRows 7 = .ok (.if_icmp .ge 50, 3) := by decide +kernel
theorem dX13_ofRows_10 : decode cX13_ofRows 10 = .ok (.aload_n 0, 1) := by decide +kernel
theorem dX13_ofRows_11 : decode cX13_ofRows 11 = .ok (.iload_n 3, 1) := by decide +kernel
theorem dX13_ofRows_12 : decode cX13_ofRows 12 = .ok (.invokevirtual 537, 3) := by decide +kernel
theorem dX13_ofRows_15 : decode cX13_ofRows 15 = .ok (.bipush (-9), 2) := by decide +kernel
theorem dX13_ofRows_17 : decode cX13_ofRows 17 = .ok (.if_icmp .eq 34, 3) := by decide +kernel
theorem dX13_ofRows_20 : decode cX13_ofRows 20 = .ok (.iload_n 2, 1) := by decide +kernel
theorem dX13_ofRows_21 : decode cX13_ofRows 21 = .ok (.iload_n 1, 1) := by decide +kernel
theorem dX13_ofRows_22 : decode cX13_ofRows 22 = .ok (.iconst 3, 1) := by decide +kernel
theorem dX13_ofRows_23 : decode cX13_ofRows 23 = .ok (.if_icmp .ne 7, 3) := by decide +kernel
theorem dX13_ofRows_26 : decode cX13_ofRows 26 = .ok (.iconst 1, 1) := by decide +kernel
theorem dX13_ofRows_27 : decode cX13_ofRows 27 = .ok (.goto 22, 3) := by decide +kernel
theorem dX13_ofRows_30 : decode cX13_ofRows 30 = .ok (.iload_n 1, 1) := by decide +kernel
theorem dX13_ofRows_31 : decode cX13_ofRows 31 = .ok (.iconst 4, 1) := by decide +kernel
theorem dX13_ofRows_32 : decode cX13_ofRows 32 = .ok (.if_icmp .ne 12, 3) := by decide +kernel
theorem dX13_ofRows_35 : decode cX13_ofRows 35 = .ok (.aload_n 0, 1) := by decide +kernel
theorem dX13_ofRows_36 : decode cX13_ofRows 36 = .ok (.getfield 26, 3) := by decide +kernel
theorem dX13_ofRows_39 : decode cX13_ofRows 39 = .ok (.iload_n 3, 1) := by decide +kernel
theorem dX13_ofRows_40 : decode cX13_ofRows 40 = .ok (.iaload, 1) := by decide +kernel
theorem dX13_ofRows_41 : decode cX13_ofRows 41 = .ok (.goto 8, 3) := by decide +kernel
theorem dX13_ofRows_44 : decode cX13_ofRows 44 = .ok (.aload_n 0, 1) := by decide +kernel
theorem dX13_ofRows_45 : decode cX13_ofRows 45 = .ok (.iload_n 3, 1) := by decide +kernel
theorem dX13_ofRows_46 : decode cX13_ofRows 46 = .ok (.invokevirtual 540, 3) := by decide +kernel
theorem dX13_ofRows_49 : decode cX13_ofRows 49 = .ok (.iadd, 1) := by decide +kernel
theorem dX13_ofRows_50 : decode cX13_ofRows 50 = .ok (.istore_n 2, 1) := by decide +kernel
theorem dX13_ofRows_51 : decode cX13_ofRows 51 = .ok (.iinc 3 1, 3) := by decide +kernel
theorem dX13_ofRows_54 : decode cX13_ofRows 54 = .ok (.goto (-50), 3) := by decide +kernel
theorem dX13_ofRows_57 : decode cX13_ofRows 57 = .ok (.iload_n 2, 1) := by decide +kernel
theorem dX13_ofRows_58 : decode cX13_ofRows 58 = .ok (.ireturn, 1) := by decide +kernel
theorem dX13_count_0 : decode cX13_count 0 = .ok (.iload_n 1, 1) := by decide +kernel
theorem dX13_count_1 : decode cX13_count 1 = .ok (.tableswitch 118 0 9 #[55, 60, 69, 77, 77, 83, 90, 77, 99, 104], 55) := by decide +kernel
theorem dX13_count_56 : decode cX13_count 56 = .ok (.aload_n 0, 1) := by decide +kernel
theorem dX13_count_57 : decode cX13_count 57 = .ok (.invokevirtual 459, 3) := by decide +kernel
theorem dX13_count_60 : decode cX13_count 60 = .ok (.ireturn, 1) := by decide +kernel
theorem dX13_count_61 : decode cX13_count 61 = .ok (.aload_n 0, 1) := by decide +kernel
theorem dX13_count_62 : decode cX13_count 62 = .ok (.bipush (-3), 2) := by decide +kernel
theorem dX13_count_64 : decode cX13_count 64 = .ok (.bipush 32, 2) := by decide +kernel
theorem dX13_count_66 : decode cX13_count 66 = .ok (.invokevirtual 543, 3) := by decide +kernel
theorem dX13_count_69 : decode cX13_count 69 = .ok (.ireturn, 1) := by decide +kernel
theorem dX13_count_70 : decode cX13_count 70 = .ok (.aload_n 0, 1) := by decide +kernel
theorem dX13_count_71 : decode cX13_count 71 = .ok (.iconst 0, 1) := by decide +kernel
theorem dX13_count_72 : decode cX13_count 72 = .ok (.bipush 32, 2) := by decide +kernel
theorem dX13_count_74 : decode cX13_count 74 = .ok (.invokevirtual 543, 3) := by decide +kernel
theorem dX13_count_77 : decode cX13_count 77 = .ok (.ireturn, 1) := by decide +kernel
theorem dX13_count_78 : decode cX13_count 78 = .ok (.aload_n 0, 1) := by decide +kernel
theorem dX13_count_79 : decode cX13_count 79 = .ok (.iload_n 1, 1) := by decide +kernel
theorem dX13_count_80 : decode cX13_count 80 = .ok (.invokevirtual 546, 3) := by decide +kernel
theorem dX13_count_83 : decode cX13_count 83 = .ok (.ireturn, 1) := by decide +kernel
theorem dX13_count_84 : decode cX13_count 84 = .ok (.aload_n 0, 1) := by decide +kernel
theorem dX13_count_85 : decode cX13_count 85 = .ok (.iconst (-1), 1) := by decide +kernel
theorem dX13_count_86 : decode cX13_count 86 = .ok (.iconst (-1), 1) := by decide +kernel
theorem dX13_count_87 : decode cX13_count 87 = .ok (.invokevirtual 543, 3) := by decide +kernel
theorem dX13_count_90 : decode cX13_count 90 = .ok (.ireturn, 1) := by decide +kernel
theorem dX13_count_91 : decode cX13_count 91 = .ok (.aload_n 0, 1) := by decide +kernel
theorem dX13_count_92 : decode cX13_count 92 = .ok (.bipush (-3), 2) := by decide +kernel
theorem dX13_count_94 : decode cX13_count 94 = .ok (.bipush (-2), 2) := by decide +kernel
theorem dX13_count_96 : decode cX13_count 96 = .ok (.invokevirtual 543, 3) := by decide +kernel
theorem dX13_count_99 : decode cX13_count 99 = .ok (.ireturn, 1) := by decide +kernel
theorem dX13_count_100 : decode cX13_count 100 = .ok (.aload_n 0, 1) := by decide +kernel
theorem dX13_count_101 : decode cX13_count 101 = .ok (.getfield 466, 3) := by decide +kernel
theorem dX13_count_104 : decode cX13_count 104 = .ok (.ireturn, 1) := by decide +kernel
theorem dX13_count_105 : decode cX13_count 105 = .ok (.aload_n 0, 1) := by decide +kernel
theorem dX13_count_106 : decode cX13_count 106 = .ok (.getfield 70, 3) := by decide +kernel
theorem dX13_count_109 : decode cX13_count 109 = .ok (.iconst 0, 1) := by decide +kernel
theorem dX13_count_110 : decode cX13_count 110 = .ok (.iaload, 1) := by decide +kernel
theorem dX13_count_111 : decode cX13_count 111 = .ok (.aload_n 0, 1) := by decide +kernel
theorem dX13_count_112 : decode cX13_count 112 = .ok (.getfield 70, 3) := by decide +kernel
theorem dX13_count_115 : decode cX13_count 115 = .ok (.iconst 1, 1) := by decide +kernel
theorem dX13_count_116 : decode cX13_count 116 = .ok (.iaload, 1) := by decide +kernel
theorem dX13_count_117 : decode cX13_count 117 = .ok (.iadd, 1) := by decide +kernel
theorem dX13_count_118 : decode cX13_count 118 = .ok (.ireturn, 1) := by decide +kernel
theorem dX13_count_119 : decode cX13_count 119 = .ok (.iconst (-1), 1) := by decide +kernel
theorem dX13_count_120 : decode cX13_count 120 = .ok (.ireturn, 1) := by decide +kernel
theorem dX13_kinds_0 : decode cX13_kinds 0 = .ok (.iload_n 1, 1) := by decide +kernel
theorem dX13_kinds_1 : decode cX13_kinds 1 = .ok (.invokestatic 152, 3) := by decide +kernel
theorem dX13_kinds_4 : decode cX13_kinds 4 = .ok (.ifCond .ne 5, 3) := by decide +kernel
theorem dX13_kinds_7 : decode cX13_kinds 7 = .ok (.iconst (-1), 1) := by decide +kernel
theorem dX13_kinds_8 : decode cX13_kinds 8 = .ok (.ireturn, 1) := by decide +kernel
theorem dX13_kinds_9 : decode cX13_kinds 9 = .ok (.iconst 0, 1) := by decide +kernel
theorem dX13_kinds_10 : decode cX13_kinds 10 = .ok (.istore_n 2, 1) := by decide +kernel
theorem dX13_kinds_11 : decode cX13_kinds 11 = .ok (.iconst 0, 1) := by decide +kernel
theorem dX13_kinds_12 : decode cX13_kinds 12 = .ok (.istore_n 3, 1) := by decide +kernel
theorem dX13_kinds_13 : decode cX13_kinds 13 = .ok (.iload_n 3, 1) := by decide +kernel
theorem dX13_kinds_14 : decode cX13_kinds 14 = .ok (.bipush 32, 2) := by decide +kernel
theorem dX13_kinds_16 : decode cX13_kinds 16 = .ok (.if_icmp .ge 37, 3) := by decide +kernel
theorem dX13_kinds_19 : decode cX13_kinds 19 = .ok (.iload_n 2, 1) := by decide +kernel
theorem dX13_kinds_20 : decode cX13_kinds 20 = .ok (.aload_n 0, 1) := by decide +kernel
theorem dX13_kinds_21 : decode cX13_kinds 21 = .ok (.iload_n 3, 1) := by decide +kernel
theorem dX13_kinds_22 : decode cX13_kinds 22 = .ok (.invokevirtual 537, 3) := by decide +kernel
theorem dX13_kinds_25 : decode cX13_kinds 25 = .ok (.bipush (-9), 2) := by decide +kernel
theorem dX13_kinds_27 : decode cX13_kinds 27 = .ok (.if_icmp .eq 17, 3) := by decide +kernel
theorem dX13_kinds_30 : decode cX13_kinds 30 = .ok (.aload_n 0, 1) := by decide +kernel
theorem dX13_kinds_31 : decode cX13_kinds 31 = .ok (.getfield 23, 3) := by decide +kernel
theorem dX13_kinds_34 : decode cX13_kinds 34 = .ok (.iload_n 3, 1) := by decide +kernel
theorem dX13_kinds_35 : decode cX13_kinds 35 = .ok (.iaload, 1) := by decide +kernel
theorem dX13_kinds_36 : decode cX13_kinds 36 = .ok (.iload_n 1, 1) := by decide +kernel
theorem dX13_kinds_37 : decode cX13_kinds 37 = .ok (.if_icmp .ne 7, 3) := by decide +kernel
theorem dX13_kinds_40 : decode cX13_kinds 40 = .ok (.iconst 1, 1) := by decide +kernel
theorem dX13_kinds_41 : decode cX13_kinds 41 = .ok (.goto 4, 3) := by decide +kernel
theorem dX13_kinds_44 : decode cX13_kinds 44 = .ok (.iconst 0, 1) := by decide +kernel
theorem dX13_kinds_45 : decode cX13_kinds 45 = .ok (.iadd, 1) := by decide +kernel
theorem dX13_kinds_46 : decode cX13_kinds 46 = .ok (.istore_n 2, 1) := by decide +kernel
theorem dX13_kinds_47 : decode cX13_kinds 47 = .ok (.iinc 3 1, 3) := by decide +kernel
theorem dX13_kinds_50 : decode cX13_kinds 50 = .ok (.goto (-37), 3) := by decide +kernel
theorem dX13_kinds_53 : decode cX13_kinds 53 = .ok (.iload_n 2, 1) := by decide +kernel
theorem dX13_kinds_54 : decode cX13_kinds 54 = .ok (.ireturn, 1) := by decide +kernel
theorem dX13_rowDigest_0 : decode cX13_rowDigest 0 = .ok (.aload_n 0, 1) := by decide +kernel
theorem dX13_rowDigest_1 : decode cX13_rowDigest 1 = .ok (.iload_n 3, 1) := by decide +kernel
theorem dX13_rowDigest_2 : decode cX13_rowDigest 2 = .ok (.invokevirtual 537, 3) := by decide +kernel
theorem dX13_rowDigest_5 : decode cX13_rowDigest 5 = .ok (.istore 4, 2) := by decide +kernel
theorem dX13_rowDigest_7 : decode cX13_rowDigest 7 = .ok (.ldc2_w 549, 3) := by decide +kernel
theorem dX13_rowDigest_10 : decode cX13_rowDigest 10 = .ok (.lload_n 1, 1) := by decide +kernel
theorem dX13_rowDigest_11 : decode cX13_rowDigest 11 = .ok (.lmul, 1) := by decide +kernel
theorem dX13_rowDigest_12 : decode cX13_rowDigest 12 = .ok (.bipush 10, 2) := by decide +kernel
theorem dX13_rowDigest_14 : decode cX13_rowDigest 14 = .ok (.iload 4, 2) := by decide +kernel
theorem dX13_rowDigest_16 : decode cX13_rowDigest 16 = .ok (.bipush 6, 2) := by decide +kernel
theorem dX13_rowDigest_18 : decode cX13_rowDigest 18 = .ok (.idiv, 1) := by decide +kernel
theorem dX13_rowDigest_19 : decode cX13_rowDigest 19 = .ok (.imul, 1) := by decide +kernel
theorem dX13_rowDigest_20 : decode cX13_rowDigest 20 = .ok (.iload 4, 2) := by decide +kernel
theorem dX13_rowDigest_22 : decode cX13_rowDigest 22 = .ok (.bipush 6, 2) := by decide +kernel
theorem dX13_rowDigest_24 : decode cX13_rowDigest 24 = .ok (.irem, 1) := by decide +kernel
theorem dX13_rowDigest_25 : decode cX13_rowDigest 25 = .ok (.iadd, 1) := by decide +kernel
theorem dX13_rowDigest_26 : decode cX13_rowDigest 26 = .ok (.i2l, 1) := by decide +kernel
theorem dX13_rowDigest_27 : decode cX13_rowDigest 27 = .ok (.ladd, 1) := by decide +kernel
theorem dX13_rowDigest_28 : decode cX13_rowDigest 28 = .ok (.lstore 5, 2) := by decide +kernel
theorem dX13_rowDigest_30 : decode cX13_rowDigest 30 = .ok (.ldc2_w 549, 3) := by decide +kernel
theorem dX13_rowDigest_33 : decode cX13_rowDigest 33 = .ok (.lload 5, 2) := by decide +kernel
theorem dX13_rowDigest_35 : decode cX13_rowDigest 35 = .ok (.lmul, 1) := by decide +kernel
theorem dX13_rowDigest_36 : decode cX13_rowDigest 36 = .ok (.aload_n 0, 1) := by decide +kernel
theorem dX13_rowDigest_37 : decode cX13_rowDigest 37 = .ok (.getfield 26, 3) := by decide +kernel
theorem dX13_rowDigest_40 : decode cX13_rowDigest 40 = .ok (.iload_n 3, 1) := by decide +kernel
theorem dX13_rowDigest_41 : decode cX13_rowDigest 41 = .ok (.iaload, 1) := by decide +kernel
theorem dX13_rowDigest_42 : decode cX13_rowDigest 42 = .ok (.i2l, 1) := by decide +kernel
theorem dX13_rowDigest_43 : decode cX13_rowDigest 43 = .ok (.ladd, 1) := by decide +kernel
theorem dX13_rowDigest_44 : decode cX13_rowDigest 44 = .ok (.lstore 5, 2) := by decide +kernel
theorem dX13_rowDigest_46 : decode cX13_rowDigest 46 = .ok (.iconst 0, 1) := by decide +kernel
theorem dX13_rowDigest_47 : decode cX13_rowDigest 47 = .ok (.istore 7, 2) := by decide +kernel
theorem dX13_rowDigest_49 : decode cX13_rowDigest 49 = .ok (.iload 7, 2) := by decide +kernel
theorem dX13_rowDigest_51 : decode cX13_rowDigest 51 = .ok (.aload_n 0, 1) := by decide +kernel
theorem dX13_rowDigest_52 : decode cX13_rowDigest 52 = .ok (.getfield 26, 3) := by decide +kernel
theorem dX13_rowDigest_55 : decode cX13_rowDigest 55 = .ok (.iload_n 3, 1) := by decide +kernel
theorem dX13_rowDigest_56 : decode cX13_rowDigest 56 = .ok (.iaload, 1) := by decide +kernel
theorem dX13_rowDigest_57 : decode cX13_rowDigest 57 = .ok (.if_icmp .ge 43, 3) := by decide +kernel
theorem dX13_rowDigest_60 : decode cX13_rowDigest 60 = .ok (.aload_n 0, 1) := by decide +kernel
theorem dX13_rowDigest_61 : decode cX13_rowDigest 61 = .ok (.iload_n 3, 1) := by decide +kernel
theorem dX13_rowDigest_62 : decode cX13_rowDigest 62 = .ok (.iload 7, 2) := by decide +kernel
theorem dX13_rowDigest_64 : decode cX13_rowDigest 64 = .ok (.invokevirtual 236, 3) := by decide +kernel
theorem dX13_rowDigest_67 : decode cX13_rowDigest 67 = .ok (.ldc2_w 549, 3) := by decide +kernel
theorem dX13_rowDigest_70 : decode cX13_rowDigest 70 = .ok (.lload 5, 2) := by decide +kernel
theorem dX13_rowDigest_72 : decode cX13_rowDigest 72 = .ok (.lmul, 1) := by decide +kernel
theorem dX13_rowDigest_73 : decode cX13_rowDigest 73 = .ok (.aload_n 0, 1) := by decide +kernel
theorem dX13_rowDigest_74 : decode cX13_rowDigest 74 = .ok (.getfield 190, 3) := by decide +kernel
theorem dX13_rowDigest_77 : decode cX13_rowDigest 77 = .ok (.i2l, 1) := by decide +kernel
theorem dX13_rowDigest_78 : decode cX13_rowDigest 78 = .ok (.ladd, 1) := by decide +kernel
theorem dX13_rowDigest_79 : decode cX13_rowDigest 79 = .ok (.lstore 5, 2) := by decide +kernel
theorem dX13_rowDigest_81 : decode cX13_rowDigest 81 = .ok (.ldc2_w 549, 3) := by decide +kernel
theorem dX13_rowDigest_84 : decode cX13_rowDigest 84 = .ok (.lload 5, 2) := by decide +kernel
theorem dX13_rowDigest_86 : decode cX13_rowDigest 86 = .ok (.lmul, 1) := by decide +kernel
theorem dX13_rowDigest_87 : decode cX13_rowDigest 87 = .ok (.aload_n 0, 1) := by decide +kernel
theorem dX13_rowDigest_88 : decode cX13_rowDigest 88 = .ok (.invokevirtual 239, 3) := by decide +kernel
theorem dX13_rowDigest_91 : decode cX13_rowDigest 91 = .ok (.ladd, 1) := by decide +kernel
theorem dX13_rowDigest_92 : decode cX13_rowDigest 92 = .ok (.lstore 5, 2) := by decide +kernel
theorem dX13_rowDigest_94 : decode cX13_rowDigest 94 = .ok (.iinc 7 1, 3) := by decide +kernel
theorem dX13_rowDigest_97 : decode cX13_rowDigest 97 = .ok (.goto (-48), 3) := by decide +kernel
theorem dX13_rowDigest_100 : decode cX13_rowDigest 100 = .ok (.lload 5, 2) := by decide +kernel
theorem dX13_rowDigest_102 : decode cX13_rowDigest 102 = .ok (.lreturn, 1) := by decide +kernel
theorem dX13_digest_0 : decode cX13_digest 0 = .ok (.ldc2_w 551, 3) := by decide +kernel
theorem dX13_digest_3 : decode cX13_digest 3 = .ok (.lstore_n 1, 1) := by decide +kernel
theorem dX13_digest_4 : decode cX13_digest 4 = .ok (.iconst 0, 1) := by decide +kernel
theorem dX13_digest_5 : decode cX13_digest 5 = .ok (.istore_n 3, 1) := by decide +kernel
theorem dX13_digest_6 : decode cX13_digest 6 = .ok (.iload_n 3, 1) := by decide +kernel
theorem dX13_digest_7 : decode cX13_digest 7 = .ok (.iconst 4, 1) := by decide +kernel
theorem dX13_digest_8 : decode cX13_digest 8 = .ok (.if_icmp .ge 85, 3) := by decide +kernel
theorem dX13_digest_11 : decode cX13_digest 11 = .ok (.ldc2_w 549, 3) := by decide +kernel
theorem dX13_digest_14 : decode cX13_digest 14 = .ok (.lload_n 1, 1) := by decide +kernel
theorem dX13_digest_15 : decode cX13_digest 15 = .ok (.lmul, 1) := by decide +kernel
theorem dX13_digest_16 : decode cX13_digest 16 = .ok (.aload_n 0, 1) := by decide +kernel
theorem dX13_digest_17 : decode cX13_digest 17 = .ok (.getfield 17, 3) := by decide +kernel
theorem dX13_digest_20 : decode cX13_digest 20 = .ok (.iload_n 3, 1) := by decide +kernel
theorem dX13_digest_21 : decode cX13_digest 21 = .ok (.iaload, 1) := by decide +kernel
theorem dX13_digest_22 : decode cX13_digest 22 = .ok (.i2l, 1) := by decide +kernel
theorem dX13_digest_23 : decode cX13_digest 23 = .ok (.ladd, 1) := by decide +kernel
theorem dX13_digest_24 : decode cX13_digest 24 = .ok (.lstore_n 1, 1) := by decide +kernel
theorem dX13_digest_25 : decode cX13_digest 25 = .ok (.iconst 0, 1) := by decide +kernel
theorem dX13_digest_26 : decode cX13_digest 26 = .ok (.istore 4, 2) := by decide +kernel
theorem dX13_digest_28 : decode cX13_digest 28 = .ok (.iload 4, 2) := by decide +kernel
theorem dX13_digest_30 : decode cX13_digest 30 = .ok (.aload_n 0, 1) := by decide +kernel
theorem dX13_digest_31 : decode cX13_digest 31 = .ok (.getfield 17, 3) := by decide +kernel
theorem dX13_digest_34 : decode cX13_digest 34 = .ok (.iload_n 3, 1) := by decide +kernel
theorem dX13_digest_35 : decode cX13_digest 35 = .ok (.iaload, 1) := by decide +kernel
theorem dX13_digest_36 : decode cX13_digest 36 = .ok (.if_icmp .ge 51, 3) := by decide +kernel
theorem dX13_digest_39 : decode cX13_digest 39 = .ok (.ldc2_w 549, 3) := by decide +kernel
theorem dX13_digest_42 : decode cX13_digest 42 = .ok (.lload_n 1, 1) := by decide +kernel
theorem dX13_digest_43 : decode cX13_digest 43 = .ok (.lmul, 1) := by decide +kernel
theorem dX13_digest_44 : decode cX13_digest 44 = .ok (.aload_n 0, 1) := by decide +kernel
theorem dX13_digest_45 : decode cX13_digest 45 = .ok (.iload_n 3, 1) := by decide +kernel
theorem dX13_digest_46 : decode cX13_digest 46 = .ok (.iload 4, 2) := by decide +kernel
theorem dX13_digest_48 : decode cX13_digest 48 = .ok (.invokevirtual 169, 3) := by decide +kernel
theorem dX13_digest_51 : decode cX13_digest 51 = .ok (.i2l, 1) := by decide +kernel
theorem dX13_digest_52 : decode cX13_digest 52 = .ok (.ladd, 1) := by decide +kernel
theorem dX13_digest_53 : decode cX13_digest 53 = .ok (.lstore_n 1, 1) := by decide +kernel
theorem dX13_digest_54 : decode cX13_digest 54 = .ok (.aload_n 0, 1) := by decide +kernel
theorem dX13_digest_55 : decode cX13_digest 55 = .ok (.iload_n 3, 1) := by decide +kernel
theorem dX13_digest_56 : decode cX13_digest 56 = .ok (.iload 4, 2) := by decide +kernel
theorem dX13_digest_58 : decode cX13_digest 58 = .ok (.invokevirtual 128, 3) := by decide +kernel
theorem dX13_digest_61 : decode cX13_digest 61 = .ok (.ifCond .lt 18, 3) := by decide +kernel
theorem dX13_digest_64 : decode cX13_digest 64 = .ok (.aload_n 0, 1) := by decide +kernel
theorem dX13_digest_65 : decode cX13_digest 65 = .ok (.lload_n 1, 1) := by decide +kernel
theorem dX13_digest_66 : decode cX13_digest 66 = .ok (.aload_n 0, 1) := by decide +kernel
theorem dX13_digest_67 : decode cX13_digest 67 = .ok (.iload_n 3, 1) := by decide +kernel
theorem dX13_digest_68 : decode cX13_digest 68 = .ok (.iload 4, 2) := by decide +kernel
theorem dX13_digest_70 : decode cX13_digest 70 = .ok (.invokevirtual 128, 3) := by decide +kernel
theorem dX13_digest_73 : decode cX13_digest 73 = .ok (.invokevirtual 553, 3) := by decide +kernel
theorem dX13_digest_76 : decode cX13_digest 76 = .ok (.goto 4, 3) := by decide +kernel
theorem dX13_digest_79 : decode cX13_digest 79 = .ok (.lload_n 1, 1) := by decide +kernel
theorem dX13_digest_80 : decode cX13_digest 80 = .ok (.lstore_n 1, 1) := by decide +kernel
theorem dX13_digest_81 : decode cX13_digest 81 = .ok (.iinc 4 1, 3) := by decide +kernel
theorem dX13_digest_84 : decode cX13_digest 84 = .ok (.goto (-56), 3) := by decide +kernel
theorem dX13_digest_87 : decode cX13_digest 87 = .ok (.iinc 3 1, 3) := by decide +kernel
theorem dX13_digest_90 : decode cX13_digest 90 = .ok (.goto (-84), 3) := by decide +kernel
theorem dX13_digest_93 : decode cX13_digest 93 = .ok (.lload_n 1, 1) := by decide +kernel
theorem dX13_digest_94 : decode cX13_digest 94 = .ok (.lreturn, 1) := by decide +kernel
theorem dX2_init_0 : decode cX2_init 0 = .ok (.aload_n 0, 1) := by decide +kernel
theorem dX2_init_1 : decode cX2_init 1 = .ok (.invokespecial 3, 3) := by decide +kernel
theorem dX2_init_4 : decode cX2_init 4 = .ok (.aload_n 0, 1) := by decide +kernel
theorem dX2_init_5 : decode cX2_init 5 = .ok (.lconst 0, 1) := by decide +kernel
theorem dX2_init_6 : decode cX2_init 6 = .ok (.putfield 9, 3) := by decide +kernel
theorem dX2_init_9 : decode cX2_init 9 = .ok (.aload_n 0, 1) := by decide +kernel
theorem dX2_init_10 : decode cX2_init 10 = .ok (.bipush (-9), 2) := by decide +kernel
theorem dX2_init_12 : decode cX2_init 12 = .ok (.putfield 15, 3) := by decide +kernel
theorem dX2_init_15 : decode cX2_init 15 = .ok (.aload_n 0, 1) := by decide +kernel
theorem dX2_init_16 : decode cX2_init 16 = .ok (.iconst 0, 1) := by decide +kernel
theorem dX2_init_17 : decode cX2_init 17 = .ok (.putfield 19, 3) := by decide +kernel
theorem dX2_init_20 : decode cX2_init 20 = .ok (.return_, 1) := by decide +kernel
theorem dX3_init_0 : decode cX3_init 0 = .ok (.aload_n 0, 1) := by decide +kernel
theorem dX3_init_1 : decode cX3_init 1 = .ok (.invokespecial 3, 3) := by decide +kernel
theorem dX3_init_4 : decode cX3_init 4 = .ok (.aload_n 0, 1) := by decide +kernel
theorem dX3_init_5 : decode cX3_init 5 = .ok (.bipush 80, 2) := by decide +kernel
theorem dX3_init_7 : decode cX3_init 7 = .ok (.newarray .char, 2) := by decide +kernel
theorem dX3_init_9 : decode cX3_init 9 = .ok (.putfield 9, 3) := by decide +kernel
theorem dX3_init_12 : decode cX3_init 12 = .ok (.aload_n 0, 1) := by decide +kernel
theorem dX3_init_13 : decode cX3_init 13 = .ok (.iconst 0, 1) := by decide +kernel
theorem dX3_init_14 : decode cX3_init 14 = .ok (.putfield 15, 3) := by decide +kernel
theorem dX3_init_17 : decode cX3_init 17 = .ok (.aload_n 0, 1) := by decide +kernel
theorem dX3_init_18 : decode cX3_init 18 = .ok (.bipush 8, 2) := by decide +kernel
theorem dX3_init_20 : decode cX3_init 20 = .ok (.newarray .int, 2) := by decide +kernel
theorem dX3_init_22 : decode cX3_init 22 = .ok (.putfield 19, 3) := by decide +kernel
theorem dX3_init_25 : decode cX3_init 25 = .ok (.aload_n 0, 1) := by decide +kernel
theorem dX3_init_26 : decode cX3_init 26 = .ok (.bipush 40, 2) := by decide +kernel
theorem dX3_init_28 : decode cX3_init 28 = .ok (.newarray .int, 2) := by decide +kernel
theorem dX3_init_30 : decode cX3_init 30 = .ok (.putfield 23, 3) := by decide +kernel
theorem dX3_init_33 : decode cX3_init 33 = .ok (.return_, 1) := by decide +kernel
theorem dX3_append_0 : decode cX3_append 0 = .ok (.iload_n 1, 1) := by decide +kernel
theorem dX3_append_1 : decode cX3_append 1 = .ok (.ifCond .lt 10, 3) := by decide +kernel
theorem dX3_append_4 : decode cX3_append 4 = .ok (.iload_n 1, 1) := by decide +kernel
theorem dX3_append_5 : decode cX3_append 5 = .ok (.sipush 255, 3) := by decide +kernel
theorem dX3_append_8 : decode cX3_append 8 = .ok (.if_icmp .le 5, 3) := by decide +kernel
theorem dX3_append_11 : decode cX3_append 11 = .ok (.iconst (-1), 1) := by decide +kernel
theorem dX3_append_12 : decode cX3_append 12 = .ok (.ireturn, 1) := by decide +kernel
theorem dX3_append_13 : decode cX3_append 13 = .ok (.aload_n 0, 1) := by decide +kernel
theorem dX3_append_14 : decode cX3_append 14 = .ok (.getfield 15, 3) := by decide +kernel
theorem dX3_append_17 : decode cX3_append 17 = .ok (.bipush 80, 2) := by decide +kernel
theorem dX3_append_19 : decode cX3_append 19 = .ok (.if_icmp .ne 6, 3) := by decide +kernel
theorem dX3_append_22 : decode cX3_append 22 = .ok (.bipush (-10), 2) := by decide +kernel
theorem dX3_append_24 : decode cX3_append 24 = .ok (.ireturn, 1) := by decide +kernel
theorem dX3_append_25 : decode cX3_append 25 = .ok (.aload_n 0, 1) := by decide +kernel
theorem dX3_append_26 : decode cX3_append 26 = .ok (.getfield 9, 3) := by decide +kernel
theorem dX3_append_29 : decode cX3_append 29 = .ok (.aload_n 0, 1) := by decide +kernel
theorem dX3_append_30 : decode cX3_append 30 = .ok (.getfield 15, 3) := by decide +kernel
theorem dX3_append_33 : decode cX3_append 33 = .ok (.iload_n 1, 1) := by decide +kernel
theorem dX3_append_34 : decode cX3_append 34 = .ok (.i2c, 1) := by decide +kernel
theorem dX3_append_35 : decode cX3_append 35 = .ok (.castore, 1) := by decide +kernel
theorem dX3_append_36 : decode cX3_append 36 = .ok (.aload_n 0, 1) := by decide +kernel
theorem dX3_append_37 : decode cX3_append 37 = .ok (.dup, 1) := by decide +kernel
theorem dX3_append_38 : decode cX3_append 38 = .ok (.getfield 15, 3) := by decide +kernel
theorem dX3_append_41 : decode cX3_append 41 = .ok (.iconst 1, 1) := by decide +kernel
theorem dX3_append_42 : decode cX3_append 42 = .ok (.iadd, 1) := by decide +kernel
theorem dX3_append_43 : decode cX3_append 43 = .ok (.putfield 15, 3) := by decide +kernel
theorem dX3_append_46 : decode cX3_append 46 = .ok (.aload_n 0, 1) := by decide +kernel
theorem dX3_append_47 : decode cX3_append 47 = .ok (.getfield 15, 3) := by decide +kernel
theorem dX3_append_50 : decode cX3_append 50 = .ok (.ireturn, 1) := by decide +kernel
theorem dX3_empty_0 : decode cX3_empty 0 = .ok (.aload_n 0, 1) := by decide +kernel
theorem dX3_empty_1 : decode cX3_empty 1 = .ok (.getfield 15, 3) := by decide +kernel
theorem dX3_empty_4 : decode cX3_empty 4 = .ok (.istore_n 1, 1) := by decide +kernel
theorem dX3_empty_5 : decode cX3_empty 5 = .ok (.aload_n 0, 1) := by decide +kernel
theorem dX3_empty_6 : decode cX3_empty 6 = .ok (.iconst 0, 1) := by decide +kernel
theorem dX3_empty_7 : decode cX3_empty 7 = .ok (.putfield 15, 3) := by decide +kernel
theorem dX3_empty_10 : decode cX3_empty 10 = .ok (.iload_n 1, 1) := by decide +kernel
theorem dX3_empty_11 : decode cX3_empty 11 = .ok (.ireturn, 1) := by decide +kernel
theorem dX3_wordOf_0 : decode cX3_wordOf 0 = .ok (.getstatic 26, 3) := by decide +kernel
theorem dX3_wordOf_3 : decode cX3_wordOf 3 = .ok (.aload_n 0, 1) := by decide +kernel
theorem dX3_wordOf_4 : decode cX3_wordOf 4 = .ok (.getfield 19, 3) := by decide +kernel
theorem dX3_wordOf_7 : decode cX3_wordOf 7 = .ok (.iload_n 1, 1) := by decide +kernel
theorem dX3_wordOf_8 : decode cX3_wordOf 8 = .ok (.iaload, 1) := by decide +kernel
theorem dX3_wordOf_9 : decode cX3_wordOf 9 = .ok (.aaload, 1) := by decide +kernel
theorem dX3_wordOf_10 : decode cX3_wordOf 10 = .ok (.areturn, 1) := by decide +kernel
theorem dX3_numberOf_0 : decode cX3_numberOf 0 = .ok (.aload_n 0, 1) := by decide +kernel
theorem dX3_numberOf_1 : decode cX3_numberOf 1 = .ok (.getfield 23, 3) := by decide +kernel
theorem dX3_numberOf_4 : decode cX3_numberOf 4 = .ok (.iload_n 1, 1) := by decide +kernel
theorem dX3_numberOf_5 : decode cX3_numberOf 5 = .ok (.iconst 5, 1) := by decide +kernel
theorem dX3_numberOf_6 : decode cX3_numberOf 6 = .ok (.imul, 1) := by decide +kernel
theorem dX3_numberOf_7 : decode cX3_numberOf 7 = .ok (.iload_n 2, 1) := by decide +kernel
theorem dX3_numberOf_8 : decode cX3_numberOf 8 = .ok (.iadd, 1) := by decide +kernel
theorem dX3_numberOf_9 : decode cX3_numberOf 9 = .ok (.iaload, 1) := by decide +kernel
theorem dX3_numberOf_10 : decode cX3_numberOf 10 = .ok (.ireturn, 1) := by decide +kernel
theorem dX3_parse_0 : decode cX3_parse 0 = .ok (.iconst 0, 1) := by decide +kernel
theorem dX3_parse_1 : decode cX3_parse 1 = .ok (.istore_n 1, 1) := by decide +kernel
theorem dX3_parse_2 : decode cX3_parse 2 = .ok (.aload_n 0, 1) := by decide +kernel
theorem dX3_parse_3 : decode cX3_parse 3 = .ok (.iconst 0, 1) := by decide +kernel
theorem dX3_parse_4 : decode cX3_parse 4 = .ok (.invokevirtual 30, 3) := by decide +kernel
theorem dX3_parse_7 : decode cX3_parse 7 = .ok (.istore_n 2, 1) := by decide +kernel
theorem dX3_parse_8 : decode cX3_parse 8 = .ok (.iload_n 1, 1) := by decide +kernel
theorem dX3_parse_9 : decode cX3_parse 9 = .ok (.bipush 8, 2) := by decide +kernel
theorem dX3_parse_11 : decode cX3_parse 11 = .ok (.if_icmp .ge 156, 3) := by decide +kernel
theorem dX3_parse_14 : decode cX3_parse 14 = .ok (.iload_n 2, 1) := by decide +kernel
theorem dX3_parse_15 : decode cX3_parse 15 = .ok (.aload_n 0, 1) := by decide +kernel
theorem dX3_parse_16 : decode cX3_parse 16 = .ok (.getfield 15, 3) := by decide +kernel
theorem dX3_parse_19 : decode cX3_parse 19 = .ok (.if_icmp .ge 148, 3) := by decide +kernel
theorem dX3_parse_22 : decode cX3_parse 22 = .ok (.aload_n 0, 1) := by decide +kernel
theorem dX3_parse_23 : decode cX3_parse 23 = .ok (.iload_n 2, 1) := by decide +kernel
theorem dX3_parse_24 : decode cX3_parse 24 = .ok (.invokevirtual 34, 3) := by decide +kernel
theorem dX3_parse_27 : decode cX3_parse 27 = .ok (.istore_n 3, 1) := by decide +kernel
theorem dX3_parse_28 : decode cX3_parse 28 = .ok (.iload_n 3, 1) := by decide +kernel
theorem dX3_parse_29 : decode cX3_parse 29 = .ok (.bipush (-9), 2) := by decide +kernel
theorem dX3_parse_31 : decode cX3_parse 31 = .ok (.if_icmp .ne 8, 3) := by decide +kernel
theorem dX3_parse_34 : decode cX3_parse 34 = .ok (.bipush (-20), 2) := by decide +kernel
theorem dX3_parse_36 : decode cX3_parse 36 = .ok (.iload_n 2, 1) := by decide +kernel
theorem dX3_parse_37 : decode cX3_parse 37 = .ok (.isub, 1) := by decide +kernel
theorem dX3_parse_38 : decode cX3_parse 38 = .ok (.ireturn, 1) := by decide +kernel
theorem dX3_parse_39 : decode cX3_parse 39 = .ok (.aload_n 0, 1) := by decide +kernel
theorem dX3_parse_40 : decode cX3_parse 40 = .ok (.getfield 19, 3) := by decide +kernel
theorem dX3_parse_43 : decode cX3_parse 43 = .ok (.iload_n 1, 1) := by decide +kernel
theorem dX3_parse_44 : decode cX3_parse 44 = .ok (.iload_n 3, 1) := by decide +kernel
theorem dX3_parse_45 : decode cX3_parse 45 = .ok (.iastore, 1) := by decide +kernel
theorem dX3_parse_46 : decode cX3_parse 46 = .ok (.aload_n 0, 1) := by decide +kernel
theorem dX3_parse_47 : decode cX3_parse 47 = .ok (.aload_n 0, 1) := by decide +kernel
theorem dX3_parse_48 : decode cX3_parse 48 = .ok (.iload_n 2, 1) := by decide +kernel
theorem dX3_parse_49 : decode cX3_parse 49 = .ok (.invokevirtual 37, 3) := by decide +kernel
theorem dX3_parse_52 : decode cX3_parse 52 = .ok (.invokevirtual 30, 3) := by decide +kernel
theorem dX3_parse_55 : decode cX3_parse 55 = .ok (.istore_n 2, 1) := by decide +kernel
theorem dX3_parse_56 : decode cX3_parse 56 = .ok (.iconst 0, 1) := by decide +kernel
theorem dX3_parse_57 : decode cX3_parse 57 = .ok (.istore 4, 2) := by decide +kernel
theorem dX3_parse_59 : decode cX3_parse 59 = .ok (.iload 4, 2) := by decide +kernel
theorem dX3_parse_61 : decode cX3_parse 61 = .ok (.getstatic 26, 3) := by decide +kernel
theorem dX3_parse_64 : decode cX3_parse 64 = .ok (.iload_n 3, 1) := by decide +kernel
theorem dX3_parse_65 : decode cX3_parse 65 = .ok (.aaload, 1) := by decide +kernel
theorem dX3_parse_66 : decode cX3_parse 66 = .ok (.getfield 40, 3) := by decide +kernel
theorem dX3_parse_69 : decode cX3_parse 69 = .ok (.if_icmp .ge 60, 3) := by decide +kernel
theorem dX3_parse_72 : decode cX3_parse 72 = .ok (.aload_n 0, 1) := by decide +kernel
theorem dX3_parse_73 : decode cX3_parse 73 = .ok (.iload_n 2, 1) := by decide +kernel
theorem dX3_parse_74 : decode cX3_parse 74 = .ok (.invokevirtual 44, 3) := by decide +kernel
theorem dX3_parse_77 : decode cX3_parse 77 = .ok (.istore 5, 2) := by decide +kernel
theorem dX3_parse_79 : decode cX3_parse 79 = .ok (.iload 5, 2) := by decide +kernel
theorem dX3_parse_81 : decode cX3_parse 81 = .ok (.iload_n 2, 1) := by decide +kernel
theorem dX3_parse_82 : decode cX3_parse 82 = .ok (.if_icmp .eq 11, 3) := by decide +kernel
theorem dX3_parse_85 : decode cX3_parse 85 = .ok (.iload 5, 2) := by decide +kernel
theorem dX3_parse_87 : decode cX3_parse 87 = .ok (.iload_n 2, 1) := by decide +kernel
theorem dX3_parse_88 : decode cX3_parse 88 = .ok (.iconst 2, 1) := by decide +kernel
theorem dX3_parse_89 : decode cX3_parse 89 = .ok (.iadd, 1) := by decide +kernel
theorem dX3_parse_90 : decode cX3_parse 90 = .ok (.if_icmp .le 8, 3) := by decide +kernel
theorem dX3_parse_93 : decode cX3_parse 93 = .ok (.bipush (-20), 2) := by decide +kernel
theorem dX3_parse_95 : decode cX3_parse 95 = .ok (.iload_n 2, 1) := by decide +kernel
theorem dX3_parse_96 : decode cX3_parse 96 = .ok (.isub, 1) := by decide +kernel
theorem dX3_parse_97 : decode cX3_parse 97 = .ok (.ireturn, 1) := by decide +kernel
theorem dX3_parse_98 : decode cX3_parse 98 = .ok (.aload_n 0, 1) := by decide +kernel
theorem dX3_parse_99 : decode cX3_parse 99 = .ok (.getfield 23, 3) := by decide +kernel
theorem dX3_parse_102 : decode cX3_parse 102 = .ok (.iload_n 1, 1) := by decide +kernel
theorem dX3_parse_103 : decode cX3_parse 103 = .ok (.iconst 5, 1) := by decide +kernel
theorem dX3_parse_104 : decode cX3_parse 104 = .ok (.imul, 1) := by decide +kernel
theorem dX3_parse_105 : decode cX3_parse 105 = .ok (.iload 4, 2) := by decide +kernel
theorem dX3_parse_107 : decode cX3_parse 107 = .ok (.iadd, 1) := by decide +kernel
theorem dX3_parse_108 : decode cX3_parse 108 = .ok (.aload_n 0, 1) := by decide +kernel
theorem dX3_parse_109 : decode cX3_parse 109 = .ok (.iload_n 2, 1) := by decide +kernel
theorem dX3_parse_110 : decode cX3_parse 110 = .ok (.iload 5, 2) := by decide +kernel
theorem dX3_parse_112 : decode cX3_parse 112 = .ok (.invokevirtual 47, 3) := by decide +kernel
theorem dX3_parse_115 : decode cX3_parse 115 = .ok (.iastore, 1) := by decide +kernel
theorem dX3_parse_116 : decode cX3_parse 116 = .ok (.aload_n 0, 1) := by decide +kernel
theorem dX3_parse_117 : decode cX3_parse 117 = .ok (.iload 5, 2) := by decide +kernel
theorem dX3_parse_119 : decode cX3_parse 119 = .ok (.invokevirtual 30, 3) := by decide +kernel
theorem dX3_parse_122 : decode cX3_parse 122 = .ok (.istore_n 2, 1) := by decide +kernel
theorem dX3_parse_123 : decode cX3_parse 123 = .ok (.iinc 4 1, 3) := by decide +kernel
theorem dX3_parse_126 : decode cX3_parse 126 = .ok (.goto (-67), 3) := by decide +kernel
theorem dX3_parse_129 : decode cX3_parse 129 = .ok (.iload_n 2, 1) := by decide +kernel
theorem dX3_parse_130 : decode cX3_parse 130 = .ok (.aload_n 0, 1) := by decide +kernel
theorem dX3_parse_131 : decode cX3_parse 131 = .ok (.getfield 15, 3) := by decide +kernel
theorem dX3_parse_134 : decode cX3_parse 134 = .ok (.if_icmp .eq 14, 3) := by decide +kernel
theorem dX3_parse_137 : decode cX3_parse 137 = .ok (.aload_n 0, 1) := by decide +kernel
theorem dX3_parse_138 : decode cX3_parse 138 = .ok (.getfield 9, 3) := by decide +kernel
theorem dX3_parse_141 : decode cX3_parse 141 = .ok (.iload_n 2, 1) := by decide +kernel
theorem dX3_parse_142 : decode cX3_parse 142 = .ok (.caload, 1) := by decide +kernel
theorem dX3_parse_143 : decode cX3_parse 143 = .ok (.bipush 59, 2) := by decide +kernel
theorem dX3_parse_145 : decode cX3_parse 145 = .ok (.if_icmp .eq 8, 3) := by decide +kernel
theorem dX3_parse_148 : decode cX3_parse 148 = .ok (.bipush (-20), 2) := by decide +kernel
theorem dX3_parse_150 : decode cX3_parse 150 = .ok (.iload_n 2, 1) := by decide +kernel
theorem dX3_parse_151 : decode cX3_parse 151 = .ok (.isub, 1) := by decide +kernel
theorem dX3_parse_152 : decode cX3_parse 152 = .ok (.ireturn, 1) := by decide +kernel
theorem dX3_parse_153 : decode cX3_parse 153 = .ok (.aload_n 0, 1) := by decide +kernel
theorem dX3_parse_154 : decode cX3_parse 154 = .ok (.iload_n 2, 1) := by decide +kernel
theorem dX3_parse_155 : decode cX3_parse 155 = .ok (.iconst 1, 1) := by decide +kernel
theorem dX3_parse_156 : decode cX3_parse 156 = .ok (.iadd, 1) := by decide +kernel
theorem dX3_parse_157 : decode cX3_parse 157 = .ok (.invokevirtual 30, 3) := by decide +kernel
theorem dX3_parse_160 : decode cX3_parse 160 = .ok (.istore_n 2, 1) := by decide +kernel
theorem dX3_parse_161 : decode cX3_parse 161 = .ok (.iinc 1 1, 3) := by decide +kernel
theorem dX3_parse_164 : decode cX3_parse 164 = .ok (.goto (-156), 3) := by decide +kernel
theorem dX3_parse_167 : decode cX3_parse 167 = .ok (.iload_n 2, 1) := by decide +kernel
theorem dX3_parse_168 : decode cX3_parse 168 = .ok (.aload_n 0, 1) := by decide +kernel
theorem dX3_parse_169 : decode cX3_parse 169 = .ok (.getfield 15, 3) := by decide +kernel
theorem dX3_parse_172 : decode cX3_parse 172 = .ok (.if_icmp .ne 7, 3) := by decide +kernel
theorem dX3_parse_175 : decode cX3_parse 175 = .ok (.iload_n 1, 1) := by decide +kernel
theorem dX3_parse_176 : decode cX3_parse 176 = .ok (.goto 7, 3) := by decide +kernel
theorem dX3_parse_179 : decode cX3_parse 179 = .ok (.bipush (-20), 2) := by decide +kernel
theorem dX3_parse_181 : decode cX3_parse 181 = .ok (.iload_n 2, 1) := by decide +kernel
theorem dX3_parse_182 : decode cX3_parse 182 = .ok (.isub, 1) := by decide +kernel
theorem dX3_parse_183 : decode cX3_parse 183 = .ok (.ireturn, 1) := by decide +kernel
theorem dX3_wordAt_0 : decode cX3_wordAt 0 = .ok (.aload_n 0, 1) := by decide +kernel
theorem dX3_wordAt_1 : decode cX3_wordAt 1 = .ok (.iload_n 1, 1) := by decide +kernel
theorem dX3_wordAt_2 : decode cX3_wordAt 2 = .ok (.invokevirtual 37, 3) := by decide +kernel
theorem dX3_wordAt_5 : decode cX3_wordAt 5 = .ok (.iload_n 1, 1) := by decide +kernel
theorem dX3_wordAt_6 : decode cX3_wordAt 6 = .ok (.isub, 1) := by decide +kernel
theorem dX3_wordAt_7 : decode cX3_wordAt 7 = .ok (.istore_n 2, 1) := by decide +kernel
theorem dX3_wordAt_8 : decode cX3_wordAt 8 = .ok (.iconst 0, 1) := by decide +kernel
theorem dX3_wordAt_9 : decode cX3_wordAt 9 = .ok (.istore_n 3, 1) := by decide +kernel
theorem dX3_wordAt_10 : decode cX3_wordAt 10 = .ok (.iload_n 3, 1) := by decide +kernel
theorem dX3_wordAt_11 : decode cX3_wordAt 11 = .ok (.getstatic 26, 3) := by decide +kernel
theorem dX3_wordAt_14 : decode cX3_wordAt 14 = .ok (.arraylength, 1) := by decide +kernel
theorem dX3_wordAt_15 : decode cX3_wordAt 15 = .ok (.if_icmp .ge 42, 3) := by decide +kernel
theorem dX3_wordAt_18 : decode cX3_wordAt 18 = .ok (.getstatic 26, 3) := by decide +kernel
theorem dX3_wordAt_21 : decode cX3_wordAt 21 = .ok (.iload_n 3, 1) := by decide +kernel
theorem dX3_wordAt_22 : decode cX3_wordAt 22 = .ok (.aaload, 1) := by decide +kernel
theorem dX3_wordAt_23 : decode cX3_wordAt 23 = .ok (.getfield 51, 3) := by decide +kernel
theorem dX3_wordAt_26 : decode cX3_wordAt 26 = .ok (.invokevirtual 55, 3) := by decide +kernel
theorem dX3_wordAt_29 : decode cX3_wordAt 29 = .ok (.iload_n 2, 1) := by decide +kernel
theorem dX3_wordAt_30 : decode cX3_wordAt 30 = .ok (.if_icmp .ne 21, 3) := by decide +kernel
theorem dX3_wordAt_33 : decode cX3_wordAt 33 = .ok (.aload_n 0, 1) := by decide +kernel
theorem dX3_wordAt_34 : decode cX3_wordAt 34 = .ok (.getstatic 26, 3) := by decide +kernel
theorem dX3_wordAt_37 : decode cX3_wordAt 37 = .ok (.iload_n 3, 1) := by decide +kernel
theorem dX3_wordAt_38 : decode cX3_wordAt 38 = .ok (.aaload, 1) := by decide +kernel
theorem dX3_wordAt_39 : decode cX3_wordAt 39 = .ok (.getfield 51, 3) := by decide +kernel
theorem dX3_wordAt_42 : decode cX3_wordAt 42 = .ok (.iload_n 1, 1) := by decide +kernel
theorem dX3_wordAt_43 : decode cX3_wordAt 43 = .ok (.invokevirtual 60, 3) := by decide +kernel
theorem dX3_wordAt_46 : decode cX3_wordAt 46 = .ok (.ifCond .eq 5, 3) := by decide +kernel
theorem dX3_wordAt_49 : decode cX3_wordAt 49 = .ok (.iload_n 3, 1) := by decide +kernel
theorem dX3_wordAt_50 : decode cX3_wordAt 50 = .ok (.ireturn, 1) := by decide +kernel
theorem dX3_wordAt_51 : decode cX3_wordAt 51 = .ok (.iinc 3 1, 3) := by decide +kernel
theorem dX3_wordAt_54 : decode cX3_wordAt 54 = .ok (.goto (-44), 3) := by decide +kernel
theorem dX3_wordAt_57 : decode cX3_wordAt 57 = .ok (.bipush (-9), 2) := by decide +kernel
theorem dX3_wordAt_59 : decode cX3_wordAt 59 = .ok (.ireturn, 1) := by decide +kernel
theorem dX3_standsAt_0 : decode cX3_standsAt 0 = .ok (.iconst 0, 1) := by decide +kernel
theorem dX3_standsAt_1 : decode cX3_standsAt 1 = .ok (.istore_n 3, 1) := by decide +kernel
