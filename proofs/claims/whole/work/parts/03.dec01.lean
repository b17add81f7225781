theorem dJ0_length_8abf5_0 : decode cJ0_length_8abf5 0 = .ok (.aload_n 0, 1) := by decide +kernel
theorem dJ0_length_8abf5_1 : decode cJ0_length_8abf5 1 = .ok (.getfield 9, 3) := by decide +kernel
theorem dJ0_length_8abf5_4 : decode cJ0_length_8abf5 4 = .ok (.arraylength, 1) := by decide +kernel
theorem dJ0_length_8abf5_5 : decode cJ0_length_8abf5 5 = .ok (.aload_n 0, 1) := by decide +kernel
theorem dJ0_length_8abf5_6 : decode cJ0_length_8abf5 6 = .ok (.invokevirtual 335, 3) := by decide +kernel
theorem dJ0_length_8abf5_9 : decode cJ0_length_8abf5 9 = .ok (.ishr, 1) := by decide +kernel
theorem dJ0_length_8abf5_10 : decode cJ0_length_8abf5 10 = .ok (.ireturn, 1) := by decide +kernel
theorem dJ0_charAt_5068e_0 : decode cJ0_charAt_5068e 0 = .ok (.aload_n 0, 1) := by decide +kernel
theorem dJ0_charAt_5068e_1 : decode cJ0_charAt_5068e 1 = .ok (.invokevirtual 492, 3) := by decide +kernel
theorem dJ0_charAt_5068e_4 : decode cJ0_charAt_5068e 4 = .ok (.ifCond .eq 12, 3) := by decide +kernel
theorem dJ0_charAt_5068e_7 : decode cJ0_charAt_5068e 7 = .ok (.aload_n 0, 1) := by decide +kernel
theorem dJ0_charAt_5068e_8 : decode cJ0_charAt_5068e 8 = .ok (.getfield 9, 3) := by decide +kernel
theorem dJ0_charAt_5068e_11 : decode cJ0_charAt_5068e 11 = .ok (.iload_n 1, 1) := by decide +kernel
theorem dJ0_charAt_5068e_12 : decode cJ0_charAt_5068e 12 = .ok (.invokestatic 495, 3) := by decide +kernel
theorem dJ0_charAt_5068e_15 : decode cJ0_charAt_5068e 15 = .ok (.ireturn, 1) := by decide +kernel
theorem dJ0_charAt_5068e_16 : decode cJ0_charAt_5068e 16 = .ok (.aload_n 0, 1) := by decide +kernel
theorem dJ0_charAt_5068e_17 : decode cJ0_charAt_5068e 17 = .ok (.getfield 9, 3) := by decide +kernel
theorem dJ0_charAt_5068e_20 : decode cJ0_charAt_5068e 20 = .ok (.iload_n 1, 1) := by decide +kernel
theorem dJ0_charAt_5068e_21 : decode cJ0_charAt_5068e 21 = .ok (.invokestatic 498, 3) := by decide +kernel
theorem dJ0_charAt_5068e_24 : decode cJ0_charAt_5068e 24 = .ok (.ireturn, 1) := by decide +kernel
theorem dJ0_coder_7d493_0 : decode cJ0_coder_7d493 0 = .ok (.getstatic 38, 3) := by decide +kernel
theorem dJ0_coder_7d493_3 : decode cJ0_coder_7d493 3 = .ok (.ifCond .eq 10, 3) := by decide +kernel
theorem dJ0_coder_7d493_6 : decode cJ0_coder_7d493 6 = .ok (.aload_n 0, 1) := by decide +kernel
theorem dJ0_coder_7d493_7 : decode cJ0_coder_7d493 7 = .ok (.getfield 15, 3) := by decide +kernel
theorem dJ0_coder_7d493_10 : decode cJ0_coder_7d493 10 = .ok (.goto 4, 3) := by decide +kernel
theorem dJ0_coder_7d493_13 : decode cJ0_coder_7d493 13 = .ok (.iconst 1, 1) := by decide +kernel
theorem dJ0_coder_7d493_14 : decode cJ0_coder_7d493 14 = .ok (.ireturn, 1) := by decide +kernel
theorem dJ0_isLatin1_aae02_0 : decode cJ0_isLatin1_aae02 0 = .ok (.getstatic 38, 3) := by decide +kernel
theorem dJ0_isLatin1_aae02_3 : decode cJ0_isLatin1_aae02 3 = .ok (.ifCond .eq 14, 3) := by decide +kernel
theorem dJ0_isLatin1_aae02_6 : decode cJ0_isLatin1_aae02 6 = .ok (.aload_n 0, 1) := by decide +kernel
theorem dJ0_isLatin1_aae02_7 : decode cJ0_isLatin1_aae02 7 = .ok (.getfield 15, 3) := by decide +kernel
theorem dJ0_isLatin1_aae02_10 : decode cJ0_isLatin1_aae02 10 = .ok (.ifCond .ne 7, 3) := by decide +kernel
theorem dJ0_isLatin1_aae02_13 : decode cJ0_isLatin1_aae02 13 = .ok (.iconst 1, 1) := by decide +kernel
theorem dJ0_isLatin1_aae02_14 : decode cJ0_isLatin1_aae02 14 = .ok (.goto 4, 3) := by decide +kernel
theorem dJ0_isLatin1_aae02_17 : decode cJ0_isLatin1_aae02 17 = .ok (.iconst 0, 1) := by decide +kernel
theorem dJ0_isLatin1_aae02_18 : decode cJ0_isLatin1_aae02 18 = .ok (.ireturn, 1) := by decide +kernel
theorem dJ0_checkIndex_df160_0 : decode cJ0_checkIndex_df160 0 = .ok (.iload_n 0, 1) := by decide +kernel
theorem dJ0_checkIndex_df160_1 : decode cJ0_checkIndex_df160 1 = .ok (.iload_n 1, 1) := by decide +kernel
theorem dJ0_checkIndex_df160_2 : decode cJ0_checkIndex_df160 2 = .ok (.getstatic 1053, 3) := by decide +kernel
theorem dJ0_checkIndex_df160_5 : decode cJ0_checkIndex_df160 5 = .ok (.invokestatic 1059, 3) := by decide +kernel
theorem dJ0_checkIndex_df160_8 : decode cJ0_checkIndex_df160 8 = .ok (.pop, 1) := by decide +kernel
theorem dJ0_checkIndex_df160_9 : decode cJ0_checkIndex_df160 9 = .ok (.return_, 1) := by decide +kernel
theorem dJ1_charAt_3b067_0 : decode cJ1_charAt_3b067 0 = .ok (.iload_n 1, 1) := by decide +kernel
theorem dJ1_charAt_3b067_1 : decode cJ1_charAt_3b067 1 = .ok (.aload_n 0, 1) := by decide +kernel
theorem dJ1_charAt_3b067_2 : decode cJ1_charAt_3b067 2 = .ok (.arraylength, 1) := by decide +kernel
theorem dJ1_charAt_3b067_3 : decode cJ1_charAt_3b067 3 = .ok (.invokestatic 9, 3) := by decide +kernel
theorem dJ1_charAt_3b067_6 : decode cJ1_charAt_3b067 6 = .ok (.aload_n 0, 1) := by decide +kernel
theorem dJ1_charAt_3b067_7 : decode cJ1_charAt_3b067 7 = .ok (.iload_n 1, 1) := by decide +kernel
theorem dJ1_charAt_3b067_8 : decode cJ1_charAt_3b067 8 = .ok (.baload, 1) := by decide +kernel
theorem dJ1_charAt_3b067_9 : decode cJ1_charAt_3b067 9 = .ok (.sipush 255, 3) := by decide +kernel
theorem dJ1_charAt_3b067_12 : decode cJ1_charAt_3b067 12 = .ok (.iand, 1) := by decide +kernel
theorem dJ1_charAt_3b067_13 : decode cJ1_charAt_3b067 13 = .ok (.i2c, 1) := by decide +kernel
theorem dJ1_charAt_3b067_14 : decode cJ1_charAt_3b067 14 = .ok (.ireturn, 1) := by decide +kernel
theorem dJ2_getChar_3b067_0 : decode cJ2_getChar_3b067 0 = .ok (.getstatic 44, 3) := by decide +kernel
theorem dJ2_getChar_3b067_3 : decode cJ2_getChar_3b067 3 = .ok (.ifCond .ne 25, 3) := by decide +kernel
theorem dJ2_getChar_3b067_6 : decode cJ2_getChar_3b067 6 = .ok (.iload_n 1, 1) := by decide +kernel
theorem dJ2_getChar_3b067_7 : decode cJ2_getChar_3b067 7 = .ok (.ifCond .lt 11, 3) := by decide +kernel
theorem dJ2_getChar_3b067_10 : decode cJ2_getChar_3b067 10 = .ok (.iload_n 1, 1) := by decide +kernel
theorem dJ2_getChar_3b067_11 : decode cJ2_getChar_3b067 11 = .ok (.aload_n 0, 1) := by decide +kernel
theorem dJ2_getChar_3b067_12 : decode cJ2_getChar_3b067 12 = .ok (.invokestatic 48, 3) := by decide +kernel
theorem dJ2_getChar_3b067_15 : decode cJ2_getChar_3b067 15 = .ok (.if_icmp .lt 13, 3) := by decide +kernel
theorem dJ2_getChar_3b067_18 : decode cJ2_getChar_3b067 18 = .ok (.new 52, 3) := by decide +kernel
theorem dJ2_getChar_3b067_21 : decode cJ2_getChar_3b067 21 = .ok (.dup, 1) := by decide +kernel
theorem dJ2_getChar_3b067_22 : decode cJ2_getChar_3b067 22 = .ok (.ldc 54, 2) := by decide +kernel
theorem dJ2_getChar_3b067_24 : decode cJ2_getChar_3b067 24 = .ok (.invokespecial 56, 3) := by decide +kernel
theorem dJ2_getChar_3b067_27 : decode cJ2_getChar_3b067 27 = .ok (.athrow, 1) := by decide +kernel
theorem dJ2_getChar_3b067_28 : decode cJ2_getChar_3b067 28 = .ok (.iload_n 1, 1) := by decide +kernel
theorem dJ2_getChar_3b067_29 : decode cJ2_getChar_3b067 29 = .ok (.iconst 1, 1) := by decide +kernel
theorem dJ2_getChar_3b067_30 : decode cJ2_getChar_3b067 30 = .ok (.ishl, 1) := by decide +kernel
theorem dJ2_getChar_3b067_31 : decode cJ2_getChar_3b067 31 = .ok (.istore_n 1, 1) := by decide +kernel
theorem dJ2_getChar_3b067_32 : decode cJ2_getChar_3b067 32 = .ok (.aload_n 0, 1) := by decide +kernel
theorem dJ2_getChar_3b067_33 : decode cJ2_getChar_3b067 33 = .ok (.iload_n 1, 1) := by decide +kernel
theorem dJ2_getChar_3b067_34 : decode cJ2_getChar_3b067 34 = .ok (.iinc 1 1, 3) := by decide +kernel
theorem dJ2_getChar_3b067_37 : decode cJ2_getChar_3b067 37 = .ok (.baload, 1) := by decide +kernel
theorem dJ2_getChar_3b067_38 : decode cJ2_getChar_3b067 38 = .ok (.sipush 255, 3) := by decide +kernel
theorem dJ2_getChar_3b067_41 : decode cJ2_getChar_3b067 41 = .ok (.iand, 1) := by decide +kernel
theorem dJ2_getChar_3b067_42 : decode cJ2_getChar_3b067 42 = .ok (.getstatic 59, 3) := by decide +kernel
theorem dJ2_getChar_3b067_45 : decode cJ2_getChar_3b067 45 = .ok (.ishl, 1) := by decide +kernel
theorem dJ2_getChar_3b067_46 : decode cJ2_getChar_3b067 46 = .ok (.aload_n 0, 1) := by decide +kernel
theorem dJ2_getChar_3b067_47 : decode cJ2_getChar_3b067 47 = .ok (.iload_n 1, 1) := by decide +kernel
theorem dJ2_getChar_3b067_48 : decode cJ2_getChar_3b067 48 = .ok (.baload, 1) := by decide +kernel
theorem dJ2_getChar_3b067_49 : decode cJ2_getChar_3b067 49 = .ok (.sipush 255, 3) := by decide +kernel
theorem dJ2_getChar_3b067_52 : decode cJ2_getChar_3b067 52 = .ok (.iand, 1) := by decide +kernel
theorem dJ2_getChar_3b067_53 : decode cJ2_getChar_3b067 53 = .ok (.getstatic 63, 3) := by decide +kernel
theorem dJ2_getChar_3b067_56 : decode cJ2_getChar_3b067 56 = .ok (.ishl, 1) := by decide +kernel
theorem dJ2_getChar_3b067_57 : decode cJ2_getChar_3b067 57 = .ok (.ior, 1) := by decide +kernel
theorem dJ2_getChar_3b067_58 : decode cJ2_getChar_3b067 58 = .ok (.i2c, 1) := by decide +kernel
theorem dJ2_getChar_3b067_59 : decode cJ2_getChar_3b067 59 = .ok (.ireturn, 1) := by decide +kernel
theorem dJ2_length_9d52b_0 : decode cJ2_length_9d52b 0 = .ok (.aload_n 0, 1) := by decide +kernel
theorem dJ2_length_9d52b_1 : decode cJ2_length_9d52b 1 = .ok (.arraylength, 1) := by decide +kernel
theorem dJ2_length_9d52b_2 : decode cJ2_length_9d52b 2 = .ok (.iconst 1, 1) := by decide +kernel
theorem dJ2_length_9d52b_3 : decode cJ2_length_9d52b 3 = .ok (.ishr, 1) := by decide +kernel
theorem dJ2_length_9d52b_4 : decode cJ2_length_9d52b 4 = .ok (.ireturn, 1) := by decide +kernel
theorem dJ2_charAt_3b067_0 : decode cJ2_charAt_3b067 0 = .ok (.iload_n 1, 1) := by decide +kernel
theorem dJ2_charAt_3b067_1 : decode cJ2_charAt_3b067 1 = .ok (.aload_n 0, 1) := by decide +kernel
theorem dJ2_charAt_3b067_2 : decode cJ2_charAt_3b067 2 = .ok (.invokestatic 67, 3) := by decide +kernel
theorem dJ2_charAt_3b067_5 : decode cJ2_charAt_3b067 5 = .ok (.aload_n 0, 1) := by decide +kernel
theorem dJ2_charAt_3b067_6 : decode cJ2_charAt_3b067 6 = .ok (.iload_n 1, 1) := by decide +kernel
theorem dJ2_charAt_3b067_7 : decode cJ2_charAt_3b067 7 = .ok (.invokestatic 71, 3) := by decide +kernel
theorem dJ2_charAt_3b067_10 : decode cJ2_charAt_3b067 10 = .ok (.ireturn, 1) := by decide +kernel
theorem dJ2_checkIndex_2214a_0 : decode cJ2_checkIndex_2214a 0 = .ok (.iload_n 0, 1) := by decide +kernel
theorem dJ2_checkIndex_2214a_1 : decode cJ2_checkIndex_2214a 1 = .ok (.aload_n 1, 1) := by decide +kernel
theorem dJ2_checkIndex_2214a_2 : decode cJ2_checkIndex_2214a 2 = .ok (.invokestatic 48, 3) := by decide +kernel
theorem dJ2_checkIndex_2214a_5 : decode cJ2_checkIndex_2214a 5 = .ok (.invokestatic 414, 3) := by decide +kernel
theorem dJ2_checkIndex_2214a_8 : decode cJ2_checkIndex_2214a 8 = .ok (.return_, 1) := by decide +kernel
theorem dJ3_checkIndex_8e157_0 : decode cJ3_checkIndex_8e157 0 = .ok (.iload_n 0, 1) := by decide +kernel
theorem dJ3_checkIndex_8e157_1 : decode cJ3_checkIndex_8e157 1 = .ok (.ifCond .lt 8, 3) := by decide +kernel
theorem dJ3_checkIndex_8e157_4 : decode cJ3_checkIndex_8e157 4 = .ok (.iload_n 0, 1) := by decide +kernel
theorem dJ3_checkIndex_8e157_5 : decode cJ3_checkIndex_8e157 5 = .ok (.iload_n 1, 1) := by decide +kernel
theorem dJ3_checkIndex_8e157_6 : decode cJ3_checkIndex_8e157 6 = .ok (.if_icmp .lt 10, 3) := by decide +kernel
theorem dJ3_checkIndex_8e157_9 : decode cJ3_checkIndex_8e157 9 = .ok (.aload_n 2, 1) := by decide +kernel
theorem dJ3_checkIndex_8e157_10 : decode cJ3_checkIndex_8e157 10 = .ok (.iload_n 0, 1) := by decide +kernel
theorem dJ3_checkIndex_8e157_11 : decode cJ3_checkIndex_8e157 11 = .ok (.iload_n 1, 1) := by decide +kernel
theorem dJ3_checkIndex_8e157_12 : decode cJ3_checkIndex_8e157 12 = .ok (.invokestatic 95, 3) := by decide +kernel
theorem dJ3_checkIndex_8e157_15 : decode cJ3_checkIndex_8e157 15 = .ok (.athrow, 1) := by decide +kernel
theorem dJ3_checkIndex_8e157_16 : decode cJ3_checkIndex_8e157 16 = .ok (.iload_n 0, 1) := by decide +kernel
theorem dJ3_checkIndex_8e157_17 : decode cJ3_checkIndex_8e157 17 = .ok (.ireturn, 1) := by decide +kernel
theorem dJ6_bitCount_0f7a4_0 : decode cJ6_bitCount_0f7a4 0 = .ok (.iload_n 0, 1) := by decide +kernel
theorem dJ6_bitCount_0f7a4_1 : decode cJ6_bitCount_0f7a4 1 = .ok (.iload_n 0, 1) := by decide +kernel
theorem dJ6_bitCount_0f7a4_2 : decode cJ6_bitCount_0f7a4 2 = .ok (.iconst 1, 1) := by decide +kernel
theorem dJ6_bitCount_0f7a4_3 : decode cJ6_bitCount_0f7a4 3 = .ok (.iushr, 1) := by decide +kernel
theorem dJ6_bitCount_0f7a4_4 : decode cJ6_bitCount_0f7a4 4 = .ok (.ldc_w 265, 3) := by decide +kernel
theorem dJ6_bitCount_0f7a4_7 : decode cJ6_bitCount_0f7a4 7 = .ok (.iand, 1) := by decide +kernel
theorem dJ6_bitCount_0f7a4_8 : decode cJ6_bitCount_0f7a4 8 = .ok (.isub, 1) := by decide +kernel
theorem dJ6_bitCount_0f7a4_9 : decode cJ6_bitCount_0f7a4 9 = .ok (.istore_n 0, 1) := by decide +kernel
theorem dJ6_bitCount_0f7a4_10 : decode cJ6_bitCount_0f7a4 10 = .ok (.iload_n 0, 1) := by decide +kernel
theorem dJ6_bitCount_0f7a4_11 : decode cJ6_bitCount_0f7a4 11 = .ok (.ldc_w 266, 3) := by decide +kernel
theorem dJ6_bitCount_0f7a4_14 : decode cJ6_bitCount_0f7a4 14 = .ok (.iand, 1) := by decide +kernel
theorem dJ6_bitCount_0f7a4_15 : decode cJ6_bitCount_0f7a4 15 = .ok (.iload_n 0, 1) := by decide +kernel
theorem dJ6_bitCount_0f7a4_16 : decode cJ6_bitCount_0f7a4 16 = .ok (.iconst 2, 1) := by decide +kernel
theorem dJ6_bitCount_0f7a4_17 : decode cJ6_bitCount_0f7a4 17 = .ok (.iushr, 1) := by decide +kernel
theorem dJ6_bitCount_0f7a4_18 : decode cJ6_bitCount_0f7a4 18 = .ok (.ldc_w 266, 3) := by decide +kernel
theorem dJ6_bitCount_0f7a4_21 : decode cJ6_bitCount_0f7a4 21 = .ok (.iand, 1) := by decide +kernel
theorem dJ6_bitCount_0f7a4_22 : decode cJ6_bitCount_0f7a4 22 = .ok (.iadd, 1) := by decide +kernel
theorem dJ6_bitCount_0f7a4_23 : decode cJ6_bitCount_0f7a4 23 = .ok (.istore_n 0, 1) := by decide +kernel
theorem dJ6_bitCount_0f7a4_24 : decode cJ6_bitCount_0f7a4 24 = .ok (.iload_n 0, 1) := by decide +kernel
theorem dJ6_bitCount_0f7a4_25 : decode cJ6_bitCount_0f7a4 25 = .ok (.iload_n 0, 1) := by decide +kernel
theorem dJ6_bitCount_0f7a4_26 : decode cJ6_bitCount_0f7a4 26 = .ok (.iconst 4, 1) := by decide +kernel
theorem dJ6_bitCount_0f7a4_27 : decode cJ6_bitCount_0f7a4 27 = .ok (.iushr, 1) := by decide +kernel
theorem dJ6_bitCount_0f7a4_28 : decode cJ6_bitCount_0f7a4 28 = .ok (.iadd, 1) := by decide +kernel
theorem dJ6_bitCount_0f7a4_29 : decode cJ6_bitCount_0f7a4 29 = .ok (.ldc_w 267, 3) := by decide +kernel
theorem dJ6_bitCount_0f7a4_32 : decode cJ6_bitCount_0f7a4 32 = .ok (.iand, 1) := by decide +kernel
theorem dJ6_bitCount_0f7a4_33 : decode cJ6_bitCount_0f7a4 33 = .ok (.istore_n 0, 1) := by decide +kernel
theorem dJ6_bitCount_0f7a4_34 : decode cJ6_bitCount_0f7a4 34 = .ok (.iload_n 0, 1) := by decide +kernel
theorem dJ6_bitCount_0f7a4_35 : decode cJ6_bitCount_0f7a4 35 = .ok (.iload_n 0, 1) := by decide +kernel
theorem dJ6_bitCount_0f7a4_36 : decode cJ6_bitCount_0f7a4 36 = .ok (.bipush 8, 2) := by decide +kernel
theorem dJ6_bitCount_0f7a4_38 : decode cJ6_bitCount_0f7a4 38 = .ok (.iushr, 1) := by decide +kernel
theorem dJ6_bitCount_0f7a4_39 : decode cJ6_bitCount_0f7a4 39 = .ok (.iadd, 1) := by decide +kernel
theorem dJ6_bitCount_0f7a4_40 : decode cJ6_bitCount_0f7a4 40 = .ok (.istore_n 0, 1) := by decide +kernel
theorem dJ6_bitCount_0f7a4_41 : decode cJ6_bitCount_0f7a4 41 = .ok (.iload_n 0, 1) := by decide +kernel
theorem dJ6_bitCount_0f7a4_42 : decode cJ6_bitCount_0f7a4 42 = .ok (.iload_n 0, 1) := by decide +kernel
theorem dJ6_bitCount_0f7a4_43 : decode cJ6_bitCount_0f7a4 43 = .ok (.bipush 16, 2) := by decide +kernel
theorem dJ6_bitCount_0f7a4_45 : decode cJ6_bitCount_0f7a4 45 = .ok (.iushr, 1) := by decide +kernel
theorem dJ6_bitCount_0f7a4_46 : decode cJ6_bitCount_0f7a4 46 = .ok (.iadd, 1) := by decide +kernel
theorem dJ6_bitCount_0f7a4_47 : decode cJ6_bitCount_0f7a4 47 = .ok (.istore_n 0, 1) := by decide +kernel
theorem dJ6_bitCount_0f7a4_48 : decode cJ6_bitCount_0f7a4 48 = .ok (.iload_n 0, 1) := by decide +kernel
theorem dJ6_bitCount_0f7a4_49 : decode cJ6_bitCount_0f7a4 49 = .ok (.bipush 63, 2) := by decide +kernel
theorem dJ6_bitCount_0f7a4_51 : decode cJ6_bitCount_0f7a4 51 = .ok (.iand, 1) := by decide +kernel
theorem dJ6_bitCount_0f7a4_52 : decode cJ6_bitCount_0f7a4 52 = .ok (.ireturn, 1) := by decide +kernel
theorem dJ7_fill_d0a16_0 : decode cJ7_fill_d0a16 0 = .ok (.iconst 0, 1) := by decide +kernel
theorem dJ7_fill_d0a16_1 : decode cJ7_fill_d0a16 1 = .ok (.istore_n 3, 1) := by decide +kernel
theorem dJ7_fill_d0a16_2 : decode cJ7_fill_d0a16 2 = .ok (.aload_n 0, 1) := by decide +kernel
theorem dJ7_fill_d0a16_3 : decode cJ7_fill_d0a16 3 = .ok (.arraylength, 1) := by decide +kernel
theorem dJ7_fill_d0a16_4 : decode cJ7_fill_d0a16 4 = .ok (.istore 4, 2) := by decide +kernel
theorem dJ7_fill_d0a16_6 : decode cJ7_fill_d0a16 6 = .ok (.iload_n 3, 1) := by decide +kernel
theorem dJ7_fill_d0a16_7 : decode cJ7_fill_d0a16 7 = .ok (.iload 4, 2) := by decide +kernel
theorem dJ7_fill_d0a16_9 : decode cJ7_fill_d0a16 9 = .ok (.if_icmp .ge 13, 3) := by decide +kernel
theorem dJ7_fill_d0a16_12 : decode cJ7_fill_d0a16 12 = .ok (.aload_n 0, 1) := by decide +kernel
theorem dJ7_fill_d0a16_13 : decode cJ7_fill_d0a16 13 = .ok (.iload_n 3, 1) := by decide +kernel
theorem dJ7_fill_d0a16_14 : decode cJ7_fill_d0a16 14 = .ok (.lload_n 1, 1) := by decide +kernel
theorem dJ7_fill_d0a16_15 : decode cJ7_fill_d0a16 15 = .ok (.lastore, 1) := by decide +kernel
theorem dJ7_fill_d0a16_16 : decode cJ7_fill_d0a16 16 = .ok (.iinc 3 1, 3) := by decide +kernel
theorem dJ7_fill_d0a16_19 : decode cJ7_fill_d0a16 19 = .ok (.goto (-13), 3) := by decide +kernel
theorem dJ7_fill_d0a16_22 : decode cJ7_fill_d0a16 22 = .ok (.return_, 1) := by decide +kernel
theorem dJ7_fill_53178_0 : decode cJ7_fill_53178 0 = .ok (.iconst 0, 1) := by decide +kernel
theorem dJ7_fill_53178_1 : decode cJ7_fill_53178 1 = .ok (.istore_n 2, 1) := by decide +kernel
theorem dJ7_fill_53178_2 : decode cJ7_fill_53178 2 = .ok (.aload_n 0, 1) := by decide +kernel
theorem dJ7_fill_53178_3 : decode cJ7_fill_53178 3 = .ok (.arraylength, 1) := by decide +kernel
theorem dJ7_fill_53178_4 : decode cJ7_fill_53178 4 = .ok (.istore_n 3, 1) := by decide +kernel
theorem dJ7_fill_53178_5 : decode cJ7_fill_53178 5 = .ok (.iload_n 2, 1) := by decide +kernel
theorem dJ7_fill_53178_6 : decode cJ7_fill_53178 6 = .ok (.iload_n 3, 1) := by decide +kernel
theorem dJ7_fill_53178_7 : decode cJ7_fill_53178 7 = .ok (.if_icmp .ge 13, 3) := by decide +kernel
theorem dJ7_fill_53178_10 : decode cJ7_fill_53178 10 = .ok (.aload_n 0, 1) := by decide +kernel
theorem dJ7_fill_53178_11 : decode cJ7_fill_53178 11 = .ok (.iload_n 2, 1) := by decide +kernel
theorem dJ7_fill_53178_12 : decode cJ7_fill_53178 12 = .ok (.iload_n 1, 1) := by decide +kernel
theorem dJ7_fill_53178_13 : decode cJ7_fill_53178 13 = .ok (.iastore, 1) := by decide +kernel
theorem dJ7_fill_53178_14 : decode cJ7_fill_53178 14 = .ok (.iinc 2 1, 3) := by decide +kernel
theorem dJ7_fill_53178_17 : decode cJ7_fill_53178 17 = .ok (.goto (-12), 3) := by decide +kernel
theorem dJ7_fill_53178_20 : decode cJ7_fill_53178 20 = .ok (.return_, 1) := by decide +kernel
theorem dJ7_fill_7f8df_0 : decode cJ7_fill_7f8df 0 = .ok (.iconst 0, 1) := by decide +kernel
theorem dJ7_fill_7f8df_1 : decode cJ7_fill_7f8df 1 = .ok (.istore_n 3, 1) := by decide +kernel
theorem dJ7_fill_7f8df_2 : decode cJ7_fill_7f8df 2 = .ok (.aload_n 0, 1) := by decide +kernel
theorem dJ7_fill_7f8df_3 : decode cJ7_fill_7f8df 3 = .ok (.arraylength, 1) := by decide +kernel
theorem dJ7_fill_7f8df_4 : decode cJ7_fill_7f8df 4 = .ok (.istore 4, 2) := by decide +kernel
theorem dJ7_fill_7f8df_6 : decode cJ7_fill_7f8df 6 = .ok (.iload_n 3, 1) := by decide +kernel
theorem dJ7_fill_7f8df_7 : decode cJ7_fill_7f8df 7 = .ok (.iload 4, 2) := by decide +kernel
theorem dJ7_fill_7f8df_9 : decode cJ7_fill_7f8df 9 = .ok (.if_icmp .ge 13, 3) := by decide +kernel
theorem dJ7_fill_7f8df_12 : decode cJ7_fill_7f8df 12 = .ok (.aload_n 0, 1) := by decide +kernel
theorem dJ7_fill_7f8df_13 : decode cJ7_fill_7f8df 13 = .ok (.iload_n 3, 1) := by decide +kernel
theorem dJ7_fill_7f8df_14 : decode cJ7_fill_7f8df 14 = .ok (.dload_n 1, 1) := by decide +kernel
theorem dJ7_fill_7f8df_15 : decode cJ7_fill_7f8df 15 = .ok (.dastore, 1) := by decide +kernel
theorem dJ7_fill_7f8df_16 : decode cJ7_fill_7f8df 16 = .ok (.iinc 3 1, 3) := by decide +kernel
theorem dJ7_fill_7f8df_19 : decode cJ7_fill_7f8df 19 = .ok (.goto (-13), 3) := by decide +kernel
theorem dJ7_fill_7f8df_22 : decode cJ7_fill_7f8df 22 = .ok (.return_, 1) := by decide +kernel
theorem dJ9_floorMod_7cf53_0 : decode cJ9_floorMod_7cf53 0 = .ok (.iload_n 0, 1) := by decide +kernel
theorem dJ9_floorMod_7cf53_1 : decode cJ9_floorMod_7cf53 1 = .ok (.iload_n 1, 1) := by decide +kernel
theorem dJ9_floorMod_7cf53_2 : decode cJ9_floorMod_7cf53 2 = .ok (.irem, 1) := by decide +kernel
theorem dJ9_floorMod_7cf53_3 : decode cJ9_floorMod_7cf53 3 = .ok (.istore_n 2, 1) := by decide +kernel
theorem dJ9_floorMod_7cf53_4 : decode cJ9_floorMod_7cf53 4 = .ok (.iload_n 0, 1) := by decide +kernel
theorem dJ9_floorMod_7cf53_5 : decode cJ9_floorMod_7cf53 5 = .ok (.iload_n 1, 1) := by decide +kernel
theorem dJ9_floorMod_7cf53_6 : decode cJ9_floorMod_7cf53 6 = .ok (.ixor, 1) := by decide +kernel
theorem dJ9_floorMod_7cf53_7 : decode cJ9_floorMod_7cf53 7 = .ok (.ifCond .ge 11, 3) := by decide +kernel
theorem dJ9_floorMod_7cf53_10 : decode cJ9_floorMod_7cf53 10 = .ok (.iload_n 2, 1) := by decide +kernel
theorem dJ9_floorMod_7cf53_11 : decode cJ9_floorMod_7cf53 11 = .ok (.ifCond .eq 7, 3) := by decide +kernel
theorem dJ9_floorMod_7cf53_14 : decode cJ9_floorMod_7cf53 14 = .ok (.iload_n 2, 1) := by decide +kernel
theorem dJ9_floorMod_7cf53_15 : decode cJ9_floorMod_7cf53 15 = .ok (.iload_n 1, 1) := by decide +kernel
theorem dJ9_floorMod_7cf53_16 : decode cJ9_floorMod_7cf53 16 = .ok (.iadd, 1) := by decide +kernel
theorem dJ9_floorMod_7cf53_17 : decode cJ9_floorMod_7cf53 17 = .ok (.ireturn, 1) := by decide +kernel
theorem dJ9_floorMod_7cf53_18 : decode cJ9_floorMod_7cf53 18 = .ok (.iload_n 2, 1) := by decide +kernel
theorem dJ9_floorMod_7cf53_19 : decode cJ9_floorMod_7cf53 19 = .ok (.ireturn, 1) := by decide +kernel
theorem dJ9_max_7cf53_0 : decode cJ9_max_7cf53 0 = .ok (.iload_n 0, 1) := by decide +kernel
theorem dJ9_max_7cf53_1 : decode cJ9_max_7cf53 1 = .ok (.iload_n 1, 1) := by decide +kernel
theorem dJ9_max_7cf53_2 : decode cJ9_max_7cf53 2 = .ok (.if_icmp .lt 7, 3) := by decide +kernel
theorem dJ9_max_7cf53_5 : decode cJ9_max_7cf53 5 = .ok (.iload_n 0, 1) := by decide +kernel
theorem dJ9_max_7cf53_6 : decode cJ9_max_7cf53 6 = .ok (.goto 4, 3) := by decide +kernel
theorem dJ9_max_7cf53_9 : decode cJ9_max_7cf53 9 = .ok (.iload_n 1, 1) := by decide +kernel
theorem dJ9_max_7cf53_10 : decode cJ9_max_7cf53 10 = .ok (.ireturn, 1) := by decide +kernel
theorem dJ9_max_f86c9_0 : decode cJ9_max_f86c9 0 = .ok (.lload_n 0, 1) := by decide +kernel
theorem dJ9_max_f86c9_1 : decode cJ9_max_f86c9 1 = .ok (.lload_n 2, 1) := by decide +kernel
theorem dJ9_max_f86c9_2 : decode cJ9_max_f86c9 2 = .ok (.lcmp, 1) := by decide +kernel
theorem dJ9_max_f86c9_3 : decode cJ9_max_f86c9 3 = .ok (.ifCond .lt 7, 3) := by decide +kernel
theorem dJ9_max_f86c9_6 : decode cJ9_max_f86c9 6 = .ok (.lload_n 0, 1) := by decide +kernel
theorem dJ9_max_f86c9_7 : decode cJ9_max_f86c9 7 = .ok (.goto 4, 3) := by decide +kernel
theorem dJ9_max_f86c9_10 : decode cJ9_max_f86c9 10 = .ok (.lload_n 2, 1) := by decide +kernel
theorem dJ9_max_f86c9_11 : decode cJ9_max_f86c9 11 = .ok (.lreturn, 1) := by decide +kernel
theorem dJ9_min_7cf53_0 : decode cJ9_min_7cf53 0 = .ok (.iload_n 0, 1) := by decide +kernel
theorem dJ9_min_7cf53_1 : decode cJ9_min_7cf53 1 = .ok (.iload_n 1, 1) := by decide +kernel
theorem dJ9_min_7cf53_2 : decode cJ9_min_7cf53 2 = .ok (.if_icmp .gt 7, 3) := by decide +kernel
theorem dJ9_min_7cf53_5 : decode cJ9_min_7cf53 5 = .ok (.iload_n 0, 1) := by decide +kernel
theorem dJ9_min_7cf53_6 : decode cJ9_min_7cf53 6 = .ok (.goto 4, 3) := by decide +kernel
theorem dJ9_min_7cf53_9 : decode cJ9_min_7cf53 9 = .ok (.iload_n 1, 1) := by decide +kernel
theorem dJ9_min_7cf53_10 : decode cJ9_min_7cf53 10 = .ok (.ireturn, 1) := by decide +kernel
theorem dJ9_min_f86c9_0 : decode cJ9_min_f86c9 0 = .ok (.lload_n 0, 1) := by decide +kernel
theorem dJ9_min_f86c9_1 : decode cJ9_min_f86c9 1 = .ok (.lload_n 2, 1) := by decide +kernel
theorem dJ9_min_f86c9_2 : decode cJ9_min_f86c9 2 = .ok (.lcmp, 1) := by decide +kernel
theorem dJ9_min_f86c9_3 : decode cJ9_min_f86c9 3 = .ok (.ifCond .gt 7, 3) := by decide +kernel
theorem dJ9_min_f86c9_6 : decode cJ9_min_f86c9 6 = .ok (.lload_n 0, 1) := by decide +kernel
theorem dJ9_min_f86c9_7 : decode cJ9_min_f86c9 7 = .ok (.goto 4, 3) := by decide +kernel
theorem dJ9_min_f86c9_10 : decode cJ9_min_f86c9 10 = .ok (.lload_n 2, 1) := by decide +kernel
theorem dJ9_min_f86c9_11 : decode cJ9_min_f86c9 11 = .ok (.lreturn, 1) := by decide +kernel
theorem dJx29ce0_ordinal_8abf5_0 : decode cJx29ce0_ordinal_8abf5 0 = .ok (.aload_n 0, 1) := by decide +kernel
theorem dJx29ce0_ordinal_8abf5_1 : decode cJx29ce0_ordinal_8abf5 1 = .ok (.getfield 7, 3) := by decide +kernel
theorem dJx29ce0_ordinal_8abf5_4 : decode cJx29ce0_ordinal_8abf5 4 = .ok (.ireturn, 1) := by decide +kernel
theorem dX1_init_0 : decode cX1_init 0 = .ok (.aload_n 0, 1) := by decide +kernel
theorem dX1_init_1 : decode cX1_init 1 = .ok (.invokespecial 3, 3) := by decide +kernel
theorem dX1_init_4 : decode cX1_init 4 = .ok (.aload_n 0, 1) := by decide +kernel
theorem dX1_init_5 : decode cX1_init 5 = .ok (.bipush 6, 2) := by decide +kernel
theorem dX1_init_7 : decode cX1_init 7 = .ok (.newarray .int, 2) := by decide +kernel
theorem dX1_init_9 : decode cX1_init 9 = .ok (.putfield 9, 3) := by decide +kernel
theorem dX1_init_12 : decode cX1_init 12 = .ok (.aload_n 0, 1) := by decide +kernel
theorem dX1_init_13 : decode cX1_init 13 = .ok (.bipush 6, 2) := by decide +kernel
theorem dX1_init_15 : decode cX1_init 15 = .ok (.newarray .int, 2) := by decide +kernel
theorem dX1_init_17 : decode cX1_init 17 = .ok (.putfield 15, 3) := by decide +kernel
theorem dX1_init_20 : decode cX1_init 20 = .ok (.aload_n 0, 1) := by decide +kernel
theorem dX1_init_21 : decode cX1_init 21 = .ok (.iconst 0, 1) := by decide +kernel
theorem dX1_init_22 : decode cX1_init 22 = .ok (.putfield 18, 3) := by decide +kernel
theorem dX1_init_25 : decode cX1_init 25 = .ok (.aload_n 0, 1) := by decide +kernel
theorem dX1_init_26 : decode cX1_init 26 = .ok (.aload_n 1, 1) := by decide +kernel
theorem dX1_init_27 : decode cX1_init 27 = .ok (.putfield 22, 3) := by decide +kernel
theorem dX1_init_30 : decode cX1_init 30 = .ok (.return_, 1) := by decide +kernel
theorem dX1_observe_0 : decode cX1_observe 0 = .ok (.iload_n 1, 1) := by decide +kernel
theorem dX1_observe_1 : decode cX1_observe 1 = .ok (.invokestatic 26, 3) := by decide +kernel
theorem dX1_observe_4 : decode cX1_observe 4 = .ok (.ifCond .eq 12, 3) := by decide +kernel
theorem dX1_observe_7 : decode cX1_observe 7 = .ok (.iload_n 2, 1) := by decide +kernel
theorem dX1_observe_8 : decode cX1_observe 8 = .ok (.ifCond .lt 8, 3) := by decide +kernel
theorem dX1_observe_11 : decode cX1_observe 11 = .ok (.iload_n 2, 1) := by decide +kernel
theorem dX1_observe_12 : decode cX1_observe 12 = .ok (.iconst 1, 1) := by decide +kernel
theorem dX1_observe_13 : decode cX1_observe 13 = .ok (.if_icmp .le 5, 3) := by decide +kernel
theorem dX1_observe_16 : decode cX1_observe 16 = .ok (.iconst (-1), 1) := by decide +kernel
theorem dX1_observe_17 : decode cX1_observe 17 = .ok (.ireturn, 1) := by decide +kernel
theorem dX1_observe_18 : decode cX1_observe 18 = .ok (.aload_n 0, 1) := by decide +kernel
theorem dX1_observe_19 : decode cX1_observe 19 = .ok (.getfield 18, 3) := by decide +kernel
theorem dX1_observe_22 : decode cX1_observe 22 = .ok (.bipush 6, 2) := by decide +kernel
theorem dX1_observe_24 : decode cX1_observe 24 = .ok (.if_icmp .ne 6, 3) := by decide +kernel
theorem dX1_observe_27 : decode cX1_observe 27 = .ok (.bipush (-10), 2) := by decide +kernel
theorem dX1_observe_29 : decode cX1_observe 29 = .ok (.ireturn, 1) := by decide +kernel
theorem dX1_observe_30 : decode cX1_observe 30 = .ok (.aload_n 0, 1) := by decide +kernel
theorem dX1_observe_31 : decode cX1_observe 31 = .ok (.getfield 9, 3) := by decide +kernel
theorem dX1_observe_34 : decode cX1_observe 34 = .ok (.aload_n 0, 1) := by decide +kernel
theorem dX1_observe_35 : decode cX1_observe 35 = .ok (.getfield 18, 3) := by decide +kernel
theorem dX1_observe_38 : decode cX1_observe 38 = .ok (.iload_n 1, 1) := by decide +kernel
theorem dX1_observe_39 : decode cX1_observe 39 = .ok (.iastore, 1) := by decide +kernel
theorem dX1_observe_40 : decode cX1_observe 40 = .ok (.aload_n 0, 1) := by decide +kernel
theorem dX1_observe_41 : decode cX1_observe 41 = .ok (.getfield 15, 3) := by decide +kernel
theorem dX1_observe_44 : decode cX1_observe 44 = .ok (.aload_n 0, 1) := by decide +kernel
theorem dX1_observe_45 : decode cX1_observe 45 = .ok (.getfield 18, 3) := by decide +kernel
theorem dX1_observe_48 : decode cX1_observe 48 = .ok (.iload_n 2, 1) := by decide +kernel
theorem dX1_observe_49 : decode cX1_observe 49 = .ok (.iastore, 1) := by decide +kernel
theorem dX1_observe_50 : decode cX1_observe 50 = .ok (.aload_n 0, 1) := by decide +kernel
theorem dX1_observe_51 : decode cX1_observe 51 = .ok (.dup, 1) := by decide +kernel
theorem dX1_observe_52 : decode cX1_observe 52 = .ok (.getfield 18, 3) := by decide +kernel
theorem dX1_observe_55 : decode cX1_observe 55 = .ok (.iconst 1, 1) := by decide +kernel
theorem dX1_observe_56 : decode cX1_observe 56 = .ok (.iadd, 1) := by decide +kernel
theorem dX1_observe_57 : decode cX1_observe 57 = .ok (.putfield 18, 3) := by decide +kernel
theorem dX1_observe_60 : decode cX1_observe 60 = .ok (.aload_n 0, 1) := by decide +kernel
theorem dX1_observe_61 : decode cX1_observe 61 = .ok (.getfield 18, 3) := by decide +kernel
theorem dX1_observe_64 : decode cX1_observe 64 = .ok (.ireturn, 1) := by decide +kernel
theorem dX1_removeAll_0 : decode cX1_removeAll 0 = .ok (.aload_n 0, 1) := by decide +kernel
theorem dX1_removeAll_1 : decode cX1_removeAll 1 = .ok (.getfield 18, 3) := by decide +kernel
theorem dX1_removeAll_4 : decode cX1_removeAll 4 = .ok (.istore_n 1, 1) := by decide +kernel
theorem dX1_removeAll_5 : decode cX1_removeAll 5 = .ok (.aload_n 0, 1) := by decide +kernel
theorem dX1_removeAll_6 : decode cX1_removeAll 6 = .ok (.iconst 0, 1) := by decide +kernel
theorem dX1_removeAll_7 : decode cX1_removeAll 7 = .ok (.putfield 18, 3) := by decide +kernel
theorem dX1_removeAll_10 : decode cX1_removeAll 10 = .ok (.iload_n 1, 1) := by decide +kernel
theorem dX1_removeAll_11 : decode cX1_removeAll 11 = .ok (.ireturn, 1) := by decide +kernel
theorem dX1_possibleKinds_0 : decode cX1_possibleKinds 0 = .ok (.iconst 0, 1) := by decide +kernel
theorem dX1_possibleKinds_1 : decode cX1_possibleKinds 1 = .ok (.istore_n 1, 1) := by decide +kernel
theorem dX1_possibleKinds_2 : decode cX1_possibleKinds 2 = .ok (.iconst 0, 1) := by decide +kernel
theorem dX1_possibleKinds_3 : decode cX1_possibleKinds 3 = .ok (.istore_n 2, 1) := by decide +kernel
theorem dX1_possibleKinds_4 : decode cX1_possibleKinds 4 = .ok (.iload_n 2, 1) := by decide +kernel
theorem dX1_possibleKinds_5 : decode cX1_possibleKinds 5 = .ok (.bipush 12, 2) := by decide +kernel
theorem dX1_possibleKinds_7 : decode cX1_possibleKinds 7 = .ok (.if_icmp .ge 27, 3) := by decide +kernel
theorem dX1_possibleKinds_10 : decode cX1_possibleKinds 10 = .ok (.iload_n 1, 1) := by decide +kernel
theorem dX1_possibleKinds_11 : decode cX1_possibleKinds 11 = .ok (.aload_n 0, 1) := by decide +kernel
theorem dX1_possibleKinds_12 : decode cX1_possibleKinds 12 = .ok (.iload_n 2, 1) := by decide +kernel
theorem dX1_possibleKinds_13 : decode cX1_possibleKinds 13 = .ok (.invokevirtual 30, 3) := by decide +kernel
theorem dX1_possibleKinds_16 : decode cX1_possibleKinds 16 = .ok (.ifCond .eq 9, 3) := by decide +kernel
theorem dX1_possibleKinds_19 : decode cX1_possibleKinds 19 = .ok (.iconst 1, 1) := by decide +kernel
theorem dX1_possibleKinds_20 : decode cX1_possibleKinds 20 = .ok (.iload_n 2, 1) := by decide +kernel
theorem dX1_possibleKinds_21 : decode cX1_possibleKinds 21 = .ok (.ishl, 1) := by decide +kernel
theorem dX1_possibleKinds_22 : decode cX1_possibleKinds 22 = .ok (.goto 4, 3) := by decide +kernel
theorem dX1_possibleKinds_25 : decode cX1_possibleKinds 25 = .ok (.iconst 0, 1) := by decide +kernel
theorem dX1_possibleKinds_26 : decode cX1_possibleKinds 26 = .ok (.ior, 1) := by decide +kernel
theorem dX1_possibleKinds_27 : decode cX1_possibleKinds 27 = .ok (.istore_n 1, 1) := by decide +kernel
theorem dX1_possibleKinds_28 : decode cX1_possibleKinds 28 = .ok (.iinc 2 1, 3) := by decide +kernel
theorem dX1_possibleKinds_31 : decode cX1_possibleKinds 31 = .ok (.goto (-27), 3) := by decide +kernel
theorem dX1_possibleKinds_34 : decode cX1_possibleKinds 34 = .ok (.iload_n 1, 1) := by decide +kernel
theorem dX1_possibleKinds_35 : decode cX1_possibleKinds 35 = .ok (.ireturn, 1) := by decide +kernel
theorem dX1_isPossible_0 : decode cX1_isPossible 0 = .ok (.iconst 0, 1) := by decide +kernel
theorem dX1_isPossible_1 : decode cX1_isPossible 1 = .ok (.istore_n 2, 1) := by decide +kernel
theorem dX1_isPossible_2 : decode cX1_isPossible 2 = .ok (.iload_n 2, 1) := by decide +kernel
theorem dX1_isPossible_3 : decode cX1_isPossible 3 = .ok (.aload_n 0, 1) := by decide +kernel
theorem dX1_isPossible_4 : decode cX1_isPossible 4 = .ok (.getfield 18, 3) := by decide +kernel
theorem dX1_isPossible_7 : decode cX1_isPossible 7 = .ok (.if_icmp .ge 39, 3) := by decide +kernel
theorem dX1_isPossible_10 : decode cX1_isPossible 10 = .ok (.aload_n 0, 1) := by decide +kernel
theorem dX1_isPossible_11 : decode cX1_isPossible 11 = .ok (.getfield 9, 3) := by decide +kernel
theorem dX1_isPossible_14 : decode cX1_isPossible 14 = .ok (.iload_n 2, 1) := by decide +kernel
theorem dX1_isPossible_15 : decode cX1_isPossible 15 = .ok (.iaload, 1) := by decide +kernel
theorem dX1_isPossible_16 : decode cX1_isPossible 16 = .ok (.iload_n 1, 1) := by decide +kernel
theorem dX1_isPossible_17 : decode cX1_isPossible 17 = .ok (.invokestatic 33, 3) := by decide +kernel
theorem dX1_isPossible_20 : decode cX1_isPossible 20 = .ok (.aload_n 0, 1) := by decide +kernel
theorem dX1_isPossible_21 : decode cX1_isPossible 21 = .ok (.getfield 15, 3) := by decide +kernel
theorem dX1_isPossible_24 : decode cX1_isPossible 24 = .ok (.iload_n 2, 1) := by decide +kernel
theorem dX1_isPossible_25 : decode cX1_isPossible 25 = .ok (.iaload, 1) := by decide +kernel
theorem dX1_isPossible_26 : decode cX1_isPossible 26 = .ok (.iconst 1, 1) := by decide +kernel
theorem dX1_isPossible_27 : decode cX1_isPossible 27 = .ok (.if_icmp .ne 7, 3) := by decide +kernel
theorem dX1_isPossible_30 : decode cX1_isPossible 30 = .ok (.iconst 1, 1) := by decide +kernel
theorem dX1_isPossible_31 : decode cX1_isPossible 31 = .ok (.goto 4, 3) := by decide +kernel
theorem dX1_isPossible_34 : decode cX1_isPossible 34 = .ok (.iconst 0, 1) := by decide +kernel
theorem dX1_isPossible_35 : decode cX1_isPossible 35 = .ok (.if_icmp .eq 5, 3) := by decide +kernel
theorem dX1_isPossible_38 : decode cX1_isPossible 38 = .ok (.iconst 0, 1) := by decide +kernel
theorem dX1_isPossible_39 : decode cX1_isPossible 39 = .ok (.ireturn, 1) := by decide +kernel
theorem dX1_isPossible_40 : decode cX1_isPossible 40 = .ok (.iinc 2 1, 3) := by decide +kernel
theorem dX1_isPossible_43 : decode cX1_isPossible 43 = .ok (.goto (-41), 3) := by decide +kernel
theorem dX1_isPossible_46 : decode cX1_isPossible 46 = .ok (.iconst 1, 1) := by decide +kernel
theorem dX1_isPossible_47 : decode cX1_isPossible 47 = .ok (.ireturn, 1) := by decide +kernel
theorem dX1_bestAct_0 : decode cX1_bestAct 0 = .ok (.aload_n 0, 1) := by decide +kernel
theorem dX1_bestAct_1 : decode cX1_bestAct 1 = .ok (.invokevirtual 37, 3) := by decide +kernel
theorem dX1_bestAct_4 : decode cX1_bestAct 4 = .ok (.istore_n 1, 1) := by decide +kernel
theorem dX1_bestAct_5 : decode cX1_bestAct 5 = .ok (.iload_n 1, 1) := by decide +kernel
theorem dX1_bestAct_6 : decode cX1_bestAct 6 = .ok (.invokestatic 41, 3) := by decide +kernel
theorem dX1_bestAct_9 : decode cX1_bestAct 9 = .ok (.istore_n 2, 1) := by decide +kernel
theorem dX1_bestAct_10 : decode cX1_bestAct 10 = .ok (.iload_n 2, 1) := by decide +kernel
theorem dX1_bestAct_11 : decode cX1_bestAct 11 = .ok (.iconst 2, 1) := by decide +kernel
theorem dX1_bestAct_12 : decode cX1_bestAct 12 = .ok (.if_icmp .ge 6, 3) := by decide +kernel
theorem dX1_bestAct_15 : decode cX1_bestAct 15 = .ok (.bipush (-9), 2) := by decide +kernel
theorem dX1_bestAct_17 : decode cX1_bestAct 17 = .ok (.ireturn, 1) := by decide +kernel
theorem dX1_bestAct_18 : decode cX1_bestAct 18 = .ok (.bipush (-9), 2) := by decide +kernel
theorem dX1_bestAct_20 : decode cX1_bestAct 20 = .ok (.istore_n 3, 1) := by decide +kernel
theorem dX1_bestAct_21 : decode cX1_bestAct 21 = .ok (.bipush 13, 2) := by decide +kernel
theorem dX1_bestAct_23 : decode cX1_bestAct 23 = .ok (.istore 4, 2) := by decide +kernel
theorem dX1_bestAct_25 : decode cX1_bestAct 25 = .ok (.iconst 0, 1) := by decide +kernel
theorem dX1_bestAct_26 : decode cX1_bestAct 26 = .ok (.istore 5, 2) := by decide +kernel
theorem dX1_bestAct_28 : decode cX1_bestAct 28 = .ok (.iload 5, 2) := by decide +kernel
theorem dX1_bestAct_30 : decode cX1_bestAct 30 = .ok (.bipush 28, 2) := by decide +kernel
theorem dX1_bestAct_32 : decode cX1_bestAct 32 = .ok (.if_icmp .ge 42, 3) := by decide +kernel
theorem dX1_bestAct_35 : decode cX1_bestAct 35 = .ok (.iload 5, 2) := by decide +kernel
theorem dX1_bestAct_37 : decode cX1_bestAct 37 = .ok (.iload_n 1, 1) := by decide +kernel
theorem dX1_bestAct_38 : decode cX1_bestAct 38 = .ok (.invokestatic 47, 3) := by decide +kernel
theorem dX1_bestAct_41 : decode cX1_bestAct 41 = .ok (.istore 6, 2) := by decide +kernel
theorem dX1_bestAct_43 : decode cX1_bestAct 43 = .ok (.iload 6, 2) := by decide +kernel
theorem dX1_bestAct_45 : decode cX1_bestAct 45 = .ok (.iload_n 2, 1) := by decide +kernel
theorem dX1_bestAct_46 : decode cX1_bestAct 46 = .ok (.iload 6, 2) := by decide +kernel
theorem dX1_bestAct_48 : decode cX1_bestAct 48 = .ok (.isub, 1) := by decide +kernel
theorem dX1_bestAct_49 : decode cX1_bestAct 49 = .ok (.invokestatic 51, 3) := by decide +kernel
theorem dX1_bestAct_52 : decode cX1_bestAct 52 = .ok (.istore 7, 2) := by decide +kernel
theorem dX1_bestAct_54 : decode cX1_bestAct 54 = .ok (.iload 7, 2) := by decide +kernel
theorem dX1_bestAct_56 : decode cX1_bestAct 56 = .ok (.iload 4, 2) := by decide +kernel
theorem dX1_bestAct_58 : decode cX1_bestAct 58 = .ok (.if_icmp .ge 10, 3) := by decide +kernel
theorem dX1_bestAct_61 : decode cX1_bestAct 61 = .ok (.iload 5, 2) := by decide +kernel
theorem dX1_bestAct_63 : decode cX1_bestAct 63 = .ok (.istore_n 3, 1) := by decide +kernel
theorem dX1_bestAct_64 : decode cX1_bestAct 64 = .ok (.iload 7, 2) := by decide +kernel
theorem dX1_bestAct_66 : decode cX1_bestAct 66 = .ok (.istore 4, 2) := by decide +kernel
theorem dX1_bestAct_68 : decode cX1_bestAct 68 = .ok (.iinc 5 1, 3) := by decide +kernel
theorem dX1_bestAct_71 : decode cX1_bestAct 71 = .ok (.goto (-43), 3) := by decide +kernel
theorem dX1_bestAct_74 : decode cX1_bestAct 74 = .ok (.aload_n 0, 1) := by decide +kernel
theorem dX1_bestAct_75 : decode cX1_bestAct 75 = .ok (.getfield 22, 3) := by decide +kernel
theorem dX1_bestAct_78 : decode cX1_bestAct 78 = .ok (.iload 4, 2) := by decide +kernel
theorem dX1_bestAct_80 : decode cX1_bestAct 80 = .ok (.i2l, 1) := by decide +kernel
theorem dX1_bestAct_81 : decode cX1_bestAct 81 = .ok (.putfield 56, 3) := by decide +kernel
theorem dX1_bestAct_84 : decode cX1_bestAct 84 = .ok (.iload_n 3, 1) := by decide +kernel
theorem dX1_bestAct_85 : decode cX1_bestAct 85 = .ok (.ireturn, 1) := by decide +kernel
theorem dX1_kindsAllowing_0 : decode cX1_kindsAllowing 0 = .ok (.iconst 0, 1) := by decide +kernel
theorem dX1_kindsAllowing_1 : decode cX1_kindsAllowing 1 = .ok (.istore_n 2, 1) := by decide +kernel
theorem dX1_kindsAllowing_2 : decode cX1_kindsAllowing 2 = .ok (.iconst 0, 1) := by decide +kernel
theorem dX1_kindsAllowing_3 : decode cX1_kindsAllowing 3 = .ok (.istore_n 3, 1) := by decide +kernel
theorem dX1_kindsAllowing_4 : decode cX1_kindsAllowing 4 = .ok (.iload_n 3, 1) := by decide +kernel
theorem dX1_kindsAllowing_5 : decode cX1_kindsAllowing 5 = .ok (.bipush 12, 2) := by decide +kernel
theorem dX1_kindsAllowing_7 : decode cX1_kindsAllowing 7 = .ok (.if_icmp .ge 34, 3) := by decide +kernel
theorem dX1_kindsAllowing_10 : decode cX1_kindsAllowing 10 = .ok (.iload_n 2, 1) := by decide +kernel
theorem dX1_kindsAllowing_11 : decode cX1_kindsAllowing 11 = .ok (.iload_n 1, 1) := by decide +kernel
theorem dX1_kindsAllowing_12 : decode cX1_kindsAllowing 12 = .ok (.iload_n 3, 1) := by decide +kernel
theorem dX1_kindsAllowing_13 : decode cX1_kindsAllowing 13 = .ok (.ishr, 1) := by decide +kernel
theorem dX1_kindsAllowing_14 : decode cX1_kindsAllowing 14 = .ok (.iconst 1, 1) := by decide +kernel
theorem dX1_kindsAllowing_15 : decode cX1_kindsAllowing 15 = .ok (.iand, 1) := by decide +kernel
theorem dX1_kindsAllowing_16 : decode cX1_kindsAllowing 16 = .ok (.iconst 1, 1) := by decide +kernel
theorem dX1_kindsAllowing_17 : decode cX1_kindsAllowing 17 = .ok (.if_icmp .ne 15, 3) := by decide +kernel
theorem dX1_kindsAllowing_20 : decode cX1_kindsAllowing 20 = .ok (.iload_n 0, 1) := by decide +kernel
theorem dX1_kindsAllowing_21 : decode cX1_kindsAllowing 21 = .ok (.iload_n 3, 1) := by decide +kernel
theorem dX1_kindsAllowing_22 : decode cX1_kindsAllowing 22 = .ok (.invokestatic 33, 3) := by decide +kernel
theorem dX1_kindsAllowing_25 : decode cX1_kindsAllowing 25 = .ok (.ifCond .eq 7, 3) := by decide +kernel
theorem dX1_kindsAllowing_28 : decode cX1_kindsAllowing 28 = .ok (.iconst 1, 1) := by decide +kernel
theorem dX1_kindsAllowing_29 : decode cX1_kindsAllowing 29 = .ok (.goto 4, 3) := by decide +kernel
theorem dX1_kindsAllowing_32 : decode cX1_kindsAllowing 32 = .ok (.iconst 0, 1) := by decide +kernel
theorem dX1_kindsAllowing_33 : decode cX1_kindsAllowing 33 = .ok (.iadd, 1) := by decide +kernel
theorem dX1_kindsAllowing_34 : decode cX1_kindsAllowing 34 = .ok (.istore_n 2, 1) := by decide +kernel
theorem dX1_kindsAllowing_35 : decode cX1_kindsAllowing 35 = .ok (.iinc 3 1, 3) := by decide +kernel
theorem dX1_kindsAllowing_38 : decode cX1_kindsAllowing 38 = .ok (.goto (-34), 3) := by decide +kernel
theorem dX1_kindsAllowing_41 : decode cX1_kindsAllowing 41 = .ok (.iload_n 2, 1) := by decide +kernel
theorem dX1_kindsAllowing_42 : decode cX1_kindsAllowing 42 = .ok (.ireturn, 1) := by decide +kernel
theorem dX10_init_0 : decode cX10_init 0 = .ok (.aload_n 0, 1) := by decide +kernel
theorem dX10_init_1 : decode cX10_init 1 = .ok (.invokespecial 3, 3) := by decide +kernel
theorem dX10_init_4 : decode cX10_init 4 = .ok (.aload_n 0, 1) := by decide +kernel
theorem dX10_init_5 : decode cX10_init 5 = .ok (.aload_n 1, 1) := by decide +kernel
theorem dX10_init_6 : decode cX10_init 6 = .ok (.putfield 9, 3) := by decide +kernel
theorem dX10_init_9 : decode cX10_init 9 = .ok (.aload_n 0, 1) := by decide +kernel
theorem dX10_init_10 : decode cX10_init 10 = .ok (.aload_n 2, 1) := by decide +kernel
theorem dX10_init_11 : decode cX10_init 11 = .ok (.putfield 15, 3) := by decide +kernel
theorem dX10_init_14 : decode cX10_init 14 = .ok (.return_, 1) := by decide +kernel
theorem dX10_isSummed_0 : decode cX10_isSummed 0 = .ok (.iload_n 0, 1) := by decide +kernel
theorem dX10_isSummed_1 : decode cX10_isSummed 1 = .ok (.iconst 4, 1) := by decide +kernel
theorem dX10_isSummed_2 : decode cX10_isSummed 2 = .ok (.if_icmp .eq 14, 3) := by decide +kernel
theorem dX10_isSummed_5 : decode cX10_isSummed 5 = .ok (.iload_n 0, 1) := by decide +kernel
theorem dX10_isSummed_6 : decode cX10_isSummed 6 = .ok (.iconst 5, 1) := by decide +kernel
theorem dX10_isSummed_7 : decode cX10_isSummed 7 = .ok (.if_icmp .eq 9, 3) := by decide +kernel
theorem dX10_isSummed_10 : decode cX10_isSummed 10 = .ok (.iload_n 0, 1) := by decide +kernel
theorem dX10_isSummed_11 : decode cX10_isSummed 11 = .ok (.bipush 7, 2) := by decide +kernel
theorem dX10_isSummed_13 : decode cX10_isSummed 13 = .ok (.if_icmp .ne 7, 3) := by decide +kernel
theorem dX10_isSummed_16 : decode cX10_isSummed 16 = .ok (.iconst 1, 1) := by decide +kernel
theorem dX10_isSummed_17 : decode cX10_isSummed 17 = .ok (.goto 4, 3) := by decide +kernel
theorem dX10_isSummed_20 : decode cX10_isSummed 20 = .ok (.iconst 0, 1) := by decide +kernel
theorem dX10_isSummed_21 : decode cX10_isSummed 21 = .ok (.ireturn, 1) := by decide +kernel
theorem dX10_isFoldable_0 : decode cX10_isFoldable 0 = .ok (.iload_n 0, 1) := by decide +kernel
theorem dX10_isFoldable_1 : decode cX10_isFoldable 1 = .ok (.ifCond .lt 32, 3) := by decide +kernel
theorem dX10_isFoldable_4 : decode cX10_isFoldable 4 = .ok (.iload_n 0, 1) := by decide +kernel
theorem dX10_isFoldable_5 : decode cX10_isFoldable 5 = .ok (.iconst 3, 1) := by decide +kernel
theorem dX10_isFoldable_6 : decode cX10_isFoldable 6 = .ok (.if_icmp .gt 27, 3) := by decide +kernel
theorem dX10_isFoldable_9 : decode cX10_isFoldable 9 = .ok (.iload_n 1, 1) := by decide +kernel
theorem dX10_isFoldable_10 : decode cX10_isFoldable 10 = .ok (.ifCond .lt 23, 3) := by decide +kernel
theorem dX10_isFoldable_13 : decode cX10_isFoldable 13 = .ok (.iload_n 2, 1) := by decide +kernel
theorem dX10_isFoldable_14 : decode cX10_isFoldable 14 = .ok (.ifCond .lt 19, 3) := by decide +kernel
theorem dX10_isFoldable_17 : decode cX10_isFoldable 17 = .ok (.iload_n 2, 1) := by decide +kernel
theorem dX10_isFoldable_18 : decode cX10_isFoldable 18 = .ok (.iconst 4, 1) := by decide +kernel
theorem dX10_isFoldable_19 : decode cX10_isFoldable 19 = .ok (.if_icmp .gt 14, 3) := by decide +kernel
theorem dX10_isFoldable_22 : decode cX10_isFoldable 22 = .ok (.iload_n 3, 1) := by decide +kernel
theorem dX10_isFoldable_23 : decode cX10_isFoldable 23 = .ok (.invokestatic 19, 3) := by decide +kernel
theorem dX10_isFoldable_26 : decode cX10_isFoldable 26 = .ok (.ifCond .eq 7, 3) := by decide +kernel
theorem dX10_isFoldable_29 : decode cX10_isFoldable 29 = .ok (.iconst 1, 1) := by decide +kernel
theorem dX10_isFoldable_30 : decode cX10_isFoldable 30 = .ok (.goto 4, 3) := by decide +kernel
theorem dX10_isFoldable_33 : decode cX10_isFoldable 33 = .ok (.iconst 0, 1) := by decide +kernel
theorem dX10_isFoldable_34 : decode cX10_isFoldable 34 = .ok (.istore 4, 2) := by decide +kernel
theorem dX10_isFoldable_36 : decode cX10_isFoldable 36 = .ok (.iload 4, 2) := by decide +kernel
theorem dX10_isFoldable_38 : decode cX10_isFoldable 38 = .ok (.ifCond .eq 27, 3) := by decide +kernel
theorem dX10_isFoldable_41 : decode cX10_isFoldable 41 = .ok (.iload_n 0, 1) := by decide +kernel
theorem dX10_isFoldable_42 : decode cX10_isFoldable 42 = .ok (.iconst 3, 1) := by decide +kernel
theorem dX10_isFoldable_43 : decode cX10_isFoldable 43 = .ok (.if_icmp .ne 7, 3) := by decide +kernel
theorem dX10_isFoldable_46 : decode cX10_isFoldable 46 = .ok (.iload_n 1, 1) := by decide +kernel
theorem dX10_isFoldable_47 : decode cX10_isFoldable 47 = .ok (.ifCond .ne 18, 3) := by decide +kernel
theorem dX10_isFoldable_50 : decode cX10_isFoldable 50 = .ok (.iload_n 2, 1) := by decide +kernel
theorem dX10_isFoldable_51 : decode cX10_isFoldable 51 = .ok (.iconst 3, 1) := by decide +kernel
theorem dX10_isFoldable_52 : decode cX10_isFoldable 52 = .ok (.if_icmp .ne 9, 3) := by decide +kernel
theorem dX10_isFoldable_55 : decode cX10_isFoldable 55 = .ok (.iload_n 3, 1) := by decide +kernel
theorem dX10_isFoldable_56 : decode cX10_isFoldable 56 = .ok (.bipush 7, 2) := by decide +kernel
theorem dX10_isFoldable_58 : decode cX10_isFoldable 58 = .ok (.if_icmp .eq 7, 3) := by decide +kernel
theorem dX10_isFoldable_61 : decode cX10_isFoldable 61 = .ok (.iconst 1, 1) := by decide +kernel
theorem dX10_isFoldable_62 : decode cX10_isFoldable 62 = .ok (.goto 4, 3) := by decide +kernel
theorem dX10_isFoldable_65 : decode cX10_isFoldable 65 = .ok (.iconst 0, 1) := by decide +kernel
theorem dX10_isFoldable_66 : decode cX10_isFoldable 66 = .ok (.ireturn, 1) := by decide +kernel
theorem dX10_isChosen_0 : decode cX10_isChosen 0 = .ok (.iload_n 0, 1) := by decide +kernel
theorem dX10_isChosen_1 : decode cX10_isChosen 1 = .ok (.tableswitch 62 0 2 #[27, 38, 49], 27) := by decide +kernel
theorem dX10_isChosen_28 : decode cX10_isChosen 28 = .ok (.iload_n 2, 1) := by decide +kernel
theorem dX10_isChosen_29 : decode cX10_isChosen 29 = .ok (.iload_n 1, 1) := by decide +kernel
theorem dX10_isChosen_30 : decode cX10_isChosen 30 = .ok (.if_icmp .ne 7, 3) := by decide +kernel
theorem dX10_isChosen_33 : decode cX10_isChosen 33 = .ok (.iconst 1, 1) := by decide +kernel
theorem dX10_isChosen_34 : decode cX10_isChosen 34 = .ok (.goto 4, 3) := by decide +kernel
theorem dX10_isChosen_37 : decode cX10_isChosen 37 = .ok (.iconst 0, 1) := by decide +kernel
theorem dX10_isChosen_38 : decode cX10_isChosen 38 = .ok (.ireturn, 1) := by decide +kernel
theorem dX10_isChosen_39 : decode cX10_isChosen 39 = .ok (.iload_n 3, 1) := by decide +kernel
theorem dX10_isChosen_40 : decode cX10_isChosen 40 = .ok (.iload_n 1, 1) := by decide +kernel
theorem dX10_isChosen_41 : decode cX10_isChosen 41 = .ok (.if_icmp .ne 7, 3) := by decide +kernel
theorem dX10_isChosen_44 : decode cX10_isChosen 44 = .ok (.iconst 1, 1) := by decide +kernel
theorem dX10_isChosen_45 : decode cX10_isChosen 45 = .ok (.goto 4, 3) := by decide +kernel
theorem dX10_isChosen_48 : decode cX10_isChosen 48 = .ok (.iconst 0, 1) := by decide +kernel
theorem dX10_isChosen_49 : decode cX10_isChosen 49 = .ok (.ireturn, 1) := by decide +kernel
theorem dX10_isChosen_50 : decode cX10_isChosen 50 = .ok (.iload_n 2, 1) := by decide +kernel
theorem dX10_isChosen_51 : decode cX10_isChosen 51 = .ok (.iload_n 3, 1) := by decide +kernel
theorem dX10_isChosen_52 : decode cX10_isChosen 52 = .ok (.iadd, 1) := by decide +kernel
theorem dX10_isChosen_53 : decode cX10_isChosen 53 = .ok (.iload_n 1, 1) := by decide +kernel
theorem dX10_isChosen_54 : decode cX10_isChosen 54 = .ok (.if_icmp .ne 7, 3) := by decide +kernel
theorem dX10_isChosen_57 : decode cX10_isChosen 57 = .ok (.iconst 1, 1) := by decide +kernel
theorem dX10_isChosen_58 : decode cX10_isChosen 58 = .ok (.goto 4, 3) := by decide +kernel
theorem dX10_isChosen_61 : decode cX10_isChosen 61 = .ok (.iconst 0, 1) := by decide +kernel
theorem dX10_isChosen_62 : decode cX10_isChosen 62 = .ok (.ireturn, 1) := by decide +kernel
theorem dX10_isChosen_63 : decode cX10_isChosen 63 = .ok (.iconst 1, 1) := by decide +kernel
theorem dX10_isChosen_64 : decode cX10_isChosen 64 = .ok (.ireturn, 1) := by decide +kernel
theorem dX10_begin_0 : decode cX10_begin 0 = .ok (.aload_n 0, 1) := by decide +kernel
theorem dX10_begin_1 : decode cX10_begin 1 = .ok (.lconst 0, 1) := by decide +kernel
theorem dX10_begin_2 : decode cX10_begin 2 = .ok (.putfield 23, 3) := by decide +kernel
theorem dX10_begin_5 : decode cX10_begin 5 = .ok (.aload_n 0, 1) := by decide +kernel
theorem dX10_begin_6 : decode cX10_begin 6 = .ok (.dconst 0, 1) := by decide +kernel
theorem dX10_begin_7 : decode cX10_begin 7 = .ok (.putfield 27, 3) := by decide +kernel
theorem dX10_begin_10 : decode cX10_begin 10 = .ok (.aload_n 0, 1) := by decide +kernel
theorem dX10_begin_11 : decode cX10_begin 11 = .ok (.iconst 0, 1) := by decide +kernel
theorem dX10_begin_12 : decode cX10_begin 12 = .ok (.putfield 31, 3) := by decide +kernel
theorem dX10_begin_15 : decode cX10_begin 15 = .ok (.aload_n 0, 1) := by decide +kernel
theorem dX10_begin_16 : decode cX10_begin 16 = .ok (.iconst 0, 1) := by decide +kernel
theorem dX10_begin_17 : decode cX10_begin 17 = .ok (.putfield 35, 3) := by decide +kernel
theorem dX10_begin_20 : decode cX10_begin 20 = .ok (.return_, 1) := by decide +kernel
theorem dX10_foldCells_0 : decode cX10_foldCells 0 = .ok (.iload_n 1, 1) := by decide +kernel
theorem dX10_foldCells_1 : decode cX10_foldCells 1 = .ok (.invokestatic 38, 3) := by decide +kernel
theorem dX10_foldCells_4 : decode cX10_foldCells 4 = .ok (.ifCond .eq 15, 3) := by decide +kernel
theorem dX10_foldCells_7 : decode cX10_foldCells 7 = .ok (.iload_n 2, 1) := by decide +kernel
theorem dX10_foldCells_8 : decode cX10_foldCells 8 = .ok (.iload_n 3, 1) := by decide +kernel
theorem dX10_foldCells_9 : decode cX10_foldCells 9 = .ok (.iload 4, 2) := by decide +kernel
theorem dX10_foldCells_11 : decode cX10_foldCells 11 = .ok (.iload 5, 2) := by decide +kernel
theorem dX10_foldCells_13 : decode cX10_foldCells 13 = .ok (.invokestatic 41, 3) := by decide +kernel
theorem dX10_foldCells_16 : decode cX10_foldCells 16 = .ok (.ifCond .ne 5, 3) := by decide +kernel
theorem dX10_foldCells_19 : decode cX10_foldCells 19 = .ok (.iconst (-1), 1) := by decide +kernel
theorem dX10_foldCells_20 : decode cX10_foldCells 20 = .ok (.ireturn, 1) := by decide +kernel
theorem dX10_foldCells_21 : decode cX10_foldCells 21 = .ok (.iload_n 2, 1) := by decide +kernel
theorem dX10_foldCells_22 : decode cX10_foldCells 22 = .ok (.ifCond .ne 15, 3) := by decide +kernel
theorem dX10_foldCells_25 : decode cX10_foldCells 25 = .ok (.aload_n 0, 1) := by decide +kernel
theorem dX10_foldCells_26 : decode cX10_foldCells 26 = .ok (.getfield 9, 3) := by decide +kernel
theorem dX10_foldCells_29 : decode cX10_foldCells 29 = .ok (.iload_n 1, 1) := by decide +kernel
theorem dX10_foldCells_30 : decode cX10_foldCells 30 = .ok (.iload_n 3, 1) := by decide +kernel
theorem dX10_foldCells_31 : decode cX10_foldCells 31 = .ok (.invokevirtual 45, 3) := by decide +kernel
theorem dX10_foldCells_34 : decode cX10_foldCells 34 = .ok (.goto 11, 3) := by decide +kernel
theorem dX10_foldCells_37 : decode cX10_foldCells 37 = .ok (.aload_n 0, 1) := by decide +kernel
theorem dX10_foldCells_38 : decode cX10_foldCells 38 = .ok (.getfield 9, 3) := by decide +kernel
theorem dX10_foldCells_41 : decode cX10_foldCells 41 = .ok (.iload_n 1, 1) := by decide +kernel
theorem dX10_foldCells_42 : decode cX10_foldCells 42 = .ok (.invokevirtual 51, 3) := by decide +kernel
theorem dX10_foldCells_45 : decode cX10_foldCells 45 = .ok (.istore 6, 2) := by decide +kernel
theorem dX10_foldCells_47 : decode cX10_foldCells 47 = .ok (.iload 6, 2) := by decide +kernel
theorem dX10_foldCells_49 : decode cX10_foldCells 49 = .ok (.ifCond .ge 6, 3) := by decide +kernel
theorem dX10_foldCells_52 : decode cX10_foldCells 52 = .ok (.iload 6, 2) := by decide +kernel
theorem dX10_foldCells_54 : decode cX10_foldCells 54 = .ok (.ireturn, 1) := by decide +kernel
theorem dX10_foldCells_55 : decode cX10_foldCells 55 = .ok (.aload_n 0, 1) := by decide +kernel
theorem dX10_foldCells_56 : decode cX10_foldCells 56 = .ok (.invokevirtual 55, 3) := by decide +kernel
theorem dX10_foldCells_59 : decode cX10_foldCells 59 = .ok (.iconst 0, 1) := by decide +kernel
theorem dX10_foldCells_60 : decode cX10_foldCells 60 = .ok (.istore 7, 2) := by decide +kernel
theorem dX10_foldCells_62 : decode cX10_foldCells 62 = .ok (.iconst 0, 1) := by decide +kernel
theorem dX10_foldCells_63 : decode cX10_foldCells 63 = .ok (.istore 8, 2) := by decide +kernel
theorem dX10_foldCells_65 : decode cX10_foldCells 65 = .ok (.iload 8, 2) := by decide +kernel
theorem dX10_foldCells_67 : decode cX10_foldCells 67 = .ok (.aload_n 0, 1) := by decide +kernel
theorem dX10_foldCells_68 : decode cX10_foldCells 68 = .ok (.getfield 9, 3) := by decide +kernel
theorem dX10_foldCells_71 : decode cX10_foldCells 71 = .ok (.getfield 58, 3) := by decide +kernel
theorem dX10_foldCells_74 : decode cX10_foldCells 74 = .ok (.iload_n 1, 1) := by decide +kernel
theorem dX10_foldCells_75 : decode cX10_foldCells 75 = .ok (.iaload, 1) := by decide +kernel
theorem dX10_foldCells_76 : decode cX10_foldCells 76 = .ok (.if_icmp .ge 82, 3) := by decide +kernel
theorem dX10_foldCells_79 : decode cX10_foldCells 79 = .ok (.aload_n 0, 1) := by decide +kernel
theorem dX10_foldCells_80 : decode cX10_foldCells 80 = .ok (.getfield 9, 3) := by decide +kernel
theorem dX10_foldCells_83 : decode cX10_foldCells 83 = .ok (.iload_n 1, 1) := by decide +kernel
theorem dX10_foldCells_84 : decode cX10_foldCells 84 = .ok (.iload 8, 2) := by decide +kernel
theorem dX10_foldCells_86 : decode cX10_foldCells 86 = .ok (.invokevirtual 62, 3) := by decide +kernel
theorem dX10_foldCells_89 : decode cX10_foldCells 89 = .ok (.istore 9, 2) := by decide +kernel
theorem dX10_foldCells_91 : decode cX10_foldCells 91 = .ok (.iconst 0, 1) := by decide +kernel
theorem dX10_foldCells_92 : decode cX10_foldCells 92 = .ok (.istore 10, 2) := by decide +kernel
theorem dX10_foldCells_94 : decode cX10_foldCells 94 = .ok (.iload 10, 2) := by decide +kernel
theorem dX10_foldCells_96 : decode cX10_foldCells 96 = .ok (.iload 9, 2) := by decide +kernel
theorem dX10_foldCells_98 : decode cX10_foldCells 98 = .ok (.if_icmp .ge 54, 3) := by decide +kernel
theorem dX10_foldCells_101 : decode cX10_foldCells 101 = .ok (.iload_n 2, 1) := by decide +kernel
theorem dX10_foldCells_102 : decode cX10_foldCells 102 = .ok (.iload_n 3, 1) := by decide +kernel
theorem dX10_foldCells_103 : decode cX10_foldCells 103 = .ok (.iload 8, 2) := by decide +kernel
theorem dX10_foldCells_105 : decode cX10_foldCells 105 = .ok (.iload 10, 2) := by decide +kernel
theorem dX10_foldCells_107 : decode cX10_foldCells 107 = .ok (.invokestatic 65, 3) := by decide +kernel
theorem dX10_foldCells_110 : decode cX10_foldCells 110 = .ok (.ifCond .eq 36, 3) := by decide +kernel
theorem dX10_foldCells_113 : decode cX10_foldCells 113 = .ok (.iload 7, 2) := by decide +kernel
theorem dX10_foldCells_115 : decode cX10_foldCells 115 = .ok (.aload_n 0, 1) := by decide +kernel
theorem dX10_foldCells_116 : decode cX10_foldCells 116 = .ok (.aload_n 0, 1) := by decide +kernel
theorem dX10_foldCells_117 : decode cX10_foldCells 117 = .ok (.getfield 9, 3) := by decide +kernel
theorem dX10_foldCells_120 : decode cX10_foldCells 120 = .ok (.iload_n 1, 1) := by decide +kernel
theorem dX10_foldCells_121 : decode cX10_foldCells 121 = .ok (.iload 8, 2) := by decide +kernel
theorem dX10_foldCells_123 : decode cX10_foldCells 123 = .ok (.invokevirtual 68, 3) := by decide +kernel
theorem dX10_foldCells_126 : decode cX10_foldCells 126 = .ok (.iload 10, 2) := by decide +kernel
theorem dX10_foldCells_128 : decode cX10_foldCells 128 = .ok (.iload 4, 2) := by decide +kernel
theorem dX10_foldCells_130 : decode cX10_foldCells 130 = .ok (.iload 5, 2) := by decide +kernel
theorem dX10_foldCells_132 : decode cX10_foldCells 132 = .ok (.invokevirtual 72, 3) := by decide +kernel
theorem dX10_foldCells_135 : decode cX10_foldCells 135 = .ok (.ifCond .eq 7, 3) := by decide +kernel
theorem dX10_foldCells_138 : decode cX10_foldCells 138 = .ok (.iconst 0, 1) := by decide +kernel
theorem dX10_foldCells_139 : decode cX10_foldCells 139 = .ok (.goto 4, 3) := by decide +kernel
theorem dX10_foldCells_142 : decode cX10_foldCells 142 = .ok (.iconst 1, 1) := by decide +kernel
theorem dX10_foldCells_143 : decode cX10_foldCells 143 = .ok (.iadd, 1) := by decide +kernel
theorem dX10_foldCells_144 : decode cX10_foldCells 144 = .ok (.istore 7, 2) := by decide +kernel
theorem dX10_foldCells_146 : decode cX10_foldCells 146 = .ok (.iinc 10 1, 3) := by decide +kernel
theorem dX10_foldCells_149 : decode cX10_foldCells 149 = .ok (.goto (-55), 3) := by decide +kernel
theorem dX10_foldCells_152 : decode cX10_foldCells 152 = .ok (.iinc 8 1, 3) := by decide +kernel
theorem dX10_foldCells_155 : decode cX10_foldCells 155 = .ok (.goto (-90), 3) := by decide +kernel
theorem dX10_foldCells_158 : decode cX10_foldCells 158 = .ok (.aload_n 0, 1) := by decide +kernel
theorem dX10_foldCells_159 : decode cX10_foldCells 159 = .ok (.getfield 15, 3) := by decide +kernel
theorem dX10_foldCells_162 : decode cX10_foldCells 162 = .ok (.iload 4, 2) := by decide +kernel
theorem dX10_foldCells_164 : decode cX10_foldCells 164 = .ok (.iconst 4, 1) := by decide +kernel
theorem dX10_foldCells_165 : decode cX10_foldCells 165 = .ok (.if_icmp .ne 11, 3) := by decide +kernel
theorem dX10_foldCells_168 : decode cX10_foldCells 168 = .ok (.aload_n 0, 1) := by decide +kernel
theorem dX10_foldCells_169 : decode cX10_foldCells 169 = .ok (.getfield 31, 3) := by decide +kernel
theorem dX10_foldCells_172 : decode cX10_foldCells 172 = .ok (.i2l, 1) := by decide +kernel
theorem dX10_foldCells_173 : decode cX10_foldCells 173 = .ok (.goto 24, 3) := by decide +kernel
theorem dX10_foldCells_176 : decode cX10_foldCells 176 = .ok (.iload 5, 2) := by decide +kernel
theorem dX10_foldCells_178 : decode cX10_foldCells 178 = .ok (.bipush 7, 2) := by decide +kernel
theorem dX10_foldCells_180 : decode cX10_foldCells 180 = .ok (.if_icmp .ne 13, 3) := by decide +kernel
theorem dX10_foldCells_183 : decode cX10_foldCells 183 = .ok (.aload_n 0, 1) := by decide +kernel
theorem dX10_foldCells_184 : decode cX10_foldCells 184 = .ok (.getfield 27, 3) := by decide +kernel
theorem dX10_foldCells_187 : decode cX10_foldCells 187 = .ok (.invokestatic 76, 3) := by decide +kernel
theorem dX10_foldCells_190 : decode cX10_foldCells 190 = .ok (.goto 7, 3) := by decide +kernel
theorem dX10_foldCells_193 : decode cX10_foldCells 193 = .ok (.aload_n 0, 1) := by decide +kernel
theorem dX10_foldCells_194 : decode cX10_foldCells 194 = .ok (.getfield 23, 3) := by decide +kernel
theorem dX10_foldCells_197 : decode cX10_foldCells 197 = .ok (.putfield 80, 3) := by decide +kernel
theorem dX10_foldCells_200 : decode cX10_foldCells 200 = .ok (.aload_n 0, 1) := by decide +kernel
theorem dX10_foldCells_201 : decode cX10_foldCells 201 = .ok (.getfield 15, 3) := by decide +kernel
theorem dX10_foldCells_204 : decode cX10_foldCells 204 = .ok (.iload 7, 2) := by decide +kernel
theorem dX10_foldCells_206 : decode cX10_foldCells 206 = .ok (.putfield 85, 3) := by decide +kernel
theorem dX10_foldCells_209 : decode cX10_foldCells 209 = .ok (.aload_n 0, 1) := by decide +kernel
theorem dX10_foldCells_210 : decode cX10_foldCells 210 = .ok (.getfield 35, 3) := by decide +kernel
theorem dX10_foldCells_213 : decode cX10_foldCells 213 = .ok (.ireturn, 1) := by decide +kernel
theorem dX10_take_0 : decode cX10_take 0 = .ok (.aload_n 1, 1) := by decide +kernel
theorem dX10_take_1 : decode cX10_take 1 = .ok (.ifnull 15, 3) := by decide +kernel
theorem dX10_take_4 : decode cX10_take 4 = .ok (.aload_n 1, 1) := by decide +kernel
theorem dX10_take_5 : decode cX10_take 5 = .ok (.getfield 88, 3) := by decide +kernel
theorem dX10_take_8 : decode cX10_take 8 = .ok (.iload 4, 2) := by decide +kernel
theorem dX10_take_10 : decode cX10_take 10 = .ok (.invokestatic 93, 3) := by decide +kernel
theorem dX10_take_13 : decode cX10_take 13 = .ok (.ifCond .ne 5, 3) := by decide +kernel
theorem dX10_take_16 : decode cX10_take 16 = .ok (.iconst 0, 1) := by decide +kernel
theorem dX10_take_17 : decode cX10_take 17 = .ok (.ireturn, 1) := by decide +kernel
theorem dX10_take_18 : decode cX10_take 18 = .ok (.iload 4, 2) := by decide +kernel
theorem dX10_take_20 : decode cX10_take 20 = .ok (.bipush 7, 2) := by decide +kernel
theorem dX10_take_22 : decode cX10_take 22 = .ok (.if_icmp .ne 60, 3) := by decide +kernel
theorem dX10_take_25 : decode cX10_take 25 = .ok (.aload_n 1, 1) := by decide +kernel
theorem dX10_take_26 : decode cX10_take 26 = .ok (.iload_n 2, 1) := by decide +kernel
theorem dX10_take_27 : decode cX10_take 27 = .ok (.invokevirtual 97, 3) := by decide +kernel
theorem dX10_take_30 : decode cX10_take 30 = .ok (.dstore 5, 2) := by decide +kernel
theorem dX10_take_32 : decode cX10_take 32 = .ok (.aload_n 0, 1) := by decide +kernel
theorem dX10_take_33 : decode cX10_take 33 = .ok (.aload_n 0, 1) := by decide +kernel
theorem dX10_take_34 : decode cX10_take 34 = .ok (.getfield 35, 3) := by decide +kernel
theorem dX10_take_37 : decode cX10_take 37 = .ok (.ifCond .ne 8, 3) := by decide +kernel
theorem dX10_take_40 : decode cX10_take 40 = .ok (.dload 5, 2) := by decide +kernel
theorem dX10_take_42 : decode cX10_take 42 = .ok (.goto 13, 3) := by decide +kernel
theorem dX10_take_45 : decode cX10_take 45 = .ok (.iload_n 3, 1) := by decide +kernel
theorem dX10_take_46 : decode cX10_take 46 = .ok (.aload_n 0, 1) := by decide +kernel
theorem dX10_take_47 : decode cX10_take 47 = .ok (.getfield 27, 3) := by decide +kernel
theorem dX10_take_50 : decode cX10_take 50 = .ok (.dload 5, 2) := by decide +kernel
theorem dX10_take_52 : decode cX10_take 52 = .ok (.invokestatic 101, 3) := by decide +kernel
theorem dX10_take_55 : decode cX10_take 55 = .ok (.putfield 27, 3) := by decide +kernel
theorem dX10_take_58 : decode cX10_take 58 = .ok (.aload_n 0, 1) := by decide +kernel
theorem dX10_take_59 : decode cX10_take 59 = .ok (.dup, 1) := by decide +kernel
theorem dX10_take_60 : decode cX10_take 60 = .ok (.getfield 31, 3) := by decide +kernel
theorem dX10_take_63 : decode cX10_take 63 = .ok (.dload 5, 2) := by decide +kernel
theorem dX10_take_65 : decode cX10_take 65 = .ok (.dconst 0, 1) := by decide +kernel
theorem dX10_take_66 : decode cX10_take 66 = .ok (.dcmp .l, 1) := by decide +kernel
theorem dX10_take_67 : decode cX10_take 67 = .ok (.ifCond .eq 7, 3) := by decide +kernel
theorem dX10_take_70 : decode cX10_take 70 = .ok (.iconst 1, 1) := by decide +kernel
theorem dX10_take_71 : decode cX10_take 71 = .ok (.goto 4, 3) := by decide +kernel
theorem dX10_take_74 : decode cX10_take 74 = .ok (.iconst 0, 1) := by decide +kernel
theorem dX10_take_75 : decode cX10_take 75 = .ok (.iadd, 1) := by decide +kernel
theorem dX10_take_76 : decode cX10_take 76 = .ok (.putfield 31, 3) := by decide +kernel
theorem dX10_take_79 : decode cX10_take 79 = .ok (.goto 63, 3) := by decide +kernel
theorem dX10_take_82 : decode cX10_take 82 = .ok (.aload_n 1, 1) := by decide +kernel
theorem dX10_take_83 : decode cX10_take 83 = .ok (.getfield 105, 3) := by decide +kernel
theorem dX10_take_86 : decode cX10_take 86 = .ok (.iload_n 2, 1) := by decide +kernel
theorem dX10_take_87 : decode cX10_take 87 = .ok (.laload, 1) := by decide +kernel
theorem dX10_take_88 : decode cX10_take 88 = .ok (.lstore 5, 2) := by decide +kernel
theorem dX10_take_90 : decode cX10_take 90 = .ok (.aload_n 0, 1) := by decide +kernel
theorem dX10_take_91 : decode cX10_take 91 = .ok (.aload_n 0, 1) := by decide +kernel
theorem dX10_take_92 : decode cX10_take 92 = .ok (.getfield 35, 3) := by decide +kernel
theorem dX10_take_95 : decode cX10_take 95 = .ok (.ifCond .ne 8, 3) := by decide +kernel
theorem dX10_take_98 : decode cX10_take 98 = .ok (.lload 5, 2) := by decide +kernel
theorem dX10_take_100 : decode cX10_take 100 = .ok (.goto 18, 3) := by decide +kernel
theorem dX10_take_103 : decode cX10_take 103 = .ok (.iload 4, 2) := by decide +kernel
theorem dX10_take_105 : decode cX10_take 105 = .ok (.iload_n 3, 1) := by decide +kernel
theorem dX10_take_106 : decode cX10_take 106 = .ok (.aload_n 0, 1) := by decide +kernel
theorem dX10_take_107 : decode cX10_take 107 = .ok (.getfield 23, 3) := by decide +kernel
theorem dX10_take_110 : decode cX10_take 110 = .ok (.lload 5, 2) := by decide +kernel
theorem dX10_take_112 : decode cX10_take 112 = .ok (.invokestatic 108, 3) := by decide +kernel
theorem dX10_take_115 : decode cX10_take 115 = .ok (.invokestatic 112, 3) := by decide +kernel
theorem dX10_take_118 : decode cX10_take 118 = .ok (.putfield 23, 3) := by decide +kernel
theorem dX10_take_121 : decode cX10_take 121 = .ok (.aload_n 0, 1) := by decide +kernel
theorem dX10_take_122 : decode cX10_take 122 = .ok (.dup, 1) := by decide +kernel
theorem dX10_take_123 : decode cX10_take 123 = .ok (.getfield 31, 3) := by decide +kernel
theorem dX10_take_126 : decode cX10_take 126 = .ok (.lload 5, 2) := by decide +kernel
theorem dX10_take_128 : decode cX10_take 128 = .ok (.lconst 0, 1) := by decide +kernel
theorem dX10_take_129 : decode cX10_take 129 = .ok (.lcmp, 1) := by decide +kernel
theorem dX10_take_130 : decode cX10_take 130 = .ok (.ifCond .eq 7, 3) := by decide +kernel
theorem dX10_take_133 : decode cX10_take 133 = .ok (.iconst 1, 1) := by decide +kernel
theorem dX10_take_134 : decode cX10_take 134 = .ok (.goto 4, 3) := by decide +kernel
theorem dX10_take_137 : decode cX10_take 137 = .ok (.iconst 0, 1) := by decide +kernel
theorem dX10_take_138 : decode cX10_take 138 = .ok (.iadd, 1) := by decide +kernel
theorem dX10_take_139 : decode cX10_take 139 = .ok (.putfield 31, 3) := by decide +kernel
theorem dX10_take_142 : decode cX10_take 142 = .ok (.aload_n 0, 1) := by decide +kernel
theorem dX10_take_143 : decode cX10_take 143 = .ok (.dup, 1) := by decide +kernel
theorem dX10_take_144 : decode cX10_take 144 = .ok (.getfield 35, 3) := by decide +kernel
theorem dX10_take_147 : decode cX10_take 147 = .ok (.iconst 1, 1) := by decide +kernel
theorem dX10_take_148 : decode cX10_take 148 = .ok (.iadd, 1) := by decide +kernel
theorem dX10_take_149 : decode cX10_take 149 = .ok (.putfield 35, 3) := by decide +kernel
theorem dX10_take_152 : decode cX10_take 152 = .ok (.iconst 1, 1) := by decide +kernel
theorem dX10_take_153 : decode cX10_take 153 = .ok (.ireturn, 1) := by decide +kernel
theorem dX10_combineReals_0 : decode cX10_combineReals 0 = .ok (.iload_n 0, 1) := by decide +kernel
theorem dX10_combineReals_1 : decode cX10_combineReals 1 = .ok (.lookupswitch 51 #[(1, 27), (2, 39)], 27) := by decide +kernel
theorem dX10_combineReals_28 : decode cX10_combineReals 28 = .ok (.dload_n 3, 1) := by decide +kernel
theorem dX10_combineReals_29 : decode cX10_combineReals 29 = .ok (.dload_n 1, 1) := by decide +kernel
theorem dX10_combineReals_30 : decode cX10_combineReals 30 = .ok (.dcmp .g, 1) := by decide +kernel
theorem dX10_combineReals_31 : decode cX10_combineReals 31 = .ok (.ifCond .ge 7, 3) := by decide +kernel
theorem dX10_combineReals_34 : decode cX10_combineReals 34 = .ok (.dload_n 3, 1) := by decide +kernel
theorem dX10_combineReals_35 : decode cX10_combineReals 35 = .ok (.goto 4, 3) := by decide +kernel
theorem dX10_combineReals_38 : decode cX10_combineReals 38 = .ok (.dload_n 1, 1) := by decide +kernel
theorem dX10_combineReals_39 : decode cX10_combineReals 39 = .ok (.dreturn, 1) := by decide +kernel
theorem dX10_combineReals_40 : decode cX10_combineReals 40 = .ok (.dload_n 3, 1) := by decide +kernel
theorem dX10_combineReals_41 : decode cX10_combineReals 41 = .ok (.dload_n 1, 1) := by decide +kernel
theorem dX10_combineReals_42 : decode cX10_combineReals 42 = .ok (.dcmp .l, 1) := by decide +kernel
theorem dX10_combineReals_43 : decode cX10_combineReals 43 = .ok (.ifCond .le 7, 3) := by decide +kernel
theorem dX10_combineReals_46 : decode cX10_combineReals 46 = .ok (.dload_n 3, 1) := by decide +kernel
theorem dX10_combineReals_47 : decode cX10_combineReals 47 = .ok (.goto 4, 3) := by decide +kernel
theorem dX10_combineReals_50 : decode cX10_combineReals 50 = .ok (.dload_n 1, 1) := by decide +kernel
theorem dX10_combineReals_51 : decode cX10_combineReals 51 = .ok (.dreturn, 1) := by decide +kernel
theorem dX10_combineReals_52 : decode cX10_combineReals 52 = .ok (.dload_n 1, 1) := by decide +kernel
theorem dX10_combineReals_53 : decode cX10_combineReals 53 = .ok (.dload_n 3, 1) := by decide +kernel
theorem dX10_combineReals_54 : decode cX10_combineReals 54 = .ok (.dadd, 1) := by decide +kernel
theorem dX10_combineReals_55 : decode cX10_combineReals 55 = .ok (.dreturn, 1) := by decide +kernel
theorem dX10_combineWholes_0 : decode cX10_combineWholes 0 = .ok (.iload_n 0, 1) := by decide +kernel
theorem dX10_combineWholes_1 : decode cX10_combineWholes 1 = .ok (.tableswitch 43 1 3 #[27, 33, 39], 27) := by decide +kernel
theorem dX10_combineWholes_28 : decode cX10_combineWholes 28 = .ok (.lload_n 1, 1) := by decide +kernel
theorem dX10_combineWholes_29 : decode cX10_combineWholes 29 = .ok (.lload_n 3, 1) := by decide +kernel
theorem dX10_combineWholes_30 : decode cX10_combineWholes 30 = .ok (.invokestatic 116, 3) := by decide +kernel
theorem dX10_combineWholes_33 : decode cX10_combineWholes 33 = .ok (.lreturn, 1) := by decide +kernel
theorem dX10_combineWholes_34 : decode cX10_combineWholes 34 = .ok (.lload_n 1, 1) := by decide +kernel
theorem dX10_combineWholes_35 : decode cX10_combineWholes 35 = .ok (.lload_n 3, 1) := by decide +kernel
theorem dX10_combineWholes_36 : decode cX10_combineWholes 36 = .ok (.invokestatic 122, 3) := by decide +kernel
theorem dX10_combineWholes_39 : decode cX10_combineWholes 39 = .ok (.lreturn, 1) := by decide +kernel
theorem dX10_combineWholes_40 : decode cX10_combineWholes 40 = .ok (.lload_n 1, 1) := by decide +kernel
theorem dX10_combineWholes_41 : decode cX10_combineWholes 41 = .ok (.lload_n 3, 1) := by decide +kernel
theorem dX10_combineWholes_42 : decode cX10_combineWholes 42 = .ok (.lxor, 1) := by decide +kernel
theorem dX10_combineWholes_43 : decode cX10_combineWholes 43 = .ok (.lreturn, 1) := by decide +kernel
theorem dX10_combineWholes_44 : decode cX10_combineWholes 44 = .ok (.lload_n 1, 1) := by decide +kernel
theorem dX10_combineWholes_45 : decode cX10_combineWholes 45 = .ok (.lload_n 3, 1) := by decide +kernel
theorem dX10_combineWholes_46 : decode cX10_combineWholes 46 = .ok (.ladd, 1) := by decide +kernel
theorem dX10_combineWholes_47 : decode cX10_combineWholes 47 = .ok (.lreturn, 1) := by decide +kernel
theorem dX10_sumProducts_0 : decode cX10_sumProducts 0 = .ok (.iload_n 1, 1) := by decide +kernel
theorem dX10_sumProducts_1 : decode cX10_sumProducts 1 = .ok (.invokestatic 38, 3) := by decide +kernel
theorem dX10_sumProducts_4 : decode cX10_sumProducts 4 = .ok (.ifCond .eq 18, 3) := by decide +kernel
theorem dX10_sumProducts_7 : decode cX10_sumProducts 7 = .ok (.iload_n 3, 1) := by decide +kernel
theorem dX10_sumProducts_8 : decode cX10_sumProducts 8 = .ok (.invokestatic 38, 3) := by decide +kernel
theorem dX10_sumProducts_11 : decode cX10_sumProducts 11 = .ok (.ifCond .eq 11, 3) := by decide +kernel
theorem dX10_sumProducts_14 : decode cX10_sumProducts 14 = .ok (.iload 5, 2) := by decide +kernel
theorem dX10_sumProducts_16 : decode cX10_sumProducts 16 = .ok (.invokestatic 19, 3) := by decide +kernel
theorem dX10_sumProducts_19 : decode cX10_sumProducts 19 = .ok (.ifCond .ne 5, 3) := by decide +kernel
theorem dX10_sumProducts_22 : decode cX10_sumProducts 22 = .ok (.iconst (-1), 1) := by decide +kernel
theorem dX10_sumProducts_23 : decode cX10_sumProducts 23 = .ok (.ireturn, 1) := by decide +kernel
theorem dX10_sumProducts_24 : decode cX10_sumProducts 24 = .ok (.aload_n 0, 1) := by decide +kernel
theorem dX10_sumProducts_25 : decode cX10_sumProducts 25 = .ok (.getfield 9, 3) := by decide +kernel
theorem dX10_sumProducts_28 : decode cX10_sumProducts 28 = .ok (.iload_n 1, 1) := by decide +kernel
theorem dX10_sumProducts_29 : decode cX10_sumProducts 29 = .ok (.iload_n 2, 1) := by decide +kernel
theorem dX10_sumProducts_30 : decode cX10_sumProducts 30 = .ok (.invokevirtual 68, 3) := by decide +kernel
theorem dX10_sumProducts_33 : decode cX10_sumProducts 33 = .ok (.astore 6, 2) := by decide +kernel
theorem dX10_sumProducts_35 : decode cX10_sumProducts 35 = .ok (.aload 6, 2) := by decide +kernel
theorem dX10_sumProducts_37 : decode cX10_sumProducts 37 = .ok (.ifnonnull 13, 3) := by decide +kernel
theorem dX10_sumProducts_40 : decode cX10_sumProducts 40 = .ok (.aload_n 0, 1) := by decide +kernel
theorem dX10_sumProducts_41 : decode cX10_sumProducts 41 = .ok (.getfield 9, 3) := by decide +kernel
theorem dX10_sumProducts_44 : decode cX10_sumProducts 44 = .ok (.iload_n 1, 1) := by decide +kernel
theorem dX10_sumProducts_45 : decode cX10_sumProducts 45 = .ok (.iload_n 2, 1) := by decide +kernel
theorem dX10_sumProducts_46 : decode cX10_sumProducts 46 = .ok (.invokevirtual 125, 3) := by decide +kernel
theorem dX10_sumProducts_49 : decode cX10_sumProducts 49 = .ok (.ireturn, 1) := by decide +kernel
theorem dX10_sumProducts_50 : decode cX10_sumProducts 50 = .ok (.aload_n 0, 1) := by decide +kernel
theorem dX10_sumProducts_51 : decode cX10_sumProducts 51 = .ok (.getfield 9, 3) := by decide +kernel
theorem dX10_sumProducts_54 : decode cX10_sumProducts 54 = .ok (.iload_n 3, 1) := by decide +kernel
theorem dX10_sumProducts_55 : decode cX10_sumProducts 55 = .ok (.iload 4, 2) := by decide +kernel
theorem dX10_sumProducts_57 : decode cX10_sumProducts 57 = .ok (.invokevirtual 68, 3) := by decide +kernel
theorem dX10_sumProducts_60 : decode cX10_sumProducts 60 = .ok (.astore 7, 2) := by decide +kernel
theorem dX10_sumProducts_62 : decode cX10_sumProducts 62 = .ok (.aload 7, 2) := by decide +kernel
theorem dX10_sumProducts_64 : decode cX10_sumProducts 64 = .ok (.ifnonnull 14, 3) := by decide +kernel
theorem dX10_sumProducts_67 : decode cX10_sumProducts 67 = .ok (.aload_n 0, 1) := by decide +kernel
theorem dX10_sumProducts_68 : decode cX10_sumProducts 68 = .ok (.getfield 9, 3) := by decide +kernel
theorem dX10_sumProducts_71 : decode cX10_sumProducts 71 = .ok (.iload_n 3, 1) := by decide +kernel
theorem dX10_sumProducts_72 : decode cX10_sumProducts 72 = .ok (.iload 4, 2) := by decide +kernel
theorem dX10_sumProducts_74 : decode cX10_sumProducts 74 = .ok (.invokevirtual 125, 3) := by decide +kernel
theorem dX10_sumProducts_77 : decode cX10_sumProducts 77 = .ok (.ireturn, 1) := by decide +kernel
theorem dX10_sumProducts_78 : decode cX10_sumProducts 78 = .ok (.aload 6, 2) := by decide +kernel
theorem dX10_sumProducts_80 : decode cX10_sumProducts 80 = .ok (.getfield 128, 3) := by decide +kernel
theorem dX10_sumProducts_83 : decode cX10_sumProducts 83 = .ok (.aload 7, 2) := by decide +kernel
theorem dX10_sumProducts_85 : decode cX10_sumProducts 85 = .ok (.getfield 128, 3) := by decide +kernel
theorem dX10_sumProducts_88 : decode cX10_sumProducts 88 = .ok (.invokestatic 131, 3) := by decide +kernel
theorem dX10_sumProducts_91 : decode cX10_sumProducts 91 = .ok (.istore 8, 2) := by decide +kernel
theorem dX10_sumProducts_93 : decode cX10_sumProducts 93 = .ok (.iload 8, 2) := by decide +kernel
theorem dX10_sumProducts_95 : decode cX10_sumProducts 95 = .ok (.ifCond .le 32, 3) := by decide +kernel
theorem dX10_sumProducts_98 : decode cX10_sumProducts 98 = .ok (.aload 6, 2) := by decide +kernel
theorem dX10_sumProducts_100 : decode cX10_sumProducts 100 = .ok (.getfield 88, 3) := by decide +kernel
theorem dX10_sumProducts_103 : decode cX10_sumProducts 103 = .ok (.iload 5, 2) := by decide +kernel
theorem dX10_sumProducts_105 : decode cX10_sumProducts 105 = .ok (.invokestatic 93, 3) := by decide +kernel
theorem dX10_sumProducts_108 : decode cX10_sumProducts 108 = .ok (.ifCond .eq 16, 3) := by decide +kernel
theorem dX10_sumProducts_111 : decode cX10_sumProducts 111 = .ok (.aload 7, 2) := by decide +kernel
theorem dX10_sumProducts_113 : decode cX10_sumProducts 113 = .ok (.getfield 88, 3) := by decide +kernel
theorem dX10_sumProducts_116 : decode cX10_sumProducts 116 = .ok (.iload 5, 2) := by decide +kernel
theorem dX10_sumProducts_118 : decode cX10_sumProducts 118 = .ok (.invokestatic 93, 3) := by decide +kernel
theorem dX10_sumProducts_121 : decode cX10_sumProducts 121 = .ok (.ifCond .ne 6, 3) := by decide +kernel
theorem dX10_sumProducts_124 : decode cX10_sumProducts 124 = .ok (.bipush (-7), 2) := by decide +kernel
theorem dX10_sumProducts_126 : decode cX10_sumProducts 126 = .ok (.ireturn, 1) := by decide +kernel
theorem dX10_sumProducts_127 : decode cX10_sumProducts 127 = .ok (.aload_n 0, 1) := by decide +kernel
theorem dX10_sumProducts_128 : decode cX10_sumProducts 128 = .ok (.invokevirtual 55, 3) := by decide +kernel
theorem dX10_sumProducts_131 : decode cX10_sumProducts 131 = .ok (.iconst 0, 1) := by decide +kernel
theorem dX10_sumProducts_132 : decode cX10_sumProducts 132 = .ok (.istore 9, 2) := by decide +kernel
theorem dX10_sumProducts_134 : decode cX10_sumProducts 134 = .ok (.iload 9, 2) := by decide +kernel
theorem dX10_sumProducts_136 : decode cX10_sumProducts 136 = .ok (.iload 8, 2) := by decide +kernel
theorem dX10_sumProducts_138 : decode cX10_sumProducts 138 = .ok (.if_icmp .ge 74, 3) := by decide +kernel
theorem dX10_sumProducts_141 : decode cX10_sumProducts 141 = .ok (.iload 5, 2) := by decide +kernel
theorem dX10_sumProducts_143 : decode cX10_sumProducts 143 = .ok (.bipush 7, 2) := by decide +kernel
theorem dX10_sumProducts_145 : decode cX10_sumProducts 145 = .ok (.if_icmp .ne 30, 3) := by decide +kernel
theorem dX10_sumProducts_148 : decode cX10_sumProducts 148 = .ok (.aload_n 0, 1) := by decide +kernel
theorem dX10_sumProducts_149 : decode cX10_sumProducts 149 = .ok (.dup, 1) := by decide +kernel
theorem dX10_sumProducts_150 : decode cX10_sumProducts 150 = .ok (.getfield 27, 3) := by decide +kernel
theorem dX10_sumProducts_153 : decode cX10_sumProducts 153 = .ok (.aload 6, 2) := by decide +kernel
theorem dX10_sumProducts_155 : decode cX10_sumProducts 155 = .ok (.iload 9, 2) := by decide +kernel
theorem dX10_sumProducts_157 : decode cX10_sumProducts 157 = .ok (.invokevirtual 97, 3) := by decide +kernel
theorem dX10_sumProducts_160 : decode cX10_sumProducts 160 = .ok (.aload 7, 2) := by decide +kernel
theorem dX10_sumProducts_162 : decode cX10_sumProducts 162 = .ok (.iload 9, 2) := by decide +kernel
theorem dX10_sumProducts_164 : decode cX10_sumProducts 164 = .ok (.invokevirtual 97, 3) := by decide +kernel
theorem dX10_sumProducts_167 : decode cX10_sumProducts 167 = .ok (.dmul, 1) := by decide +kernel
theorem dX10_sumProducts_168 : decode cX10_sumProducts 168 = .ok (.dadd, 1) := by decide +kernel
theorem dX10_sumProducts_169 : decode cX10_sumProducts 169 = .ok (.putfield 27, 3) := by decide +kernel
theorem dX10_sumProducts_172 : decode cX10_sumProducts 172 = .ok (.goto 34, 3) := by decide +kernel
theorem dX10_sumProducts_175 : decode cX10_sumProducts 175 = .ok (.aload_n 0, 1) := by decide +kernel
theorem dX10_sumProducts_176 : decode cX10_sumProducts 176 = .ok (.iload 5, 2) := by decide +kernel
theorem dX10_sumProducts_178 : decode cX10_sumProducts 178 = .ok (.aload_n 0, 1) := by decide +kernel
theorem dX10_sumProducts_179 : decode cX10_sumProducts 179 = .ok (.getfield 23, 3) := by decide +kernel
theorem dX10_sumProducts_182 : decode cX10_sumProducts 182 = .ok (.aload 6, 2) := by decide +kernel
theorem dX10_sumProducts_184 : decode cX10_sumProducts 184 = .ok (.getfield 105, 3) := by decide +kernel
theorem dX10_sumProducts_187 : decode cX10_sumProducts 187 = .ok (.iload 9, 2) := by decide +kernel
theorem dX10_sumProducts_189 : decode cX10_sumProducts 189 = .ok (.laload, 1) := by decide +kernel
theorem dX10_sumProducts_190 : decode cX10_sumProducts 190 = .ok (.aload 7, 2) := by decide +kernel
theorem dX10_sumProducts_192 : decode cX10_sumProducts 192 = .ok (.getfield 105, 3) := by decide +kernel
theorem dX10_sumProducts_195 : decode cX10_sumProducts 195 = .ok (.iload 9, 2) := by decide +kernel
theorem dX10_sumProducts_197 : decode cX10_sumProducts 197 = .ok (.laload, 1) := by decide +kernel
theorem dX10_sumProducts_198 : decode cX10_sumProducts 198 = .ok (.lmul, 1) := by decide +kernel
theorem dX10_sumProducts_199 : decode cX10_sumProducts 199 = .ok (.ladd, 1) := by decide +kernel
theorem dX10_sumProducts_200 : decode cX10_sumProducts 200 = .ok (.invokestatic 112, 3) := by decide +kernel
theorem dX10_sumProducts_203 : decode cX10_sumProducts 203 = .ok (.putfield 23, 3) := by decide +kernel
theorem dX10_sumProducts_206 : decode cX10_sumProducts 206 = .ok (.iinc 9 1, 3) := by decide +kernel
theorem dX10_sumProducts_209 : decode cX10_sumProducts 209 = .ok (.goto (-75), 3) := by decide +kernel
theorem dX10_sumProducts_212 : decode cX10_sumProducts 212 = .ok (.aload_n 0, 1) := by decide +kernel
theorem dX10_sumProducts_213 : decode cX10_sumProducts 213 = .ok (.getfield 15, 3) := by decide +kernel
theorem dX10_sumProducts_216 : decode cX10_sumProducts 216 = .ok (.iload 5, 2) := by decide +kernel
theorem dX10_sumProducts_218 : decode cX10_sumProducts 218 = .ok (.bipush 7, 2) := by decide +kernel
theorem dX10_sumProducts_220 : decode cX10_sumProducts 220 = .ok (.if_icmp .ne 13, 3) := by decide +kernel
theorem dX10_sumProducts_223 : decode cX10_sumProducts 223 = .ok (.aload_n 0, 1) := by decide +kernel
theorem dX10_sumProducts_224 : decode cX10_sumProducts 224 = .ok (.getfield 27, 3) := by decide +kernel
theorem dX10_sumProducts_227 : decode cX10_sumProducts 227 = .ok (.invokestatic 76, 3) := by decide +kernel
theorem dX10_sumProducts_230 : decode cX10_sumProducts 230 = .ok (.goto 7, 3) := by decide +kernel
theorem dX10_sumProducts_233 : decode cX10_sumProducts 233 = .ok (.aload_n 0, 1) := by decide +kernel
theorem dX10_sumProducts_234 : decode cX10_sumProducts 234 = .ok (.getfield 23, 3) := by decide +kernel
theorem dX10_sumProducts_237 : decode cX10_sumProducts 237 = .ok (.putfield 80, 3) := by decide +kernel
theorem dX10_sumProducts_240 : decode cX10_sumProducts 240 = .ok (.iload 8, 2) := by decide +kernel
theorem dX10_sumProducts_242 : decode cX10_sumProducts 242 = .ok (.ireturn, 1) := by decide +kernel
theorem dX11_init_0 : decode cX11_init 0 = .ok (.aload_n 0, 1) := by decide +kernel
theorem dX11_init_1 : decode cX11_init 1 = .ok (.invokespecial 3, 3) := by decide +kernel
theorem dX11_init_4 : decode cX11_init 4 = .ok (.aload_n 0, 1) := by decide +kernel
theorem dX11_init_5 : decode cX11_init 5 = .ok (.aload_n 1, 1) := by decide +kernel
theorem dX11_init_6 : decode cX11_init 6 = .ok (.putfield 9, 3) := by decide +kernel
theorem dX11_init_9 : decode cX11_init 9 = .ok (.aload_n 0, 1) := by decide +kernel
theorem dX11_init_10 : decode cX11_init 10 = .ok (.aload_n 2, 1) := by decide +kernel
theorem dX11_init_11 : decode cX11_init 11 = .ok (.putfield 15, 3) := by decide +kernel
theorem dX11_init_14 : decode cX11_init 14 = .ok (.return_, 1) := by decide +kernel
theorem dX11_flatten_0 : decode cX11_flatten 0 = .ok (.iload_n 1, 1) := by decide +kernel
theorem dX11_flatten_1 : decode cX11_flatten 1 = .ok (.invokestatic 19, 3) := by decide +kernel
theorem dX11_flatten_4 : decode cX11_flatten 4 = .ok (.ifCond .eq 10, 3) := by decide +kernel
theorem dX11_flatten_7 : decode cX11_flatten 7 = .ok (.iload_n 2, 1) := by decide +kernel
theorem dX11_flatten_8 : decode cX11_flatten 8 = .ok (.invokestatic 19, 3) := by decide +kernel
theorem dX11_flatten_11 : decode cX11_flatten 11 = .ok (.ifCond .ne 5, 3) := by decide +kernel
theorem dX11_flatten_14 : decode cX11_flatten 14 = .ok (.iconst (-1), 1) := by decide +kernel
theorem dX11_flatten_15 : decode cX11_flatten 15 = .ok (.ireturn, 1) := by decide +kernel
theorem dX11_flatten_16 : decode cX11_flatten 16 = .ok (.aload_n 0, 1) := by decide +kernel
theorem dX11_flatten_17 : decode cX11_flatten 17 = .ok (.getfield 9, 3) := by decide +kernel
theorem dX11_flatten_20 : decode cX11_flatten 20 = .ok (.iload_n 1, 1) := by decide +kernel
theorem dX11_flatten_21 : decode cX11_flatten 21 = .ok (.invokevirtual 23, 3) := by decide +kernel
theorem dX11_flatten_24 : decode cX11_flatten 24 = .ok (.istore 4, 2) := by decide +kernel
theorem dX11_flatten_26 : decode cX11_flatten 26 = .ok (.iload 4, 2) := by decide +kernel
theorem dX11_flatten_28 : decode cX11_flatten 28 = .ok (.ifCond .ne 14, 3) := by decide +kernel
theorem dX11_flatten_31 : decode cX11_flatten 31 = .ok (.aload_n 0, 1) := by decide +kernel
theorem dX11_flatten_32 : decode cX11_flatten 32 = .ok (.getfield 9, 3) := by decide +kernel
theorem dX11_flatten_35 : decode cX11_flatten 35 = .ok (.iload_n 2, 1) := by decide +kernel
theorem dX11_flatten_36 : decode cX11_flatten 36 = .ok (.iload_n 3, 1) := by decide +kernel
theorem dX11_flatten_37 : decode cX11_flatten 37 = .ok (.invokevirtual 29, 3) := by decide +kernel
theorem dX11_flatten_40 : decode cX11_flatten 40 = .ok (.istore 4, 2) := by decide +kernel
theorem dX11_flatten_42 : decode cX11_flatten 42 = .ok (.iload 4, 2) := by decide +kernel
theorem dX11_flatten_44 : decode cX11_flatten 44 = .ok (.ifCond .ge 6, 3) := by decide +kernel
theorem dX11_flatten_47 : decode cX11_flatten 47 = .ok (.iload 4, 2) := by decide +kernel
theorem dX11_flatten_49 : decode cX11_flatten 49 = .ok (.ireturn, 1) := by decide +kernel
theorem dX11_flatten_50 : decode cX11_flatten 50 = .ok (.iconst 0, 1) := by decide +kernel
theorem dX11_flatten_51 : decode cX11_flatten 51 = .ok (.istore 5, 2) := by decide +kernel
theorem dX11_flatten_53 : decode cX11_flatten 53 = .ok (.iconst 0, 1) := by decide +kernel
theorem dX11_flatten_54 : decode cX11_flatten 54 = .ok (.istore 6, 2) := by decide +kernel
theorem dX11_flatten_56 : decode cX11_flatten 56 = .ok (.iconst 0, 1) := by decide +kernel
theorem dX11_flatten_57 : decode cX11_flatten 57 = .ok (.istore 7, 2) := by decide +kernel
theorem dX11_flatten_59 : decode cX11_flatten 59 = .ok (.iload 7, 2) := by decide +kernel
theorem dX11_flatten_61 : decode cX11_flatten 61 = .ok (.aload_n 0, 1) := by decide +kernel
theorem dX11_flatten_62 : decode cX11_flatten 62 = .ok (.getfield 9, 3) := by decide +kernel
theorem dX11_flatten_65 : decode cX11_flatten 65 = .ok (.getfield 33, 3) := by decide +kernel
theorem dX11_flatten_68 : decode cX11_flatten 68 = .ok (.iload_n 1, 1) := by decide +kernel
theorem dX11_flatten_69 : decode cX11_flatten 69 = .ok (.iaload, 1) := by decide +kernel
theorem dX11_flatten_70 : decode cX11_flatten 70 = .ok (.if_icmp .ge 48, 3) := by decide +kernel
theorem dX11_flatten_73 : decode cX11_flatten 73 = .ok (.aload_n 0, 1) := by decide +kernel
theorem dX11_flatten_74 : decode cX11_flatten 74 = .ok (.getfield 9, 3) := by decide +kernel
theorem dX11_flatten_77 : decode cX11_flatten 77 = .ok (.iload_n 1, 1) := by decide +kernel
theorem dX11_flatten_78 : decode cX11_flatten 78 = .ok (.iload 7, 2) := by decide +kernel
theorem dX11_flatten_80 : decode cX11_flatten 80 = .ok (.invokevirtual 37, 3) := by decide +kernel
theorem dX11_flatten_83 : decode cX11_flatten 83 = .ok (.astore 8, 2) := by decide +kernel
theorem dX11_flatten_85 : decode cX11_flatten 85 = .ok (.aload 8, 2) := by decide +kernel
theorem dX11_flatten_87 : decode cX11_flatten 87 = .ok (.ifnull 25, 3) := by decide +kernel
theorem dX11_flatten_90 : decode cX11_flatten 90 = .ok (.iload 5, 2) := by decide +kernel
theorem dX11_flatten_92 : decode cX11_flatten 92 = .ok (.aload 8, 2) := by decide +kernel
theorem dX11_flatten_94 : decode cX11_flatten 94 = .ok (.getfield 41, 3) := by decide +kernel
theorem dX11_flatten_97 : decode cX11_flatten 97 = .ok (.iadd, 1) := by decide +kernel
theorem dX11_flatten_98 : decode cX11_flatten 98 = .ok (.istore 5, 2) := by decide +kernel
theorem dX11_flatten_100 : decode cX11_flatten 100 = .ok (.iload 6, 2) := by decide +kernel
theorem dX11_flatten_102 : decode cX11_flatten 102 = .ok (.iconst 1, 1) := by decide +kernel
theorem dX11_flatten_103 : decode cX11_flatten 103 = .ok (.aload 8, 2) := by decide +kernel
theorem dX11_flatten_105 : decode cX11_flatten 105 = .ok (.getfield 47, 3) := by decide +kernel
theorem dX11_flatten_108 : decode cX11_flatten 108 = .ok (.ishl, 1) := by decide +kernel
theorem dX11_flatten_109 : decode cX11_flatten 109 = .ok (.ior, 1) := by decide +kernel
theorem dX11_flatten_110 : decode cX11_flatten 110 = .ok (.istore 6, 2) := by decide +kernel
theorem dX11_flatten_112 : decode cX11_flatten 112 = .ok (.iinc 7 1, 3) := by decide +kernel
theorem dX11_flatten_115 : decode cX11_flatten 115 = .ok (.goto (-56), 3) := by decide +kernel
theorem dX11_flatten_118 : decode cX11_flatten 118 = .ok (.iload 5, 2) := by decide +kernel
theorem dX11_flatten_120 : decode cX11_flatten 120 = .ok (.bipush 12, 2) := by decide +kernel
theorem dX11_flatten_122 : decode cX11_flatten 122 = .ok (.if_icmp .le 6, 3) := by decide +kernel
theorem dX11_flatten_125 : decode cX11_flatten 125 = .ok (.bipush (-10), 2) := by decide +kernel
theorem dX11_flatten_127 : decode cX11_flatten 127 = .ok (.ireturn, 1) := by decide +kernel
theorem dX11_flatten_128 : decode cX11_flatten 128 = .ok (.aload_n 0, 1) := by decide +kernel
theorem dX11_flatten_129 : decode cX11_flatten 129 = .ok (.getfield 9, 3) := by decide +kernel
theorem dX11_flatten_132 : decode cX11_flatten 132 = .ok (.iload 6, 2) := by decide +kernel
theorem dX11_flatten_134 : decode cX11_flatten 134 = .ok (.invokestatic 50, 3) := by decide +kernel
theorem dX11_flatten_137 : decode cX11_flatten 137 = .ok (.iload 5, 2) := by decide +kernel
theorem dX11_flatten_139 : decode cX11_flatten 139 = .ok (.invokevirtual 53, 3) := by decide +kernel
theorem dX11_flatten_142 : decode cX11_flatten 142 = .ok (.astore 7, 2) := by decide +kernel
theorem dX11_flatten_144 : decode cX11_flatten 144 = .ok (.iconst 0, 1) := by decide +kernel
theorem dX11_flatten_145 : decode cX11_flatten 145 = .ok (.istore 8, 2) := by decide +kernel
theorem dX11_flatten_147 : decode cX11_flatten 147 = .ok (.iconst 0, 1) := by decide +kernel
theorem dX11_flatten_148 : decode cX11_flatten 148 = .ok (.istore 9, 2) := by decide +kernel
theorem dX11_flatten_150 : decode cX11_flatten 150 = .ok (.iload 9, 2) := by decide +kernel
theorem dX11_flatten_152 : decode cX11_flatten 152 = .ok (.aload_n 0, 1) := by decide +kernel
theorem dX11_flatten_153 : decode cX11_flatten 153 = .ok (.getfield 9, 3) := by decide +kernel
theorem dX11_flatten_156 : decode cX11_flatten 156 = .ok (.getfield 33, 3) := by decide +kernel
theorem dX11_flatten_159 : decode cX11_flatten 159 = .ok (.iload_n 1, 1) := by decide +kernel
theorem dX11_flatten_160 : decode cX11_flatten 160 = .ok (.iaload, 1) := by decide +kernel
theorem dX11_flatten_161 : decode cX11_flatten 161 = .ok (.if_icmp .ge 51, 3) := by decide +kernel
theorem dX11_flatten_164 : decode cX11_flatten 164 = .ok (.aload_n 0, 1) := by decide +kernel
theorem dX11_flatten_165 : decode cX11_flatten 165 = .ok (.getfield 9, 3) := by decide +kernel
theorem dX11_flatten_168 : decode cX11_flatten 168 = .ok (.iload_n 1, 1) := by decide +kernel
theorem dX11_flatten_169 : decode cX11_flatten 169 = .ok (.iload 9, 2) := by decide +kernel
theorem dX11_flatten_171 : decode cX11_flatten 171 = .ok (.invokevirtual 37, 3) := by decide +kernel
theorem dX11_flatten_174 : decode cX11_flatten 174 = .ok (.astore 10, 2) := by decide +kernel
theorem dX11_flatten_176 : decode cX11_flatten 176 = .ok (.aload 10, 2) := by decide +kernel
theorem dX11_flatten_178 : decode cX11_flatten 178 = .ok (.ifnull 28, 3) := by decide +kernel
theorem dX11_flatten_181 : decode cX11_flatten 181 = .ok (.aload 7, 2) := by decide +kernel
theorem dX11_flatten_183 : decode cX11_flatten 183 = .ok (.iload 8, 2) := by decide +kernel
theorem dX11_flatten_185 : decode cX11_flatten 185 = .ok (.aload 10, 2) := by decide +kernel
theorem dX11_flatten_187 : decode cX11_flatten 187 = .ok (.iconst 0, 1) := by decide +kernel
theorem dX11_flatten_188 : decode cX11_flatten 188 = .ok (.aload 10, 2) := by decide +kernel
theorem dX11_flatten_190 : decode cX11_flatten 190 = .ok (.getfield 41, 3) := by decide +kernel
theorem dX11_flatten_193 : decode cX11_flatten 193 = .ok (.invokestatic 56, 3) := by decide +kernel
theorem dX11_flatten_196 : decode cX11_flatten 196 = .ok (.iload 8, 2) := by decide +kernel
theorem dX11_flatten_198 : decode cX11_flatten 198 = .ok (.aload 10, 2) := by decide +kernel
theorem dX11_flatten_200 : decode cX11_flatten 200 = .ok (.getfield 41, 3) := by decide +kernel
theorem dX11_flatten_203 : decode cX11_flatten 203 = .ok (.iadd, 1) := by decide +kernel
theorem dX11_flatten_204 : decode cX11_flatten 204 = .ok (.istore 8, 2) := by decide +kernel
theorem dX11_flatten_206 : decode cX11_flatten 206 = .ok (.iinc 9 1, 3) := by decide +kernel
theorem dX11_flatten_209 : decode cX11_flatten 209 = .ok (.goto (-59), 3) := by decide +kernel
theorem dX11_flatten_212 : decode cX11_flatten 212 = .ok (.aload_n 0, 1) := by decide +kernel
theorem dX11_flatten_213 : decode cX11_flatten 213 = .ok (.getfield 9, 3) := by decide +kernel
theorem dX11_flatten_216 : decode cX11_flatten 216 = .ok (.iload_n 2, 1) := by decide +kernel
theorem dX11_flatten_217 : decode cX11_flatten 217 = .ok (.iload_n 3, 1) := by decide +kernel
theorem dX11_flatten_218 : decode cX11_flatten 218 = .ok (.aload 7, 2) := by decide +kernel
theorem dX11_flatten_220 : decode cX11_flatten 220 = .ok (.invokevirtual 62, 3) := by decide +kernel
theorem dX11_flatten_223 : decode cX11_flatten 223 = .ok (.iload 5, 2) := by decide +kernel
theorem dX11_flatten_225 : decode cX11_flatten 225 = .ok (.ireturn, 1) := by decide +kernel
theorem dX11_dealOut_0 : decode cX11_dealOut 0 = .ok (.iload_n 1, 1) := by decide +kernel
theorem dX11_dealOut_1 : decode cX11_dealOut 1 = .ok (.invokestatic 19, 3) := by decide +kernel
theorem dX11_dealOut_4 : decode cX11_dealOut 4 = .ok (.ifCond .eq 22, 3) := by decide +kernel
theorem dX11_dealOut_7 : decode cX11_dealOut 7 = .ok (.iload 4, 2) := by decide +kernel
theorem dX11_dealOut_9 : decode cX11_dealOut 9 = .ok (.invokestatic 19, 3) := by decide +kernel
theorem dX11_dealOut_12 : decode cX11_dealOut 12 = .ok (.ifCond .eq 14, 3) := by decide +kernel
theorem dX11_dealOut_15 : decode cX11_dealOut 15 = .ok (.iload_n 3, 1) := by decide +kernel
theorem dX11_dealOut_16 : decode cX11_dealOut 16 = .ok (.iconst 1, 1) := by decide +kernel
theorem dX11_dealOut_17 : decode cX11_dealOut 17 = .ok (.if_icmp .lt 9, 3) := by decide +kernel
theorem dX11_dealOut_20 : decode cX11_dealOut 20 = .ok (.iload_n 3, 1) := by decide +kernel
theorem dX11_dealOut_21 : decode cX11_dealOut 21 = .ok (.bipush 12, 2) := by decide +kernel
theorem dX11_dealOut_23 : decode cX11_dealOut 23 = .ok (.if_icmp .le 5, 3) := by decide +kernel
theorem dX11_dealOut_26 : decode cX11_dealOut 26 = .ok (.iconst (-1), 1) := by decide +kernel
theorem dX11_dealOut_27 : decode cX11_dealOut 27 = .ok (.ireturn, 1) := by decide +kernel
theorem dX11_dealOut_28 : decode cX11_dealOut 28 = .ok (.aload_n 0, 1) := by decide +kernel
theorem dX11_dealOut_29 : decode cX11_dealOut 29 = .ok (.getfield 9, 3) := by decide +kernel
theorem dX11_dealOut_32 : decode cX11_dealOut 32 = .ok (.iload_n 1, 1) := by decide +kernel
theorem dX11_dealOut_33 : decode cX11_dealOut 33 = .ok (.iload_n 2, 1) := by decide +kernel
theorem dX11_dealOut_34 : decode cX11_dealOut 34 = .ok (.invokevirtual 37, 3) := by decide +kernel
theorem dX11_dealOut_37 : decode cX11_dealOut 37 = .ok (.astore 5, 2) := by decide +kernel
theorem dX11_dealOut_39 : decode cX11_dealOut 39 = .ok (.aload 5, 2) := by decide +kernel
theorem dX11_dealOut_41 : decode cX11_dealOut 41 = .ok (.ifnonnull 13, 3) := by decide +kernel
theorem dX11_dealOut_44 : decode cX11_dealOut 44 = .ok (.aload_n 0, 1) := by decide +kernel
theorem dX11_dealOut_45 : decode cX11_dealOut 45 = .ok (.getfield 9, 3) := by decide +kernel
theorem dX11_dealOut_48 : decode cX11_dealOut 48 = .ok (.iload_n 1, 1) := by decide +kernel
theorem dX11_dealOut_49 : decode cX11_dealOut 49 = .ok (.iload_n 2, 1) := by decide +kernel
theorem dX11_dealOut_50 : decode cX11_dealOut 50 = .ok (.invokevirtual 66, 3) := by decide +kernel
theorem dX11_dealOut_53 : decode cX11_dealOut 53 = .ok (.ireturn, 1) := by decide +kernel
theorem dX11_dealOut_54 : decode cX11_dealOut 54 = .ok (.aload 5, 2) := by decide +kernel
theorem dX11_dealOut_56 : decode cX11_dealOut 56 = .ok (.getfield 41, 3) := by decide +kernel
theorem dX11_dealOut_59 : decode cX11_dealOut 59 = .ok (.iload_n 3, 1) := by decide +kernel
theorem dX11_dealOut_60 : decode cX11_dealOut 60 = .ok (.iadd, 1) := by decide +kernel
theorem dX11_dealOut_61 : decode cX11_dealOut 61 = .ok (.iconst 1, 1) := by decide +kernel
theorem dX11_dealOut_62 : decode cX11_dealOut 62 = .ok (.isub, 1) := by decide +kernel
theorem dX11_dealOut_63 : decode cX11_dealOut 63 = .ok (.iload_n 3, 1) := by decide +kernel
theorem dX11_dealOut_64 : decode cX11_dealOut 64 = .ok (.idiv, 1) := by decide +kernel
theorem dX11_dealOut_65 : decode cX11_dealOut 65 = .ok (.istore 6, 2) := by decide +kernel
theorem dX11_dealOut_67 : decode cX11_dealOut 67 = .ok (.iload 6, 2) := by decide +kernel
theorem dX11_dealOut_69 : decode cX11_dealOut 69 = .ok (.bipush 6, 2) := by decide +kernel
theorem dX11_dealOut_71 : decode cX11_dealOut 71 = .ok (.if_icmp .le 6, 3) := by decide +kernel
theorem dX11_dealOut_74 : decode cX11_dealOut 74 = .ok (.bipush (-10), 2) := by decide +kernel
theorem dX11_dealOut_76 : decode cX11_dealOut 76 = .ok (.ireturn, 1) := by decide +kernel
theorem dX11_dealOut_77 : decode cX11_dealOut 77 = .ok (.aload_n 0, 1) := by decide +kernel
theorem dX11_dealOut_78 : decode cX11_dealOut 78 = .ok (.getfield 9, 3) := by decide +kernel
theorem dX11_dealOut_81 : decode cX11_dealOut 81 = .ok (.iload 6, 2) := by decide +kernel
theorem dX11_dealOut_83 : decode cX11_dealOut 83 = .ok (.invokevirtual 69, 3) := by decide +kernel
theorem dX11_dealOut_86 : decode cX11_dealOut 86 = .ok (.iconst 0, 1) := by decide +kernel
theorem dX11_dealOut_87 : decode cX11_dealOut 87 = .ok (.istore 7, 2) := by decide +kernel
theorem dX11_dealOut_89 : decode cX11_dealOut 89 = .ok (.iload 7, 2) := by decide +kernel
theorem dX11_dealOut_91 : decode cX11_dealOut 91 = .ok (.iload 6, 2) := by decide +kernel
theorem dX11_dealOut_93 : decode cX11_dealOut 93 = .ok (.if_icmp .ge 53, 3) := by decide +kernel
theorem dX11_dealOut_96 : decode cX11_dealOut 96 = .ok (.iload_n 3, 1) := by decide +kernel
theorem dX11_dealOut_97 : decode cX11_dealOut 97 = .ok (.aload 5, 2) := by decide +kernel
theorem dX11_dealOut_99 : decode cX11_dealOut 99 = .ok (.getfield 41, 3) := by decide +kernel
theorem dX11_dealOut_102 : decode cX11_dealOut 102 = .ok (.iload 7, 2) := by decide +kernel
theorem dX11_dealOut_104 : decode cX11_dealOut 104 = .ok (.iload_n 3, 1) := by decide +kernel
theorem dX11_dealOut_105 : decode cX11_dealOut 105 = .ok (.imul, 1) := by decide +kernel
theorem dX11_dealOut_106 : decode cX11_dealOut 106 = .ok (.isub, 1) := by decide +kernel
theorem dX11_dealOut_107 : decode cX11_dealOut 107 = .ok (.invokestatic 73, 3) := by decide +kernel
theorem dX11_dealOut_110 : decode cX11_dealOut 110 = .ok (.istore 8, 2) := by decide +kernel
theorem dX11_dealOut_112 : decode cX11_dealOut 112 = .ok (.aload_n 0, 1) := by decide +kernel
theorem dX11_dealOut_113 : decode cX11_dealOut 113 = .ok (.getfield 9, 3) := by decide +kernel
theorem dX11_dealOut_116 : decode cX11_dealOut 116 = .ok (.iload 7, 2) := by decide +kernel
theorem dX11_dealOut_118 : decode cX11_dealOut 118 = .ok (.aload 5, 2) := by decide +kernel
theorem dX11_dealOut_120 : decode cX11_dealOut 120 = .ok (.getfield 47, 3) := by decide +kernel
theorem dX11_dealOut_123 : decode cX11_dealOut 123 = .ok (.iload 8, 2) := by decide +kernel
theorem dX11_dealOut_125 : decode cX11_dealOut 125 = .ok (.invokevirtual 78, 3) := by decide +kernel
theorem dX11_dealOut_128 : decode cX11_dealOut 128 = .ok (.iconst 0, 1) := by decide +kernel
theorem dX11_dealOut_129 : decode cX11_dealOut 129 = .ok (.aload 5, 2) := by decide +kernel
theorem dX11_dealOut_131 : decode cX11_dealOut 131 = .ok (.iload 7, 2) := by decide +kernel
theorem dX11_dealOut_133 : decode cX11_dealOut 133 = .ok (.iload_n 3, 1) := by decide +kernel
theorem dX11_dealOut_134 : decode cX11_dealOut 134 = .ok (.imul, 1) := by decide +kernel
theorem dX11_dealOut_135 : decode cX11_dealOut 135 = .ok (.iload 8, 2) := by decide +kernel
theorem dX11_dealOut_137 : decode cX11_dealOut 137 = .ok (.invokestatic 56, 3) := by decide +kernel
theorem dX11_dealOut_140 : decode cX11_dealOut 140 = .ok (.iinc 7 1, 3) := by decide +kernel
theorem dX11_dealOut_143 : decode cX11_dealOut 143 = .ok (.goto (-54), 3) := by decide +kernel
theorem dX11_dealOut_146 : decode cX11_dealOut 146 = .ok (.aload_n 0, 1) := by decide +kernel
theorem dX11_dealOut_147 : decode cX11_dealOut 147 = .ok (.getfield 9, 3) := by decide +kernel
theorem dX11_dealOut_150 : decode cX11_dealOut 150 = .ok (.iload 4, 2) := by decide +kernel
theorem dX11_dealOut_152 : decode cX11_dealOut 152 = .ok (.invokevirtual 82, 3) := by decide +kernel
theorem dX11_dealOut_155 : decode cX11_dealOut 155 = .ok (.ireturn, 1) := by decide +kernel
theorem dX11_transpose_0 : decode cX11_transpose 0 = .ok (.iload_n 1, 1) := by decide +kernel
theorem dX11_transpose_1 : decode cX11_transpose 1 = .ok (.invokestatic 19, 3) := by decide +kernel
theorem dX11_transpose_4 : decode cX11_transpose 4 = .ok (.ifCond .eq 10, 3) := by decide +kernel
theorem dX11_transpose_7 : decode cX11_transpose 7 = .ok (.iload_n 2, 1) := by decide +kernel
theorem dX11_transpose_8 : decode cX11_transpose 8 = .ok (.invokestatic 19, 3) := by decide +kernel
theorem dX11_transpose_11 : decode cX11_transpose 11 = .ok (.ifCond .ne 5, 3) := by decide +kernel
theorem dX11_transpose_14 : decode cX11_transpose 14 = .ok (.iconst (-1), 1) := by decide +kernel
theorem dX11_transpose_15 : decode cX11_transpose 15 = .ok (.ireturn, 1) := by decide +kernel
theorem dX11_transpose_16 : decode cX11_transpose 16 = .ok (.aload_n 0, 1) := by decide +kernel
theorem dX11_transpose_17 : decode cX11_transpose 17 = .ok (.getfield 9, 3) := by decide +kernel
theorem dX11_transpose_20 : decode cX11_transpose 20 = .ok (.iload_n 1, 1) := by decide +kernel
theorem dX11_transpose_21 : decode cX11_transpose 21 = .ok (.invokevirtual 23, 3) := by decide +kernel
theorem dX11_transpose_24 : decode cX11_transpose 24 = .ok (.istore_n 3, 1) := by decide +kernel
theorem dX11_transpose_25 : decode cX11_transpose 25 = .ok (.iload_n 3, 1) := by decide +kernel
theorem dX11_transpose_26 : decode cX11_transpose 26 = .ok (.ifCond .ge 5, 3) := by decide +kernel
theorem dX11_transpose_29 : decode cX11_transpose 29 = .ok (.iload_n 3, 1) := by decide +kernel
theorem dX11_transpose_30 : decode cX11_transpose 30 = .ok (.ireturn, 1) := by decide +kernel
theorem dX11_transpose_31 : decode cX11_transpose 31 = .ok (.aload_n 0, 1) := by decide +kernel
theorem dX11_transpose_32 : decode cX11_transpose 32 = .ok (.getfield 9, 3) := by decide +kernel
theorem dX11_transpose_35 : decode cX11_transpose 35 = .ok (.iload_n 1, 1) := by decide +kernel
theorem dX11_transpose_36 : decode cX11_transpose 36 = .ok (.invokevirtual 85, 3) := by decide +kernel
theorem dX11_transpose_39 : decode cX11_transpose 39 = .ok (.istore 4, 2) := by decide +kernel
theorem dX11_transpose_41 : decode cX11_transpose 41 = .ok (.iload 4, 2) := by decide +kernel
theorem dX11_transpose_43 : decode cX11_transpose 43 = .ok (.bipush 6, 2) := by decide +kernel
theorem dX11_transpose_45 : decode cX11_transpose 45 = .ok (.if_icmp .le 6, 3) := by decide +kernel
theorem dX11_transpose_48 : decode cX11_transpose 48 = .ok (.bipush (-10), 2) := by decide +kernel
theorem dX11_transpose_50 : decode cX11_transpose 50 = .ok (.ireturn, 1) := by decide +kernel
theorem dX11_transpose_51 : decode cX11_transpose 51 = .ok (.aload_n 0, 1) := by decide +kernel
theorem dX11_transpose_52 : decode cX11_transpose 52 = .ok (.getfield 9, 3) := by decide +kernel
theorem dX11_transpose_55 : decode cX11_transpose 55 = .ok (.iload 4, 2) := by decide +kernel
theorem dX11_transpose_57 : decode cX11_transpose 57 = .ok (.invokevirtual 69, 3) := by decide +kernel
theorem dX11_transpose_60 : decode cX11_transpose 60 = .ok (.iconst 0, 1) := by decide +kernel
theorem dX11_transpose_61 : decode cX11_transpose 61 = .ok (.istore 5, 2) := by decide +kernel
theorem dX11_transpose_63 : decode cX11_transpose 63 = .ok (.iload 5, 2) := by decide +kernel
theorem dX11_transpose_65 : decode cX11_transpose 65 = .ok (.iload 4, 2) := by decide +kernel
theorem dX11_transpose_67 : decode cX11_transpose 67 = .ok (.if_icmp .ge 16, 3) := by decide +kernel
theorem dX11_transpose_70 : decode cX11_transpose 70 = .ok (.aload_n 0, 1) := by decide +kernel
theorem dX11_transpose_71 : decode cX11_transpose 71 = .ok (.iload_n 1, 1) := by decide +kernel
theorem dX11_transpose_72 : decode cX11_transpose 72 = .ok (.iload 5, 2) := by decide +kernel
theorem dX11_transpose_74 : decode cX11_transpose 74 = .ok (.invokevirtual 88, 3) := by decide +kernel
theorem dX11_transpose_77 : decode cX11_transpose 77 = .ok (.iinc 5 1, 3) := by decide +kernel
theorem dX11_transpose_80 : decode cX11_transpose 80 = .ok (.goto (-17), 3) := by decide +kernel
theorem dX11_transpose_83 : decode cX11_transpose 83 = .ok (.aload_n 0, 1) := by decide +kernel
theorem dX11_transpose_84 : decode cX11_transpose 84 = .ok (.getfield 9, 3) := by decide +kernel
theorem dX11_transpose_87 : decode cX11_transpose 87 = .ok (.iload_n 2, 1) := by decide +kernel
theorem dX11_transpose_88 : decode cX11_transpose 88 = .ok (.invokevirtual 82, 3) := by decide +kernel
theorem dX11_transpose_91 : decode cX11_transpose 91 = .ok (.ireturn, 1) := by decide +kernel
theorem dX11_makeColumn_0 : decode cX11_makeColumn 0 = .ok (.iconst 0, 1) := by decide +kernel
theorem dX11_makeColumn_1 : decode cX11_makeColumn 1 = .ok (.istore_n 3, 1) := by decide +kernel
theorem dX11_makeColumn_2 : decode cX11_makeColumn 2 = .ok (.iconst 0, 1) := by decide +kernel
theorem dX11_makeColumn_3 : decode cX11_makeColumn 3 = .ok (.istore 4, 2) := by decide +kernel
theorem dX11_makeColumn_5 : decode cX11_makeColumn 5 = .ok (.iconst 0, 1) := by decide +kernel
theorem dX11_makeColumn_6 : decode cX11_makeColumn 6 = .ok (.istore 5, 2) := by decide +kernel
theorem dX11_makeColumn_8 : decode cX11_makeColumn 8 = .ok (.iload 5, 2) := by decide +kernel
theorem dX11_makeColumn_10 : decode cX11_makeColumn 10 = .ok (.aload_n 0, 1) := by decide +kernel
theorem dX11_makeColumn_11 : decode cX11_makeColumn 11 = .ok (.getfield 9, 3) := by decide +kernel
theorem dX11_makeColumn_14 : decode cX11_makeColumn 14 = .ok (.getfield 33, 3) := by decide +kernel
theorem dX11_makeColumn_17 : decode cX11_makeColumn 17 = .ok (.iload_n 1, 1) := by decide +kernel
theorem dX11_makeColumn_18 : decode cX11_makeColumn 18 = .ok (.iaload, 1) := by decide +kernel
theorem dX11_makeColumn_19 : decode cX11_makeColumn 19 = .ok (.if_icmp .ge 50, 3) := by decide +kernel
theorem dX11_makeColumn_22 : decode cX11_makeColumn 22 = .ok (.aload_n 0, 1) := by decide +kernel
theorem dX11_makeColumn_23 : decode cX11_makeColumn 23 = .ok (.getfield 9, 3) := by decide +kernel
theorem dX11_makeColumn_26 : decode cX11_makeColumn 26 = .ok (.iload_n 1, 1) := by decide +kernel
theorem dX11_makeColumn_27 : decode cX11_makeColumn 27 = .ok (.iload 5, 2) := by decide +kernel
theorem dX11_makeColumn_29 : decode cX11_makeColumn 29 = .ok (.invokevirtual 37, 3) := by decide +kernel
theorem dX11_makeColumn_32 : decode cX11_makeColumn 32 = .ok (.astore 6, 2) := by decide +kernel
theorem dX11_makeColumn_34 : decode cX11_makeColumn 34 = .ok (.aload 6, 2) := by decide +kernel
theorem dX11_makeColumn_36 : decode cX11_makeColumn 36 = .ok (.ifnull 27, 3) := by decide +kernel
theorem dX11_makeColumn_39 : decode cX11_makeColumn 39 = .ok (.aload 6, 2) := by decide +kernel
theorem dX11_makeColumn_41 : decode cX11_makeColumn 41 = .ok (.iload_n 2, 1) := by decide +kernel
theorem dX11_makeColumn_42 : decode cX11_makeColumn 42 = .ok (.invokevirtual 92, 3) := by decide +kernel
theorem dX11_makeColumn_45 : decode cX11_makeColumn 45 = .ok (.ifCond .eq 18, 3) := by decide +kernel
theorem dX11_makeColumn_48 : decode cX11_makeColumn 48 = .ok (.iinc 3 1, 3) := by decide +kernel
theorem dX11_makeColumn_51 : decode cX11_makeColumn 51 = .ok (.iload 4, 2) := by decide +kernel
theorem dX11_makeColumn_53 : decode cX11_makeColumn 53 = .ok (.iconst 1, 1) := by decide +kernel
theorem dX11_makeColumn_54 : decode cX11_makeColumn 54 = .ok (.aload 6, 2) := by decide +kernel
theorem dX11_makeColumn_56 : decode cX11_makeColumn 56 = .ok (.getfield 47, 3) := by decide +kernel
theorem dX11_makeColumn_59 : decode cX11_makeColumn 59 = .ok (.ishl, 1) := by decide +kernel
theorem dX11_makeColumn_60 : decode cX11_makeColumn 60 = .ok (.ior, 1) := by decide +kernel
theorem dX11_makeColumn_61 : decode cX11_makeColumn 61 = .ok (.istore 4, 2) := by decide +kernel
theorem dX11_makeColumn_63 : decode cX11_makeColumn 63 = .ok (.iinc 5 1, 3) := by decide +kernel
theorem dX11_makeColumn_66 : decode cX11_makeColumn 66 = .ok (.goto (-58), 3) := by decide +kernel
theorem dX11_makeColumn_69 : decode cX11_makeColumn 69 = .ok (.aload_n 0, 1) := by decide +kernel
theorem dX11_makeColumn_70 : decode cX11_makeColumn 70 = .ok (.getfield 9, 3) := by decide +kernel
theorem dX11_makeColumn_73 : decode cX11_makeColumn 73 = .ok (.iload_n 2, 1) := by decide +kernel
theorem dX11_makeColumn_74 : decode cX11_makeColumn 74 = .ok (.iload 4, 2) := by decide +kernel
theorem dX11_makeColumn_76 : decode cX11_makeColumn 76 = .ok (.invokestatic 50, 3) := by decide +kernel
theorem dX11_makeColumn_79 : decode cX11_makeColumn 79 = .ok (.iload_n 3, 1) := by decide +kernel
theorem dX11_makeColumn_80 : decode cX11_makeColumn 80 = .ok (.invokevirtual 78, 3) := by decide +kernel
theorem dX11_makeColumn_83 : decode cX11_makeColumn 83 = .ok (.astore 5, 2) := by decide +kernel
theorem dX11_makeColumn_85 : decode cX11_makeColumn 85 = .ok (.iconst 0, 1) := by decide +kernel
theorem dX11_makeColumn_86 : decode cX11_makeColumn 86 = .ok (.istore 6, 2) := by decide +kernel
theorem dX11_makeColumn_88 : decode cX11_makeColumn 88 = .ok (.iconst 0, 1) := by decide +kernel
theorem dX11_makeColumn_89 : decode cX11_makeColumn 89 = .ok (.istore 7, 2) := by decide +kernel
theorem dX11_makeColumn_91 : decode cX11_makeColumn 91 = .ok (.iload 7, 2) := by decide +kernel
theorem dX11_makeColumn_93 : decode cX11_makeColumn 93 = .ok (.aload_n 0, 1) := by decide +kernel
theorem dX11_makeColumn_94 : decode cX11_makeColumn 94 = .ok (.getfield 9, 3) := by decide +kernel
theorem dX11_makeColumn_97 : decode cX11_makeColumn 97 = .ok (.getfield 33, 3) := by decide +kernel
theorem dX11_makeColumn_100 : decode cX11_makeColumn 100 = .ok (.iload_n 1, 1) := by decide +kernel
theorem dX11_makeColumn_101 : decode cX11_makeColumn 101 = .ok (.iaload, 1) := by decide +kernel
theorem dX11_makeColumn_102 : decode cX11_makeColumn 102 = .ok (.if_icmp .ge 49, 3) := by decide +kernel
theorem dX11_makeColumn_105 : decode cX11_makeColumn 105 = .ok (.aload_n 0, 1) := by decide +kernel
theorem dX11_makeColumn_106 : decode cX11_makeColumn 106 = .ok (.getfield 9, 3) := by decide +kernel
theorem dX11_makeColumn_109 : decode cX11_makeColumn 109 = .ok (.iload_n 1, 1) := by decide +kernel
theorem dX11_makeColumn_110 : decode cX11_makeColumn 110 = .ok (.iload 7, 2) := by decide +kernel
theorem dX11_makeColumn_112 : decode cX11_makeColumn 112 = .ok (.invokevirtual 37, 3) := by decide +kernel
theorem dX11_makeColumn_115 : decode cX11_makeColumn 115 = .ok (.astore 8, 2) := by decide +kernel
theorem dX11_makeColumn_117 : decode cX11_makeColumn 117 = .ok (.aload 8, 2) := by decide +kernel
theorem dX11_makeColumn_119 : decode cX11_makeColumn 119 = .ok (.ifnull 26, 3) := by decide +kernel
theorem dX11_makeColumn_122 : decode cX11_makeColumn 122 = .ok (.aload 8, 2) := by decide +kernel
theorem dX11_makeColumn_124 : decode cX11_makeColumn 124 = .ok (.iload_n 2, 1) := by decide +kernel
theorem dX11_makeColumn_125 : decode cX11_makeColumn 125 = .ok (.invokevirtual 92, 3) := by decide +kernel
theorem dX11_makeColumn_128 : decode cX11_makeColumn 128 = .ok (.ifCond .eq 17, 3) := by decide +kernel
theorem dX11_makeColumn_131 : decode cX11_makeColumn 131 = .ok (.aload 5, 2) := by decide +kernel
theorem dX11_makeColumn_133 : decode cX11_makeColumn 133 = .ok (.iload 6, 2) := by decide +kernel
theorem dX11_makeColumn_135 : decode cX11_makeColumn 135 = .ok (.aload 8, 2) := by decide +kernel
theorem dX11_makeColumn_137 : decode cX11_makeColumn 137 = .ok (.iload_n 2, 1) := by decide +kernel
theorem dX11_makeColumn_138 : decode cX11_makeColumn 138 = .ok (.invokevirtual 95, 3) := by decide +kernel
theorem dX11_makeColumn_141 : decode cX11_makeColumn 141 = .ok (.pop, 1) := by decide +kernel
theorem dX11_makeColumn_142 : decode cX11_makeColumn 142 = .ok (.iinc 6 1, 3) := by decide +kernel
theorem dX11_makeColumn_145 : decode cX11_makeColumn 145 = .ok (.iinc 7 1, 3) := by decide +kernel
theorem dX11_makeColumn_148 : decode cX11_makeColumn 148 = .ok (.goto (-57), 3) := by decide +kernel
theorem dX11_makeColumn_151 : decode cX11_makeColumn 151 = .ok (.return_, 1) := by decide +kernel
theorem dX11_multiply_0 : decode cX11_multiply 0 = .ok (.iload_n 1, 1) := by decide +kernel
theorem dX11_multiply_1 : decode cX11_multiply 1 = .ok (.invokestatic 19, 3) := by decide +kernel
theorem dX11_multiply_4 : decode cX11_multiply 4 = .ok (.ifCond .eq 17, 3) := by decide +kernel
theorem dX11_multiply_7 : decode cX11_multiply 7 = .ok (.iload_n 2, 1) := by decide +kernel
theorem dX11_multiply_8 : decode cX11_multiply 8 = .ok (.invokestatic 19, 3) := by decide +kernel
theorem dX11_multiply_11 : decode cX11_multiply 11 = .ok (.ifCond .eq 10, 3) := by decide +kernel
theorem dX11_multiply_14 : decode cX11_multiply 14 = .ok (.iload_n 3, 1) := by decide +kernel
theorem dX11_multiply_15 : decode cX11_multiply 15 = .ok (.invokestatic 19, 3) := by decide +kernel
theorem dX11_multiply_18 : decode cX11_multiply 18 = .ok (.ifCond .ne 5, 3) := by decide +kernel
theorem dX11_multiply_21 : decode cX11_multiply 21 = .ok (.iconst (-1), 1) := by decide +kernel
theorem dX11_multiply_22 : decode cX11_multiply 22 = .ok (.ireturn, 1) := by decide +kernel
theorem dX11_multiply_23 : decode cX11_multiply 23 = .ok (.aload_n 0, 1) := by decide +kernel
theorem dX11_multiply_24 : decode cX11_multiply 24 = .ok (.getfield 9, 3) := by decide +kernel
theorem dX11_multiply_27 : decode cX11_multiply 27 = .ok (.getfield 33, 3) := by decide +kernel
theorem dX11_multiply_30 : decode cX11_multiply 30 = .ok (.iload_n 1, 1) := by decide +kernel
theorem dX11_multiply_31 : decode cX11_multiply 31 = .ok (.iaload, 1) := by decide +kernel
theorem dX11_multiply_32 : decode cX11_multiply 32 = .ok (.ifCond .lt 15, 3) := by decide +kernel
theorem dX11_multiply_35 : decode cX11_multiply 35 = .ok (.aload_n 0, 1) := by decide +kernel
theorem dX11_multiply_36 : decode cX11_multiply 36 = .ok (.getfield 9, 3) := by decide +kernel
theorem dX11_multiply_39 : decode cX11_multiply 39 = .ok (.getfield 33, 3) := by decide +kernel
theorem dX11_multiply_42 : decode cX11_multiply 42 = .ok (.iload_n 2, 1) := by decide +kernel
theorem dX11_multiply_43 : decode cX11_multiply 43 = .ok (.iaload, 1) := by decide +kernel
theorem dX11_multiply_44 : decode cX11_multiply 44 = .ok (.ifCond .ge 6, 3) := by decide +kernel
theorem dX11_multiply_47 : decode cX11_multiply 47 = .ok (.bipush (-2), 2) := by decide +kernel
theorem dX11_multiply_49 : decode cX11_multiply 49 = .ok (.ireturn, 1) := by decide +kernel
theorem dX11_multiply_50 : decode cX11_multiply 50 = .ok (.aload_n 0, 1) := by decide +kernel
theorem dX11_multiply_51 : decode cX11_multiply 51 = .ok (.getfield 9, 3) := by decide +kernel
theorem dX11_multiply_54 : decode cX11_multiply 54 = .ok (.iload_n 1, 1) := by decide +kernel
theorem dX11_multiply_55 : decode cX11_multiply 55 = .ok (.iconst 5, 1) := by decide +kernel
theorem dX11_multiply_56 : decode cX11_multiply 56 = .ok (.invokevirtual 99, 3) := by decide +kernel
theorem dX11_multiply_59 : decode cX11_multiply 59 = .ok (.istore 4, 2) := by decide +kernel
theorem dX11_multiply_61 : decode cX11_multiply 61 = .ok (.iload 4, 2) := by decide +kernel
theorem dX11_multiply_63 : decode cX11_multiply 63 = .ok (.bipush (-9), 2) := by decide +kernel
theorem dX11_multiply_65 : decode cX11_multiply 65 = .ok (.if_icmp .ne 31, 3) := by decide +kernel
theorem dX11_multiply_68 : decode cX11_multiply 68 = .ok (.aload_n 0, 1) := by decide +kernel
theorem dX11_multiply_69 : decode cX11_multiply 69 = .ok (.getfield 9, 3) := by decide +kernel
theorem dX11_multiply_72 : decode cX11_multiply 72 = .ok (.iload_n 2, 1) := by decide +kernel
theorem dX11_multiply_73 : decode cX11_multiply 73 = .ok (.iconst 5, 1) := by decide +kernel
theorem dX11_multiply_74 : decode cX11_multiply 74 = .ok (.invokevirtual 99, 3) := by decide +kernel
theorem dX11_multiply_77 : decode cX11_multiply 77 = .ok (.bipush (-9), 2) := by decide +kernel
theorem dX11_multiply_79 : decode cX11_multiply 79 = .ok (.if_icmp .eq 17, 3) := by decide +kernel
theorem dX11_multiply_82 : decode cX11_multiply 82 = .ok (.bipush 10, 2) := by decide +kernel
theorem dX11_multiply_84 : decode cX11_multiply 84 = .ok (.aload_n 0, 1) := by decide +kernel
theorem dX11_multiply_85 : decode cX11_multiply 85 = .ok (.getfield 9, 3) := by decide +kernel
theorem dX11_multiply_88 : decode cX11_multiply 88 = .ok (.iload_n 2, 1) := by decide +kernel
theorem dX11_multiply_89 : decode cX11_multiply 89 = .ok (.iconst 5, 1) := by decide +kernel
theorem dX11_multiply_90 : decode cX11_multiply 90 = .ok (.invokevirtual 99, 3) := by decide +kernel
theorem dX11_multiply_93 : decode cX11_multiply 93 = .ok (.iadd, 1) := by decide +kernel
theorem dX11_multiply_94 : decode cX11_multiply 94 = .ok (.istore 4, 2) := by decide +kernel
theorem dX11_multiply_96 : decode cX11_multiply 96 = .ok (.iload 4, 2) := by decide +kernel
theorem dX11_multiply_98 : decode cX11_multiply 98 = .ok (.bipush (-9), 2) := by decide +kernel
theorem dX11_multiply_100 : decode cX11_multiply 100 = .ok (.if_icmp .eq 15, 3) := by decide +kernel
theorem dX11_multiply_103 : decode cX11_multiply 103 = .ok (.aload_n 0, 1) := by decide +kernel
theorem dX11_multiply_104 : decode cX11_multiply 104 = .ok (.getfield 15, 3) := by decide +kernel
theorem dX11_multiply_107 : decode cX11_multiply 107 = .ok (.iload 4, 2) := by decide +kernel
theorem dX11_multiply_109 : decode cX11_multiply 109 = .ok (.putfield 102, 3) := by decide +kernel
theorem dX11_multiply_112 : decode cX11_multiply 112 = .ok (.bipush (-7), 2) := by decide +kernel
theorem dX11_multiply_114 : decode cX11_multiply 114 = .ok (.ireturn, 1) := by decide +kernel
theorem dX11_multiply_115 : decode cX11_multiply 115 = .ok (.aload_n 0, 1) := by decide +kernel
theorem dX11_multiply_116 : decode cX11_multiply 116 = .ok (.getfield 9, 3) := by decide +kernel
theorem dX11_multiply_119 : decode cX11_multiply 119 = .ok (.iload_n 2, 1) := by decide +kernel
theorem dX11_multiply_120 : decode cX11_multiply 120 = .ok (.invokevirtual 85, 3) := by decide +kernel
theorem dX11_multiply_123 : decode cX11_multiply 123 = .ok (.istore 5, 2) := by decide +kernel
theorem dX11_multiply_125 : decode cX11_multiply 125 = .ok (.aload_n 0, 1) := by decide +kernel
theorem dX11_multiply_126 : decode cX11_multiply 126 = .ok (.getfield 9, 3) := by decide +kernel
theorem dX11_multiply_129 : decode cX11_multiply 129 = .ok (.aload_n 0, 1) := by decide +kernel
theorem dX11_multiply_130 : decode cX11_multiply 130 = .ok (.getfield 9, 3) := by decide +kernel
theorem dX11_multiply_133 : decode cX11_multiply 133 = .ok (.getfield 33, 3) := by decide +kernel
theorem dX11_multiply_136 : decode cX11_multiply 136 = .ok (.iload_n 1, 1) := by decide +kernel
theorem dX11_multiply_137 : decode cX11_multiply 137 = .ok (.iaload, 1) := by decide +kernel
theorem dX11_multiply_138 : decode cX11_multiply 138 = .ok (.invokevirtual 69, 3) := by decide +kernel
theorem dX11_multiply_141 : decode cX11_multiply 141 = .ok (.iconst 0, 1) := by decide +kernel
theorem dX11_multiply_142 : decode cX11_multiply 142 = .ok (.istore 6, 2) := by decide +kernel
theorem dX11_multiply_144 : decode cX11_multiply 144 = .ok (.iload 6, 2) := by decide +kernel
theorem dX11_multiply_146 : decode cX11_multiply 146 = .ok (.aload_n 0, 1) := by decide +kernel
theorem dX11_multiply_147 : decode cX11_multiply 147 = .ok (.getfield 9, 3) := by decide +kernel
theorem dX11_multiply_150 : decode cX11_multiply 150 = .ok (.getfield 33, 3) := by decide +kernel
theorem dX11_multiply_153 : decode cX11_multiply 153 = .ok (.iload_n 1, 1) := by decide +kernel
theorem dX11_multiply_154 : decode cX11_multiply 154 = .ok (.iaload, 1) := by decide +kernel
theorem dX11_multiply_155 : decode cX11_multiply 155 = .ok (.if_icmp .ge 45, 3) := by decide +kernel
theorem dX11_multiply_158 : decode cX11_multiply 158 = .ok (.aload_n 0, 1) := by decide +kernel
theorem dX11_multiply_159 : decode cX11_multiply 159 = .ok (.getfield 9, 3) := by decide +kernel
theorem dX11_multiply_162 : decode cX11_multiply 162 = .ok (.iload_n 1, 1) := by decide +kernel
theorem dX11_multiply_163 : decode cX11_multiply 163 = .ok (.iload 6, 2) := by decide +kernel
theorem dX11_multiply_165 : decode cX11_multiply 165 = .ok (.invokevirtual 37, 3) := by decide +kernel
theorem dX11_multiply_168 : decode cX11_multiply 168 = .ok (.astore 7, 2) := by decide +kernel
theorem dX11_multiply_170 : decode cX11_multiply 170 = .ok (.aload 7, 2) := by decide +kernel
theorem dX11_multiply_172 : decode cX11_multiply 172 = .ok (.ifnull 22, 3) := by decide +kernel
theorem dX11_multiply_175 : decode cX11_multiply 175 = .ok (.aload_n 0, 1) := by decide +kernel
theorem dX11_multiply_176 : decode cX11_multiply 176 = .ok (.aload_n 0, 1) := by decide +kernel
theorem dX11_multiply_177 : decode cX11_multiply 177 = .ok (.getfield 9, 3) := by decide +kernel
theorem dX11_multiply_180 : decode cX11_multiply 180 = .ok (.iload 6, 2) := by decide +kernel
theorem dX11_multiply_182 : decode cX11_multiply 182 = .ok (.iconst 5, 1) := by decide +kernel
theorem dX11_multiply_183 : decode cX11_multiply 183 = .ok (.iload 5, 2) := by decide +kernel
theorem dX11_multiply_185 : decode cX11_multiply 185 = .ok (.invokevirtual 78, 3) := by decide +kernel
theorem dX11_multiply_188 : decode cX11_multiply 188 = .ok (.aload 7, 2) := by decide +kernel
theorem dX11_multiply_190 : decode cX11_multiply 190 = .ok (.iload_n 2, 1) := by decide +kernel
theorem dX11_multiply_191 : decode cX11_multiply 191 = .ok (.invokevirtual 107, 3) := by decide +kernel
theorem dX11_multiply_194 : decode cX11_multiply 194 = .ok (.iinc 6 1, 3) := by decide +kernel
theorem dX11_multiply_197 : decode cX11_multiply 197 = .ok (.goto (-53), 3) := by decide +kernel
theorem dX11_multiply_200 : decode cX11_multiply 200 = .ok (.aload_n 0, 1) := by decide +kernel
theorem dX11_multiply_201 : decode cX11_multiply 201 = .ok (.getfield 9, 3) := by decide +kernel
theorem dX11_multiply_204 : decode cX11_multiply 204 = .ok (.iload_n 3, 1) := by decide +kernel
theorem dX11_multiply_205 : decode cX11_multiply 205 = .ok (.invokevirtual 82, 3) := by decide +kernel
theorem dX11_multiply_208 : decode cX11_multiply 208 = .ok (.ireturn, 1) := by decide +kernel
theorem dX11_addProducts_0 : decode cX11_addProducts 0 = .ok (.iconst 0, 1) := by decide +kernel
theorem dX11_addProducts_1 : decode cX11_addProducts 1 = .ok (.istore 4, 2) := by decide +kernel
theorem dX11_addProducts_3 : decode cX11_addProducts 3 = .ok (.iload 4, 2) := by decide +kernel
theorem dX11_addProducts_5 : decode cX11_addProducts 5 = .ok (.aload_n 2, 1) := by decide +kernel
theorem dX11_addProducts_6 : decode cX11_addProducts 6 = .ok (.getfield 41, 3) := by decide +kernel
theorem dX11_addProducts_9 : decode cX11_addProducts 9 = .ok (.if_icmp .ge 71, 3) := by decide +kernel
theorem dX11_addProducts_12 : decode cX11_addProducts 12 = .ok (.aload_n 0, 1) := by decide +kernel
theorem dX11_addProducts_13 : decode cX11_addProducts 13 = .ok (.getfield 9, 3) := by decide +kernel
theorem dX11_addProducts_16 : decode cX11_addProducts 16 = .ok (.iload_n 3, 1) := by decide +kernel
theorem dX11_addProducts_17 : decode cX11_addProducts 17 = .ok (.iload 4, 2) := by decide +kernel
theorem dX11_addProducts_19 : decode cX11_addProducts 19 = .ok (.invokevirtual 37, 3) := by decide +kernel
theorem dX11_addProducts_22 : decode cX11_addProducts 22 = .ok (.astore 5, 2) := by decide +kernel
theorem dX11_addProducts_24 : decode cX11_addProducts 24 = .ok (.aload 5, 2) := by decide +kernel
theorem dX11_addProducts_26 : decode cX11_addProducts 26 = .ok (.ifnull 48, 3) := by decide +kernel
theorem dX11_addProducts_29 : decode cX11_addProducts 29 = .ok (.iconst 0, 1) := by decide +kernel
theorem dX11_addProducts_30 : decode cX11_addProducts 30 = .ok (.istore 6, 2) := by decide +kernel
theorem dX11_addProducts_32 : decode cX11_addProducts 32 = .ok (.iload 6, 2) := by decide +kernel
theorem dX11_addProducts_34 : decode cX11_addProducts 34 = .ok (.aload 5, 2) := by decide +kernel
theorem dX11_addProducts_36 : decode cX11_addProducts 36 = .ok (.getfield 41, 3) := by decide +kernel
theorem dX11_addProducts_39 : decode cX11_addProducts 39 = .ok (.if_icmp .ge 35, 3) := by decide +kernel
theorem dX11_addProducts_42 : decode cX11_addProducts 42 = .ok (.aload_n 1, 1) := by decide +kernel
theorem dX11_addProducts_43 : decode cX11_addProducts 43 = .ok (.getfield 111, 3) := by decide +kernel
theorem dX11_addProducts_46 : decode cX11_addProducts 46 = .ok (.iload 6, 2) := by decide +kernel
theorem dX11_addProducts_48 : decode cX11_addProducts 48 = .ok (.dup2, 1) := by decide +kernel
theorem dX11_addProducts_49 : decode cX11_addProducts 49 = .ok (.laload, 1) := by decide +kernel
theorem dX11_addProducts_50 : decode cX11_addProducts 50 = .ok (.aload_n 2, 1) := by decide +kernel
theorem dX11_addProducts_51 : decode cX11_addProducts 51 = .ok (.getfield 111, 3) := by decide +kernel
theorem dX11_addProducts_54 : decode cX11_addProducts 54 = .ok (.iload 4, 2) := by decide +kernel
theorem dX11_addProducts_56 : decode cX11_addProducts 56 = .ok (.laload, 1) := by decide +kernel
theorem dX11_addProducts_57 : decode cX11_addProducts 57 = .ok (.aload 5, 2) := by decide +kernel
theorem dX11_addProducts_59 : decode cX11_addProducts 59 = .ok (.getfield 111, 3) := by decide +kernel
theorem dX11_addProducts_62 : decode cX11_addProducts 62 = .ok (.iload 6, 2) := by decide +kernel
theorem dX11_addProducts_64 : decode cX11_addProducts 64 = .ok (.laload, 1) := by decide +kernel
theorem dX11_addProducts_65 : decode cX11_addProducts 65 = .ok (.lmul, 1) := by decide +kernel
theorem dX11_addProducts_66 : decode cX11_addProducts 66 = .ok (.ladd, 1) := by decide +kernel
theorem dX11_addProducts_67 : decode cX11_addProducts 67 = .ok (.lastore, 1) := by decide +kernel
theorem dX11_addProducts_68 : decode cX11_addProducts 68 = .ok (.iinc 6 1, 3) := by decide +kernel
theorem dX11_addProducts_71 : decode cX11_addProducts 71 = .ok (.goto (-39), 3) := by decide +kernel
theorem dX11_addProducts_74 : decode cX11_addProducts 74 = .ok (.iinc 4 1, 3) := by decide +kernel
theorem dX11_addProducts_77 : decode cX11_addProducts 77 = .ok (.goto (-74), 3) := by decide +kernel
theorem dX11_addProducts_80 : decode cX11_addProducts 80 = .ok (.return_, 1) := by decide +kernel
theorem dX12_init_0 : decode cX12_init 0 = .ok (.aload_n 0, 1) := by decide +kernel
theorem dX12_init_1 : decode cX12_init 1 = .ok (.invokespecial 1, 3) := by decide +kernel
theorem dX12_init_4 : decode cX12_init 4 = .ok (.aload_n 0, 1) := by decide +kernel
theorem dX12_init_5 : decode cX12_init 5 = .ok (.new 7, 3) := by decide +kernel
theorem dX12_init_8 : decode cX12_init 8 = .ok (.dup, 1) := by decide +kernel
theorem dX12_init_9 : decode cX12_init 9 = .ok (.invokespecial 9, 3) := by decide +kernel
theorem dX12_init_12 : decode cX12_init 12 = .ok (.putfield 10, 3) := by decide +kernel
theorem dX12_init_15 : decode cX12_init 15 = .ok (.aload_n 0, 1) := by decide +kernel
theorem dX12_init_16 : decode cX12_init 16 = .ok (.new 7, 3) := by decide +kernel
theorem dX12_init_19 : decode cX12_init 19 = .ok (.dup, 1) := by decide +kernel
theorem dX12_init_20 : decode cX12_init 20 = .ok (.invokespecial 9, 3) := by decide +kernel
theorem dX12_init_23 : decode cX12_init 23 = .ok (.putfield 16, 3) := by decide +kernel
theorem dX12_init_26 : decode cX12_init 26 = .ok (.aload_n 0, 1) := by decide +kernel
theorem dX12_init_27 : decode cX12_init 27 = .ok (.iconst 2, 1) := by decide +kernel
theorem dX12_init_28 : decode cX12_init 28 = .ok (.anewarray 7, 3) := by decide +kernel
theorem dX12_init_31 : decode cX12_init 31 = .ok (.putfield 19, 3) := by decide +kernel
theorem dX12_init_34 : decode cX12_init 34 = .ok (.aload_n 0, 1) := by decide +kernel
theorem dX12_init_35 : decode cX12_init 35 = .ok (.new 23, 3) := by decide +kernel
theorem dX12_init_38 : decode cX12_init 38 = .ok (.dup, 1) := by decide +kernel
theorem dX12_init_39 : decode cX12_init 39 = .ok (.invokespecial 25, 3) := by decide +kernel
theorem dX12_init_42 : decode cX12_init 42 = .ok (.putfield 26, 3) := by decide +kernel
theorem dX12_init_45 : decode cX12_init 45 = .ok (.aload_n 0, 1) := by decide +kernel
theorem dX12_init_46 : decode cX12_init 46 = .ok (.new 30, 3) := by decide +kernel
theorem dX12_init_49 : decode cX12_init 49 = .ok (.dup, 1) := by decide +kernel
theorem dX12_init_50 : decode cX12_init 50 = .ok (.aload_n 0, 1) := by decide +kernel
theorem dX12_init_51 : decode cX12_init 51 = .ok (.getfield 10, 3) := by decide +kernel
theorem dX12_init_54 : decode cX12_init 54 = .ok (.aload_n 0, 1) := by decide +kernel
theorem dX12_init_55 : decode cX12_init 55 = .ok (.getfield 26, 3) := by decide +kernel
theorem dX12_init_58 : decode cX12_init 58 = .ok (.invokespecial 32, 3) := by decide +kernel
theorem dX12_init_61 : decode cX12_init 61 = .ok (.putfield 35, 3) := by decide +kernel
theorem dX12_init_64 : decode cX12_init 64 = .ok (.aload_n 0, 1) := by decide +kernel
theorem dX12_init_65 : decode cX12_init 65 = .ok (.new 39, 3) := by decide +kernel
theorem dX12_init_68 : decode cX12_init 68 = .ok (.dup, 1) := by decide +kernel
theorem dX12_init_69 : decode cX12_init 69 = .ok (.aload_n 0, 1) := by decide +kernel
theorem dX12_init_70 : decode cX12_init 70 = .ok (.getfield 10, 3) := by decide +kernel
theorem dX12_init_73 : decode cX12_init 73 = .ok (.aload_n 0, 1) := by decide +kernel
theorem dX12_init_74 : decode cX12_init 74 = .ok (.getfield 26, 3) := by decide +kernel
theorem dX12_init_77 : decode cX12_init 77 = .ok (.invokespecial 41, 3) := by decide +kernel
theorem dX12_init_80 : decode cX12_init 80 = .ok (.putfield 42, 3) := by decide +kernel
theorem dX12_init_83 : decode cX12_init 83 = .ok (.aload_n 0, 1) := by decide +kernel
theorem dX12_init_84 : decode cX12_init 84 = .ok (.new 46, 3) := by decide +kernel
theorem dX12_init_87 : decode cX12_init 87 = .ok (.dup, 1) := by decide +kernel
theorem dX12_init_88 : decode cX12_init 88 = .ok (.aload_n 0, 1) := by decide +kernel
theorem dX12_init_89 : decode cX12_init 89 = .ok (.getfield 10, 3) := by decide +kernel
theorem dX12_init_92 : decode cX12_init 92 = .ok (.aload_n 0, 1) := by decide +kernel
theorem dX12_init_93 : decode cX12_init 93 = .ok (.getfield 26, 3) := by decide +kernel
theorem dX12_init_96 : decode cX12_init 96 = .ok (.invokespecial 48, 3) := by decide +kernel
theorem dX12_init_99 : decode cX12_init 99 = .ok (.putfield 49, 3) := by decide +kernel
theorem dX12_init_102 : decode cX12_init 102 = .ok (.aload_n 0, 1) := by decide +kernel
theorem dX12_init_103 : decode cX12_init 103 = .ok (.new 53, 3) := by decide +kernel
theorem dX12_init_106 : decode cX12_init 106 = .ok (.dup, 1) := by decide +kernel
theorem dX12_init_107 : decode cX12_init 107 = .ok (.aload_n 0, 1) := by decide +kernel
theorem dX12_init_108 : decode cX12_init 108 = .ok (.getfield 10, 3) := by decide +kernel
theorem dX12_init_111 : decode cX12_init 111 = .ok (.aload_n 0, 1) := by decide +kernel
theorem dX12_init_112 : decode cX12_init 112 = .ok (.getfield 26, 3) := by decide +kernel
theorem dX12_init_115 : decode cX12_init 115 = .ok (.invokespecial 55, 3) := by decide +kernel
theorem dX12_init_118 : decode cX12_init 118 = .ok (.putfield 56, 3) := by decide +kernel
theorem dX12_init_121 : decode cX12_init 121 = .ok (.aload_n 0, 1) := by decide +kernel
theorem dX12_init_122 : decode cX12_init 122 = .ok (.new 60, 3) := by decide +kernel
theorem dX12_init_125 : decode cX12_init 125 = .ok (.dup, 1) := by decide +kernel
theorem dX12_init_126 : decode cX12_init 126 = .ok (.aload_n 0, 1) := by decide +kernel
theorem dX12_init_127 : decode cX12_init 127 = .ok (.getfield 10, 3) := by decide +kernel
theorem dX12_init_130 : decode cX12_init 130 = .ok (.aload_n 0, 1) := by decide +kernel
theorem dX12_init_131 : decode cX12_init 131 = .ok (.getfield 26, 3) := by decide +kernel
theorem dX12_init_134 : decode cX12_init 134 = .ok (.invokespecial 62, 3) := by decide +kernel
theorem dX12_init_137 : decode cX12_init 137 = .ok (.putfield 63, 3) := by decide +kernel
theorem dX12_init_140 : decode cX12_init 140 = .ok (.aload_n 0, 1) := by decide +kernel
theorem dX12_init_141 : decode cX12_init 141 = .ok (.new 67, 3) := by decide +kernel
theorem dX12_init_144 : decode cX12_init 144 = .ok (.dup, 1) := by decide +kernel
theorem dX12_init_145 : decode cX12_init 145 = .ok (.invokespecial 69, 3) := by decide +kernel
theorem dX12_init_148 : decode cX12_init 148 = .ok (.putfield 70, 3) := by decide +kernel
theorem dX12_init_151 : decode cX12_init 151 = .ok (.aload_n 0, 1) := by decide +kernel
theorem dX12_init_152 : decode cX12_init 152 = .ok (.new 74, 3) := by decide +kernel
theorem dX12_init_155 : decode cX12_init 155 = .ok (.dup, 1) := by decide +kernel
theorem dX12_init_156 : decode cX12_init 156 = .ok (.aload_n 0, 1) := by decide +kernel
theorem dX12_init_157 : decode cX12_init 157 = .ok (.getfield 26, 3) := by decide +kernel
theorem dX12_init_160 : decode cX12_init 160 = .ok (.invokespecial 76, 3) := by decide +kernel
theorem dX12_init_163 : decode cX12_init 163 = .ok (.putfield 79, 3) := by decide +kernel
theorem dX12_init_166 : decode cX12_init 166 = .ok (.aload_n 0, 1) := by decide +kernel
theorem dX12_init_167 : decode cX12_init 167 = .ok (.bipush 11, 2) := by decide +kernel
theorem dX12_init_169 : decode cX12_init 169 = .ok (.newarray .int, 2) := by decide +kernel
theorem dX12_init_171 : decode cX12_init 171 = .ok (.putfield 83, 3) := by decide +kernel
theorem dX12_init_174 : decode cX12_init 174 = .ok (.return_, 1) := by decide +kernel
theorem dX12_grid_0 : decode cX12_grid 0 = .ok (.aload_n 0, 1) := by decide +kernel
theorem dX12_grid_1 : decode cX12_grid 1 = .ok (.aload_n 0, 1) := by decide +kernel
theorem dX12_grid_2 : decode cX12_grid 2 = .ok (.getfield 10, 3) := by decide +kernel
theorem dX12_grid_5 : decode cX12_grid 5 = .ok (.iload_n 1, 1) := by decide +kernel
theorem dX12_grid_6 : decode cX12_grid 6 = .ok (.iload_n 2, 1) := by decide +kernel
theorem dX12_grid_7 : decode cX12_grid 7 = .ok (.invokevirtual 87, 3) := by decide +kernel
theorem dX12_grid_10 : decode cX12_grid 10 = .ok (.invokevirtual 91, 3) := by decide +kernel
theorem dX12_grid_13 : decode cX12_grid 13 = .ok (.ireturn, 1) := by decide +kernel
theorem dX12_drop_0 : decode cX12_drop 0 = .ok (.aload_n 0, 1) := by decide +kernel
theorem dX12_drop_1 : decode cX12_drop 1 = .ok (.aload_n 0, 1) := by decide +kernel
theorem dX12_drop_2 : decode cX12_drop 2 = .ok (.getfield 10, 3) := by decide +kernel
theorem dX12_drop_5 : decode cX12_drop 5 = .ok (.iload_n 1, 1) := by decide +kernel
theorem dX12_drop_6 : decode cX12_drop 6 = .ok (.invokevirtual 95, 3) := by decide +kernel
theorem dX12_drop_9 : decode cX12_drop 9 = .ok (.invokevirtual 91, 3) := by decide +kernel
theorem dX12_drop_12 : decode cX12_drop 12 = .ok (.ireturn, 1) := by decide +kernel
theorem dX12_row_0 : decode cX12_row 0 = .ok (.aload_n 0, 1) := by decide +kernel
theorem dX12_row_1 : decode cX12_row 1 = .ok (.aload_n 0, 1) := by decide +kernel
theorem dX12_row_2 : decode cX12_row 2 = .ok (.getfield 10, 3) := by decide +kernel
theorem dX12_row_5 : decode cX12_row 5 = .ok (.iload_n 1, 1) := by decide +kernel
theorem dX12_row_6 : decode cX12_row 6 = .ok (.iload_n 2, 1) := by decide +kernel
theorem dX12_row_7 : decode cX12_row 7 = .ok (.iload_n 3, 1) := by decide +kernel
theorem dX12_row_8 : decode cX12_row 8 = .ok (.iload 4, 2) := by decide +kernel
theorem dX12_row_10 : decode cX12_row 10 = .ok (.invokevirtual 98, 3) := by decide +kernel
theorem dX12_row_13 : decode cX12_row 13 = .ok (.invokevirtual 91, 3) := by decide +kernel
theorem dX12_row_16 : decode cX12_row 16 = .ok (.ireturn, 1) := by decide +kernel
theorem dX12_thing_0 : decode cX12_thing 0 = .ok (.aload_n 0, 1) := by decide +kernel
theorem dX12_thing_1 : decode cX12_thing 1 = .ok (.aload_n 0, 1) := by decide +kernel
theorem dX12_thing_2 : decode cX12_thing 2 = .ok (.getfield 10, 3) := by decide +kernel
theorem dX12_thing_5 : decode cX12_thing 5 = .ok (.iload_n 1, 1) := by decide +kernel
theorem dX12_thing_6 : decode cX12_thing 6 = .ok (.iload_n 2, 1) := by decide +kernel
theorem dX12_thing_7 : decode cX12_thing 7 = .ok (.iload_n 3, 1) := by decide +kernel
theorem dX12_thing_8 : decode cX12_thing 8 = .ok (.invokevirtual 102, 3) := by decide +kernel
theorem dX12_thing_11 : decode cX12_thing 11 = .ok (.invokevirtual 91, 3) := by decide +kernel
theorem dX12_thing_14 : decode cX12_thing 14 = .ok (.ireturn, 1) := by decide +kernel
theorem dX12_share_0 : decode cX12_share 0 = .ok (.aload_n 0, 1) := by decide +kernel
theorem dX12_share_1 : decode cX12_share 1 = .ok (.aload_n 0, 1) := by decide +kernel
theorem dX12_share_2 : decode cX12_share 2 = .ok (.getfield 10, 3) := by decide +kernel
theorem dX12_share_5 : decode cX12_share 5 = .ok (.iload_n 1, 1) := by decide +kernel
theorem dX12_share_6 : decode cX12_share 6 = .ok (.iload_n 2, 1) := by decide +kernel
theorem dX12_share_7 : decode cX12_share 7 = .ok (.iload_n 3, 1) := by decide +kernel
theorem dX12_share_8 : decode cX12_share 8 = .ok (.iload 4, 2) := by decide +kernel
theorem dX12_share_10 : decode cX12_share 10 = .ok (.invokevirtual 106, 3) := by decide +kernel
theorem dX12_share_13 : decode cX12_share 13 = .ok (.invokevirtual 91, 3) := by decide +kernel
theorem dX12_share_16 : decode cX12_share 16 = .ok (.ireturn, 1) := by decide +kernel
theorem dX12_swap_0 : decode cX12_swap 0 = .ok (.aload_n 0, 1) := by decide +kernel
theorem dX12_swap_1 : decode cX12_swap 1 = .ok (.aload_n 0, 1) := by decide +kernel
theorem dX12_swap_2 : decode cX12_swap 2 = .ok (.getfield 10, 3) := by decide +kernel
theorem dX12_swap_5 : decode cX12_swap 5 = .ok (.iload_n 1, 1) := by decide +kernel
theorem dX12_swap_6 : decode cX12_swap 6 = .ok (.iload_n 2, 1) := by decide +kernel
theorem dX12_swap_7 : decode cX12_swap 7 = .ok (.iload_n 3, 1) := by decide +kernel
theorem dX12_swap_8 : decode cX12_swap 8 = .ok (.iload 4, 2) := by decide +kernel
theorem dX12_swap_10 : decode cX12_swap 10 = .ok (.invokevirtual 109, 3) := by decide +kernel
theorem dX12_swap_13 : decode cX12_swap 13 = .ok (.invokevirtual 91, 3) := by decide +kernel
theorem dX12_swap_16 : decode cX12_swap 16 = .ok (.ireturn, 1) := by decide +kernel
theorem dX12_holds_0 : decode cX12_holds 0 = .ok (.aload_n 0, 1) := by decide +kernel
theorem dX12_holds_1 : decode cX12_holds 1 = .ok (.aload_n 0, 1) := by decide +kernel
theorem dX12_holds_2 : decode cX12_holds 2 = .ok (.getfield 10, 3) := by decide +kernel
theorem dX12_holds_5 : decode cX12_holds 5 = .ok (.iload_n 1, 1) := by decide +kernel
theorem dX12_holds_6 : decode cX12_holds 6 = .ok (.iload_n 2, 1) := by decide +kernel
theorem dX12_holds_7 : decode cX12_holds 7 = .ok (.invokevirtual 112, 3) := by decide +kernel
theorem dX12_holds_10 : decode cX12_holds 10 = .ok (.invokevirtual 91, 3) := by decide +kernel
theorem dX12_holds_13 : decode cX12_holds 13 = .ok (.ireturn, 1) := by decide +kernel
theorem dX12_same_0 : decode cX12_same 0 = .ok (.aload_n 0, 1) := by decide +kernel
theorem dX12_same_1 : decode cX12_same 1 = .ok (.aload_n 0, 1) := by decide +kernel
theorem dX12_same_2 : decode cX12_same 2 = .ok (.getfield 10, 3) := by decide +kernel
theorem dX12_same_5 : decode cX12_same 5 = .ok (.iload_n 1, 1) := by decide +kernel
theorem dX12_same_6 : decode cX12_same 6 = .ok (.iload_n 2, 1) := by decide +kernel
theorem dX12_same_7 : decode cX12_same 7 = .ok (.iload_n 3, 1) := by decide +kernel
