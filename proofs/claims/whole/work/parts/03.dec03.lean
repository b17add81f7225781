theorem dX13_rowDeed_54 : decode cX13_rowDeed 54 = .ok (.invokevirtual 155, 3) := by decide +kernel
theorem dX13_rowDeed_57 : decode cX13_rowDeed 57 = .ok (.invokevirtual 145, 3) := by decide +kernel
theorem dX13_rowDeed_60 : decode cX13_rowDeed 60 = .ok (.iload 4, 2) := by decide +kernel
theorem dX13_rowDeed_62 : decode cX13_rowDeed 62 = .ok (.ireturn, 1) := by decide +kernel
theorem dX13_row_0 : decode cX13_row 0 = .ok (.aload_n 0, 1) := by decide +kernel
theorem dX13_row_1 : decode cX13_row 1 = .ok (.aload_n 0, 1) := by decide +kernel
theorem dX13_row_2 : decode cX13_row 2 = .ok (.iload_n 1, 1) := by decide +kernel
theorem dX13_row_3 : decode cX13_row 3 = .ok (.iload_n 2, 1) := by decide +kernel
theorem dX13_row_4 : decode cX13_row 4 = .ok (.iload_n 3, 1) := by decide +kernel
theorem dX13_row_5 : decode cX13_row 5 = .ok (.iload 4, 2) := by decide +kernel
theorem dX13_row_7 : decode cX13_row 7 = .ok (.invokevirtual 158, 3) := by decide +kernel
theorem dX13_row_10 : decode cX13_row 10 = .ok (.invokevirtual 137, 3) := by decide +kernel
theorem dX13_row_13 : decode cX13_row 13 = .ok (.ireturn, 1) := by decide +kernel
theorem dX13_thingDeed_0 : decode cX13_thingDeed 0 = .ok (.iload_n 1, 1) := by decide +kernel
theorem dX13_thingDeed_1 : decode cX13_thingDeed 1 = .ok (.invokestatic 134, 3) := by decide +kernel
theorem dX13_thingDeed_4 : decode cX13_thingDeed 4 = .ok (.ifCond .eq 12, 3) := by decide +kernel
theorem dX13_thingDeed_7 : decode cX13_thingDeed 7 = .ok (.iload_n 3, 1) := by decide +kernel
theorem dX13_thingDeed_8 : decode cX13_thingDeed 8 = .ok (.iconst 0, 1) := by decide +kernel
theorem dX13_thingDeed_9 : decode cX13_thingDeed 9 = .ok (.iconst 2, 1) := by decide +kernel
theorem dX13_thingDeed_10 : decode cX13_thingDeed 10 = .ok (.invokestatic 109, 3) := by decide +kernel
theorem dX13_thingDeed_13 : decode cX13_thingDeed 13 = .ok (.ifCond .ne 5, 3) := by decide +kernel
theorem dX13_thingDeed_16 : decode cX13_thingDeed 16 = .ok (.iconst (-1), 1) := by decide +kernel
theorem dX13_thingDeed_17 : decode cX13_thingDeed 17 = .ok (.ireturn, 1) := by decide +kernel
theorem dX13_thingDeed_18 : decode cX13_thingDeed 18 = .ok (.aload_n 0, 1) := by decide +kernel
theorem dX13_thingDeed_19 : decode cX13_thingDeed 19 = .ok (.iload_n 1, 1) := by decide +kernel
theorem dX13_thingDeed_20 : decode cX13_thingDeed 20 = .ok (.iload_n 2, 1) := by decide +kernel
theorem dX13_thingDeed_21 : decode cX13_thingDeed 21 = .ok (.invokevirtual 124, 3) := by decide +kernel
theorem dX13_thingDeed_24 : decode cX13_thingDeed 24 = .ok (.istore 4, 2) := by decide +kernel
theorem dX13_thingDeed_26 : decode cX13_thingDeed 26 = .ok (.iload 4, 2) := by decide +kernel
theorem dX13_thingDeed_28 : decode cX13_thingDeed 28 = .ok (.ifCond .ne 12, 3) := by decide +kernel
theorem dX13_thingDeed_31 : decode cX13_thingDeed 31 = .ok (.aload_n 0, 1) := by decide +kernel
theorem dX13_thingDeed_32 : decode cX13_thingDeed 32 = .ok (.iload_n 1, 1) := by decide +kernel
theorem dX13_thingDeed_33 : decode cX13_thingDeed 33 = .ok (.iload_n 2, 1) := by decide +kernel
theorem dX13_thingDeed_34 : decode cX13_thingDeed 34 = .ok (.iconst (-1), 1) := by decide +kernel
theorem dX13_thingDeed_35 : decode cX13_thingDeed 35 = .ok (.iload_n 3, 1) := by decide +kernel
theorem dX13_thingDeed_36 : decode cX13_thingDeed 36 = .ok (.isub, 1) := by decide +kernel
theorem dX13_thingDeed_37 : decode cX13_thingDeed 37 = .ok (.invokevirtual 145, 3) := by decide +kernel
theorem dX13_thingDeed_40 : decode cX13_thingDeed 40 = .ok (.iload 4, 2) := by decide +kernel
theorem dX13_thingDeed_42 : decode cX13_thingDeed 42 = .ok (.ifCond .ne 7, 3) := by decide +kernel
theorem dX13_thingDeed_45 : decode cX13_thingDeed 45 = .ok (.iconst 1, 1) := by decide +kernel
theorem dX13_thingDeed_46 : decode cX13_thingDeed 46 = .ok (.goto 5, 3) := by decide +kernel
theorem dX13_thingDeed_49 : decode cX13_thingDeed 49 = .ok (.iload 4, 2) := by decide +kernel
theorem dX13_thingDeed_51 : decode cX13_thingDeed 51 = .ok (.ireturn, 1) := by decide +kernel
theorem dX13_thing_0 : decode cX13_thing 0 = .ok (.aload_n 0, 1) := by decide +kernel
theorem dX13_thing_1 : decode cX13_thing 1 = .ok (.aload_n 0, 1) := by decide +kernel
theorem dX13_thing_2 : decode cX13_thing 2 = .ok (.iload_n 1, 1) := by decide +kernel
theorem dX13_thing_3 : decode cX13_thing 3 = .ok (.iload_n 2, 1) := by decide +kernel
theorem dX13_thing_4 : decode cX13_thing 4 = .ok (.iload_n 3, 1) := by decide +kernel
theorem dX13_thing_5 : decode cX13_thing 5 = .ok (.invokevirtual 162, 3) := by decide +kernel
theorem dX13_thing_8 : decode cX13_thing 8 = .ok (.invokevirtual 137, 3) := by decide +kernel
theorem dX13_thing_11 : decode cX13_thing 11 = .ok (.ireturn, 1) := by decide +kernel
theorem dX13_shareDeed_0 : decode cX13_shareDeed 0 = .ok (.iload_n 1, 1) := by decide +kernel
theorem dX13_shareDeed_1 : decode cX13_shareDeed 1 = .ok (.invokestatic 134, 3) := by decide +kernel
theorem dX13_shareDeed_4 : decode cX13_shareDeed 4 = .ok (.ifCond .eq 10, 3) := by decide +kernel
theorem dX13_shareDeed_7 : decode cX13_shareDeed 7 = .ok (.iload_n 3, 1) := by decide +kernel
theorem dX13_shareDeed_8 : decode cX13_shareDeed 8 = .ok (.invokestatic 134, 3) := by decide +kernel
theorem dX13_shareDeed_11 : decode cX13_shareDeed 11 = .ok (.ifCond .ne 5, 3) := by decide +kernel
theorem dX13_shareDeed_14 : decode cX13_shareDeed 14 = .ok (.iconst (-1), 1) := by decide +kernel
theorem dX13_shareDeed_15 : decode cX13_shareDeed 15 = .ok (.ireturn, 1) := by decide +kernel
theorem dX13_shareDeed_16 : decode cX13_shareDeed 16 = .ok (.aload_n 0, 1) := by decide +kernel
theorem dX13_shareDeed_17 : decode cX13_shareDeed 17 = .ok (.iload_n 1, 1) := by decide +kernel
theorem dX13_shareDeed_18 : decode cX13_shareDeed 18 = .ok (.iload_n 2, 1) := by decide +kernel
theorem dX13_shareDeed_19 : decode cX13_shareDeed 19 = .ok (.iload_n 3, 1) := by decide +kernel
theorem dX13_shareDeed_20 : decode cX13_shareDeed 20 = .ok (.iload 4, 2) := by decide +kernel
theorem dX13_shareDeed_22 : decode cX13_shareDeed 22 = .ok (.invokevirtual 166, 3) := by decide +kernel
theorem dX13_shareDeed_25 : decode cX13_shareDeed 25 = .ok (.istore 5, 2) := by decide +kernel
theorem dX13_shareDeed_27 : decode cX13_shareDeed 27 = .ok (.iload 5, 2) := by decide +kernel
theorem dX13_shareDeed_29 : decode cX13_shareDeed 29 = .ok (.ifCond .eq 6, 3) := by decide +kernel
theorem dX13_shareDeed_32 : decode cX13_shareDeed 32 = .ok (.iload 5, 2) := by decide +kernel
theorem dX13_shareDeed_34 : decode cX13_shareDeed 34 = .ok (.ireturn, 1) := by decide +kernel
theorem dX13_shareDeed_35 : decode cX13_shareDeed 35 = .ok (.aload_n 0, 1) := by decide +kernel
theorem dX13_shareDeed_36 : decode cX13_shareDeed 36 = .ok (.iload_n 3, 1) := by decide +kernel
theorem dX13_shareDeed_37 : decode cX13_shareDeed 37 = .ok (.iload 4, 2) := by decide +kernel
theorem dX13_shareDeed_39 : decode cX13_shareDeed 39 = .ok (.aload_n 0, 1) := by decide +kernel
theorem dX13_shareDeed_40 : decode cX13_shareDeed 40 = .ok (.iload_n 1, 1) := by decide +kernel
theorem dX13_shareDeed_41 : decode cX13_shareDeed 41 = .ok (.iload_n 2, 1) := by decide +kernel
theorem dX13_shareDeed_42 : decode cX13_shareDeed 42 = .ok (.invokevirtual 128, 3) := by decide +kernel
theorem dX13_shareDeed_45 : decode cX13_shareDeed 45 = .ok (.invokevirtual 145, 3) := by decide +kernel
theorem dX13_shareDeed_48 : decode cX13_shareDeed 48 = .ok (.aload_n 0, 1) := by decide +kernel
theorem dX13_shareDeed_49 : decode cX13_shareDeed 49 = .ok (.iload_n 3, 1) := by decide +kernel
theorem dX13_shareDeed_50 : decode cX13_shareDeed 50 = .ok (.iload 4, 2) := by decide +kernel
theorem dX13_shareDeed_52 : decode cX13_shareDeed 52 = .ok (.invokevirtual 169, 3) := by decide +kernel
theorem dX13_shareDeed_55 : decode cX13_shareDeed 55 = .ok (.ireturn, 1) := by decide +kernel
theorem dX13_share_0 : decode cX13_share 0 = .ok (.aload_n 0, 1) := by decide +kernel
theorem dX13_share_1 : decode cX13_share 1 = .ok (.aload_n 0, 1) := by decide +kernel
theorem dX13_share_2 : decode cX13_share 2 = .ok (.iload_n 1, 1) := by decide +kernel
theorem dX13_share_3 : decode cX13_share 3 = .ok (.iload_n 2, 1) := by decide +kernel
theorem dX13_share_4 : decode cX13_share 4 = .ok (.iload_n 3, 1) := by decide +kernel
theorem dX13_share_5 : decode cX13_share 5 = .ok (.iload 4, 2) := by decide +kernel
theorem dX13_share_7 : decode cX13_share 7 = .ok (.invokevirtual 172, 3) := by decide +kernel
theorem dX13_share_10 : decode cX13_share 10 = .ok (.invokevirtual 137, 3) := by decide +kernel
theorem dX13_share_13 : decode cX13_share 13 = .ok (.ireturn, 1) := by decide +kernel
theorem dX13_swapDeed_0 : decode cX13_swapDeed 0 = .ok (.iload_n 1, 1) := by decide +kernel
theorem dX13_swapDeed_1 : decode cX13_swapDeed 1 = .ok (.invokestatic 134, 3) := by decide +kernel
theorem dX13_swapDeed_4 : decode cX13_swapDeed 4 = .ok (.ifCond .eq 10, 3) := by decide +kernel
theorem dX13_swapDeed_7 : decode cX13_swapDeed 7 = .ok (.iload_n 3, 1) := by decide +kernel
theorem dX13_swapDeed_8 : decode cX13_swapDeed 8 = .ok (.invokestatic 134, 3) := by decide +kernel
theorem dX13_swapDeed_11 : decode cX13_swapDeed 11 = .ok (.ifCond .ne 5, 3) := by decide +kernel
theorem dX13_swapDeed_14 : decode cX13_swapDeed 14 = .ok (.iconst (-1), 1) := by decide +kernel
theorem dX13_swapDeed_15 : decode cX13_swapDeed 15 = .ok (.ireturn, 1) := by decide +kernel
theorem dX13_swapDeed_16 : decode cX13_swapDeed 16 = .ok (.aload_n 0, 1) := by decide +kernel
theorem dX13_swapDeed_17 : decode cX13_swapDeed 17 = .ok (.iload_n 1, 1) := by decide +kernel
theorem dX13_swapDeed_18 : decode cX13_swapDeed 18 = .ok (.iload_n 2, 1) := by decide +kernel
theorem dX13_swapDeed_19 : decode cX13_swapDeed 19 = .ok (.iload_n 3, 1) := by decide +kernel
theorem dX13_swapDeed_20 : decode cX13_swapDeed 20 = .ok (.iload 4, 2) := by decide +kernel
theorem dX13_swapDeed_22 : decode cX13_swapDeed 22 = .ok (.invokevirtual 166, 3) := by decide +kernel
theorem dX13_swapDeed_25 : decode cX13_swapDeed 25 = .ok (.istore 5, 2) := by decide +kernel
theorem dX13_swapDeed_27 : decode cX13_swapDeed 27 = .ok (.iload 5, 2) := by decide +kernel
theorem dX13_swapDeed_29 : decode cX13_swapDeed 29 = .ok (.ifCond .eq 6, 3) := by decide +kernel
theorem dX13_swapDeed_32 : decode cX13_swapDeed 32 = .ok (.iload 5, 2) := by decide +kernel
theorem dX13_swapDeed_34 : decode cX13_swapDeed 34 = .ok (.ireturn, 1) := by decide +kernel
theorem dX13_swapDeed_35 : decode cX13_swapDeed 35 = .ok (.aload_n 0, 1) := by decide +kernel
theorem dX13_swapDeed_36 : decode cX13_swapDeed 36 = .ok (.iload_n 1, 1) := by decide +kernel
theorem dX13_swapDeed_37 : decode cX13_swapDeed 37 = .ok (.iload_n 2, 1) := by decide +kernel
theorem dX13_swapDeed_38 : decode cX13_swapDeed 38 = .ok (.invokevirtual 128, 3) := by decide +kernel
theorem dX13_swapDeed_41 : decode cX13_swapDeed 41 = .ok (.istore 6, 2) := by decide +kernel
theorem dX13_swapDeed_43 : decode cX13_swapDeed 43 = .ok (.aload_n 0, 1) := by decide +kernel
theorem dX13_swapDeed_44 : decode cX13_swapDeed 44 = .ok (.iload_n 1, 1) := by decide +kernel
theorem dX13_swapDeed_45 : decode cX13_swapDeed 45 = .ok (.iload_n 2, 1) := by decide +kernel
theorem dX13_swapDeed_46 : decode cX13_swapDeed 46 = .ok (.aload_n 0, 1) := by decide +kernel
theorem dX13_swapDeed_47 : decode cX13_swapDeed 47 = .ok (.iload_n 3, 1) := by decide +kernel
theorem dX13_swapDeed_48 : decode cX13_swapDeed 48 = .ok (.iload 4, 2) := by decide +kernel
theorem dX13_swapDeed_50 : decode cX13_swapDeed 50 = .ok (.invokevirtual 128, 3) := by decide +kernel
theorem dX13_swapDeed_53 : decode cX13_swapDeed 53 = .ok (.invokevirtual 145, 3) := by decide +kernel
theorem dX13_swapDeed_56 : decode cX13_swapDeed 56 = .ok (.aload_n 0, 1) := by decide +kernel
theorem dX13_swapDeed_57 : decode cX13_swapDeed 57 = .ok (.iload_n 3, 1) := by decide +kernel
theorem dX13_swapDeed_58 : decode cX13_swapDeed 58 = .ok (.iload 4, 2) := by decide +kernel
theorem dX13_swapDeed_60 : decode cX13_swapDeed 60 = .ok (.iload 6, 2) := by decide +kernel
theorem dX13_swapDeed_62 : decode cX13_swapDeed 62 = .ok (.invokevirtual 145, 3) := by decide +kernel
theorem dX13_swapDeed_65 : decode cX13_swapDeed 65 = .ok (.aload_n 0, 1) := by decide +kernel
theorem dX13_swapDeed_66 : decode cX13_swapDeed 66 = .ok (.iload_n 1, 1) := by decide +kernel
theorem dX13_swapDeed_67 : decode cX13_swapDeed 67 = .ok (.iload_n 2, 1) := by decide +kernel
theorem dX13_swapDeed_68 : decode cX13_swapDeed 68 = .ok (.invokevirtual 169, 3) := by decide +kernel
theorem dX13_swapDeed_71 : decode cX13_swapDeed 71 = .ok (.ireturn, 1) := by decide +kernel
theorem dX13_swap_0 : decode cX13_swap 0 = .ok (.aload_n 0, 1) := by decide +kernel
theorem dX13_swap_1 : decode cX13_swap 1 = .ok (.aload_n 0, 1) := by decide +kernel
theorem dX13_swap_2 : decode cX13_swap 2 = .ok (.iload_n 1, 1) := by decide +kernel
theorem dX13_swap_3 : decode cX13_swap 3 = .ok (.iload_n 2, 1) := by decide +kernel
theorem dX13_swap_4 : decode cX13_swap 4 = .ok (.iload_n 3, 1) := by decide +kernel
theorem dX13_swap_5 : decode cX13_swap 5 = .ok (.iload 4, 2) := by decide +kernel
theorem dX13_swap_7 : decode cX13_swap 7 = .ok (.invokevirtual 175, 3) := by decide +kernel
theorem dX13_swap_10 : decode cX13_swap 10 = .ok (.invokevirtual 137, 3) := by decide +kernel
theorem dX13_swap_13 : decode cX13_swap 13 = .ok (.ireturn, 1) := by decide +kernel
theorem dX13_holdsAnswer_0 : decode cX13_holdsAnswer 0 = .ok (.iload_n 1, 1) := by decide +kernel
theorem dX13_holdsAnswer_1 : decode cX13_holdsAnswer 1 = .ok (.invokestatic 134, 3) := by decide +kernel
theorem dX13_holdsAnswer_4 : decode cX13_holdsAnswer 4 = .ok (.ifCond .ne 5, 3) := by decide +kernel
theorem dX13_holdsAnswer_7 : decode cX13_holdsAnswer 7 = .ok (.iconst (-1), 1) := by decide +kernel
theorem dX13_holdsAnswer_8 : decode cX13_holdsAnswer 8 = .ok (.ireturn, 1) := by decide +kernel
theorem dX13_holdsAnswer_9 : decode cX13_holdsAnswer 9 = .ok (.aload_n 0, 1) := by decide +kernel
theorem dX13_holdsAnswer_10 : decode cX13_holdsAnswer 10 = .ok (.iload_n 1, 1) := by decide +kernel
theorem dX13_holdsAnswer_11 : decode cX13_holdsAnswer 11 = .ok (.iload_n 2, 1) := by decide +kernel
theorem dX13_holdsAnswer_12 : decode cX13_holdsAnswer 12 = .ok (.invokevirtual 124, 3) := by decide +kernel
theorem dX13_holdsAnswer_15 : decode cX13_holdsAnswer 15 = .ok (.istore_n 3, 1) := by decide +kernel
theorem dX13_holdsAnswer_16 : decode cX13_holdsAnswer 16 = .ok (.iload_n 3, 1) := by decide +kernel
theorem dX13_holdsAnswer_17 : decode cX13_holdsAnswer 17 = .ok (.ifCond .eq 7, 3) := by decide +kernel
theorem dX13_holdsAnswer_20 : decode cX13_holdsAnswer 20 = .ok (.iload_n 3, 1) := by decide +kernel
theorem dX13_holdsAnswer_21 : decode cX13_holdsAnswer 21 = .ok (.goto 9, 3) := by decide +kernel
theorem dX13_holdsAnswer_24 : decode cX13_holdsAnswer 24 = .ok (.aload_n 0, 1) := by decide +kernel
theorem dX13_holdsAnswer_25 : decode cX13_holdsAnswer 25 = .ok (.iload_n 1, 1) := by decide +kernel
theorem dX13_holdsAnswer_26 : decode cX13_holdsAnswer 26 = .ok (.iload_n 2, 1) := by decide +kernel
theorem dX13_holdsAnswer_27 : decode cX13_holdsAnswer 27 = .ok (.invokevirtual 169, 3) := by decide +kernel
theorem dX13_holdsAnswer_30 : decode cX13_holdsAnswer 30 = .ok (.ireturn, 1) := by decide +kernel
theorem dX13_holds_0 : decode cX13_holds 0 = .ok (.aload_n 0, 1) := by decide +kernel
theorem dX13_holds_1 : decode cX13_holds 1 = .ok (.aload_n 0, 1) := by decide +kernel
theorem dX13_holds_2 : decode cX13_holds 2 = .ok (.iload_n 1, 1) := by decide +kernel
theorem dX13_holds_3 : decode cX13_holds 3 = .ok (.iload_n 2, 1) := by decide +kernel
theorem dX13_holds_4 : decode cX13_holds 4 = .ok (.invokevirtual 178, 3) := by decide +kernel
theorem dX13_holds_7 : decode cX13_holds 7 = .ok (.invokevirtual 137, 3) := by decide +kernel
theorem dX13_holds_10 : decode cX13_holds 10 = .ok (.ireturn, 1) := by decide +kernel
theorem dX13_sameAnswer_0 : decode cX13_sameAnswer 0 = .ok (.iload_n 1, 1) := by decide +kernel
theorem dX13_sameAnswer_1 : decode cX13_sameAnswer 1 = .ok (.invokestatic 134, 3) := by decide +kernel
theorem dX13_sameAnswer_4 : decode cX13_sameAnswer 4 = .ok (.ifCond .eq 10, 3) := by decide +kernel
theorem dX13_sameAnswer_7 : decode cX13_sameAnswer 7 = .ok (.iload_n 3, 1) := by decide +kernel
theorem dX13_sameAnswer_8 : decode cX13_sameAnswer 8 = .ok (.invokestatic 134, 3) := by decide +kernel
theorem dX13_sameAnswer_11 : decode cX13_sameAnswer 11 = .ok (.ifCond .ne 5, 3) := by decide +kernel
theorem dX13_sameAnswer_14 : decode cX13_sameAnswer 14 = .ok (.iconst (-1), 1) := by decide +kernel
theorem dX13_sameAnswer_15 : decode cX13_sameAnswer 15 = .ok (.ireturn, 1) := by decide +kernel
theorem dX13_sameAnswer_16 : decode cX13_sameAnswer 16 = .ok (.aload_n 0, 1) := by decide +kernel
theorem dX13_sameAnswer_17 : decode cX13_sameAnswer 17 = .ok (.iload_n 1, 1) := by decide +kernel
theorem dX13_sameAnswer_18 : decode cX13_sameAnswer 18 = .ok (.iload_n 2, 1) := by decide +kernel
theorem dX13_sameAnswer_19 : decode cX13_sameAnswer 19 = .ok (.iload_n 3, 1) := by decide +kernel
theorem dX13_sameAnswer_20 : decode cX13_sameAnswer 20 = .ok (.iload 4, 2) := by decide +kernel
theorem dX13_sameAnswer_22 : decode cX13_sameAnswer 22 = .ok (.invokevirtual 181, 3) := by decide +kernel
theorem dX13_sameAnswer_25 : decode cX13_sameAnswer 25 = .ok (.istore 5, 2) := by decide +kernel
theorem dX13_sameAnswer_27 : decode cX13_sameAnswer 27 = .ok (.iload 5, 2) := by decide +kernel
theorem dX13_sameAnswer_29 : decode cX13_sameAnswer 29 = .ok (.ifCond .eq 8, 3) := by decide +kernel
theorem dX13_sameAnswer_32 : decode cX13_sameAnswer 32 = .ok (.iload 5, 2) := by decide +kernel
theorem dX13_sameAnswer_34 : decode cX13_sameAnswer 34 = .ok (.goto 24, 3) := by decide +kernel
theorem dX13_sameAnswer_37 : decode cX13_sameAnswer 37 = .ok (.aload_n 0, 1) := by decide +kernel
theorem dX13_sameAnswer_38 : decode cX13_sameAnswer 38 = .ok (.iload_n 1, 1) := by decide +kernel
theorem dX13_sameAnswer_39 : decode cX13_sameAnswer 39 = .ok (.iload_n 2, 1) := by decide +kernel
theorem dX13_sameAnswer_40 : decode cX13_sameAnswer 40 = .ok (.invokevirtual 128, 3) := by decide +kernel
theorem dX13_sameAnswer_43 : decode cX13_sameAnswer 43 = .ok (.aload_n 0, 1) := by decide +kernel
theorem dX13_sameAnswer_44 : decode cX13_sameAnswer 44 = .ok (.iload_n 3, 1) := by decide +kernel
theorem dX13_sameAnswer_45 : decode cX13_sameAnswer 45 = .ok (.iload 4, 2) := by decide +kernel
theorem dX13_sameAnswer_47 : decode cX13_sameAnswer 47 = .ok (.invokevirtual 128, 3) := by decide +kernel
theorem dX13_sameAnswer_50 : decode cX13_sameAnswer 50 = .ok (.if_icmp .ne 7, 3) := by decide +kernel
theorem dX13_sameAnswer_53 : decode cX13_sameAnswer 53 = .ok (.iconst 1, 1) := by decide +kernel
theorem dX13_sameAnswer_54 : decode cX13_sameAnswer 54 = .ok (.goto 4, 3) := by decide +kernel
theorem dX13_sameAnswer_57 : decode cX13_sameAnswer 57 = .ok (.iconst 0, 1) := by decide +kernel
theorem dX13_sameAnswer_58 : decode cX13_sameAnswer 58 = .ok (.ireturn, 1) := by decide +kernel
theorem dX13_same_0 : decode cX13_same 0 = .ok (.aload_n 0, 1) := by decide +kernel
theorem dX13_same_1 : decode cX13_same 1 = .ok (.aload_n 0, 1) := by decide +kernel
theorem dX13_same_2 : decode cX13_same 2 = .ok (.iload_n 1, 1) := by decide +kernel
theorem dX13_same_3 : decode cX13_same 3 = .ok (.iload_n 2, 1) := by decide +kernel
theorem dX13_same_4 : decode cX13_same 4 = .ok (.iload_n 3, 1) := by decide +kernel
theorem dX13_same_5 : decode cX13_same 5 = .ok (.iload 4, 2) := by decide +kernel
theorem dX13_same_7 : decode cX13_same 7 = .ok (.invokevirtual 184, 3) := by decide +kernel
theorem dX13_same_10 : decode cX13_same 10 = .ok (.invokevirtual 137, 3) := by decide +kernel
theorem dX13_same_13 : decode cX13_same 13 = .ok (.ireturn, 1) := by decide +kernel
theorem dX13_sizeAnswer_0 : decode cX13_sizeAnswer 0 = .ok (.iload_n 1, 1) := by decide +kernel
theorem dX13_sizeAnswer_1 : decode cX13_sizeAnswer 1 = .ok (.invokestatic 134, 3) := by decide +kernel
theorem dX13_sizeAnswer_4 : decode cX13_sizeAnswer 4 = .ok (.ifCond .ne 5, 3) := by decide +kernel
theorem dX13_sizeAnswer_7 : decode cX13_sizeAnswer 7 = .ok (.iconst (-1), 1) := by decide +kernel
theorem dX13_sizeAnswer_8 : decode cX13_sizeAnswer 8 = .ok (.ireturn, 1) := by decide +kernel
theorem dX13_sizeAnswer_9 : decode cX13_sizeAnswer 9 = .ok (.aload_n 0, 1) := by decide +kernel
theorem dX13_sizeAnswer_10 : decode cX13_sizeAnswer 10 = .ok (.iload_n 1, 1) := by decide +kernel
theorem dX13_sizeAnswer_11 : decode cX13_sizeAnswer 11 = .ok (.iload_n 2, 1) := by decide +kernel
theorem dX13_sizeAnswer_12 : decode cX13_sizeAnswer 12 = .ok (.invokevirtual 131, 3) := by decide +kernel
theorem dX13_sizeAnswer_15 : decode cX13_sizeAnswer 15 = .ok (.istore_n 3, 1) := by decide +kernel
theorem dX13_sizeAnswer_16 : decode cX13_sizeAnswer 16 = .ok (.iload_n 3, 1) := by decide +kernel
theorem dX13_sizeAnswer_17 : decode cX13_sizeAnswer 17 = .ok (.ifCond .eq 7, 3) := by decide +kernel
theorem dX13_sizeAnswer_20 : decode cX13_sizeAnswer 20 = .ok (.iload_n 3, 1) := by decide +kernel
theorem dX13_sizeAnswer_21 : decode cX13_sizeAnswer 21 = .ok (.goto 14, 3) := by decide +kernel
theorem dX13_sizeAnswer_24 : decode cX13_sizeAnswer 24 = .ok (.aload_n 0, 1) := by decide +kernel
theorem dX13_sizeAnswer_25 : decode cX13_sizeAnswer 25 = .ok (.getfield 26, 3) := by decide +kernel
theorem dX13_sizeAnswer_28 : decode cX13_sizeAnswer 28 = .ok (.aload_n 0, 1) := by decide +kernel
theorem dX13_sizeAnswer_29 : decode cX13_sizeAnswer 29 = .ok (.iload_n 1, 1) := by decide +kernel
theorem dX13_sizeAnswer_30 : decode cX13_sizeAnswer 30 = .ok (.iload_n 2, 1) := by decide +kernel
theorem dX13_sizeAnswer_31 : decode cX13_sizeAnswer 31 = .ok (.invokevirtual 128, 3) := by decide +kernel
theorem dX13_sizeAnswer_34 : decode cX13_sizeAnswer 34 = .ok (.iaload, 1) := by decide +kernel
theorem dX13_sizeAnswer_35 : decode cX13_sizeAnswer 35 = .ok (.ireturn, 1) := by decide +kernel
theorem dX13_size_0 : decode cX13_size 0 = .ok (.aload_n 0, 1) := by decide +kernel
theorem dX13_size_1 : decode cX13_size 1 = .ok (.aload_n 0, 1) := by decide +kernel
theorem dX13_size_2 : decode cX13_size 2 = .ok (.iload_n 1, 1) := by decide +kernel
theorem dX13_size_3 : decode cX13_size 3 = .ok (.iload_n 2, 1) := by decide +kernel
theorem dX13_size_4 : decode cX13_size 4 = .ok (.invokevirtual 187, 3) := by decide +kernel
theorem dX13_size_7 : decode cX13_size 7 = .ok (.invokevirtual 137, 3) := by decide +kernel
theorem dX13_size_10 : decode cX13_size 10 = .ok (.ireturn, 1) := by decide +kernel
theorem dX13_makes_0 : decode cX13_makes 0 = .ok (.aload_n 0, 1) := by decide +kernel
theorem dX13_makes_1 : decode cX13_makes 1 = .ok (.iload_n 1, 1) := by decide +kernel
theorem dX13_makes_2 : decode cX13_makes 2 = .ok (.putfield 190, 3) := by decide +kernel
theorem dX13_makes_5 : decode cX13_makes 5 = .ok (.aload_n 0, 1) := by decide +kernel
theorem dX13_makes_6 : decode cX13_makes 6 = .ok (.dconst 0, 1) := by decide +kernel
theorem dX13_makes_7 : decode cX13_makes 7 = .ok (.putfield 193, 3) := by decide +kernel
theorem dX13_makes_10 : decode cX13_makes 10 = .ok (.iload_n 1, 1) := by decide +kernel
theorem dX13_makes_11 : decode cX13_makes 11 = .ok (.tableswitch 142 0 7 #[45, 55, 66, 77, 88, 98, 106, 124], 45) := by decide +kernel
theorem dX13_makes_56 : decode cX13_makes 56 = .ok (.aload_n 0, 1) := by decide +kernel
theorem dX13_makes_57 : decode cX13_makes 57 = .ok (.lload_n 2, 1) := by decide +kernel
theorem dX13_makes_58 : decode cX13_makes 58 = .ok (.lconst 1, 1) := by decide +kernel
theorem dX13_makes_59 : decode cX13_makes 59 = .ok (.land, 1) := by decide +kernel
theorem dX13_makes_60 : decode cX13_makes 60 = .ok (.putfield 197, 3) := by decide +kernel
theorem dX13_makes_63 : decode cX13_makes 63 = .ok (.goto 109, 3) := by decide +kernel
theorem dX13_makes_66 : decode cX13_makes 66 = .ok (.aload_n 0, 1) := by decide +kernel
theorem dX13_makes_67 : decode cX13_makes 67 = .ok (.lload_n 2, 1) := by decide +kernel
theorem dX13_makes_68 : decode cX13_makes 68 = .ok (.l2i, 1) := by decide +kernel
theorem dX13_makes_69 : decode cX13_makes 69 = .ok (.i2b, 1) := by decide +kernel
theorem dX13_makes_70 : decode cX13_makes 70 = .ok (.i2l, 1) := by decide +kernel
theorem dX13_makes_71 : decode cX13_makes 71 = .ok (.putfield 197, 3) := by decide +kernel
theorem dX13_makes_74 : decode cX13_makes 74 = .ok (.goto 98, 3) := by decide +kernel
theorem dX13_makes_77 : decode cX13_makes 77 = .ok (.aload_n 0, 1) := by decide +kernel
theorem dX13_makes_78 : decode cX13_makes 78 = .ok (.lload_n 2, 1) := by decide +kernel
theorem dX13_makes_79 : decode cX13_makes 79 = .ok (.l2i, 1) := by decide +kernel
theorem dX13_makes_80 : decode cX13_makes 80 = .ok (.i2c, 1) := by decide +kernel
theorem dX13_makes_81 : decode cX13_makes 81 = .ok (.i2l, 1) := by decide +kernel
theorem dX13_makes_82 : decode cX13_makes 82 = .ok (.putfield 197, 3) := by decide +kernel
theorem dX13_makes_85 : decode cX13_makes 85 = .ok (.goto 87, 3) := by decide +kernel
theorem dX13_makes_88 : decode cX13_makes 88 = .ok (.aload_n 0, 1) := by decide +kernel
theorem dX13_makes_89 : decode cX13_makes 89 = .ok (.lload_n 2, 1) := by decide +kernel
theorem dX13_makes_90 : decode cX13_makes 90 = .ok (.l2i, 1) := by decide +kernel
theorem dX13_makes_91 : decode cX13_makes 91 = .ok (.i2s, 1) := by decide +kernel
theorem dX13_makes_92 : decode cX13_makes 92 = .ok (.i2l, 1) := by decide +kernel
theorem dX13_makes_93 : decode cX13_makes 93 = .ok (.putfield 197, 3) := by decide +kernel
theorem dX13_makes_96 : decode cX13_makes 96 = .ok (.goto 76, 3) := by decide +kernel
theorem dX13_makes_99 : decode cX13_makes 99 = .ok (.aload_n 0, 1) := by decide +kernel
theorem dX13_makes_100 : decode cX13_makes 100 = .ok (.lload_n 2, 1) := by decide +kernel
theorem dX13_makes_101 : decode cX13_makes 101 = .ok (.l2i, 1) := by decide +kernel
theorem dX13_makes_102 : decode cX13_makes 102 = .ok (.i2l, 1) := by decide +kernel
theorem dX13_makes_103 : decode cX13_makes 103 = .ok (.putfield 197, 3) := by decide +kernel
theorem dX13_makes_106 : decode cX13_makes 106 = .ok (.goto 66, 3) := by decide +kernel
theorem dX13_makes_109 : decode cX13_makes 109 = .ok (.aload_n 0, 1) := by decide +kernel
theorem dX13_makes_110 : decode cX13_makes 110 = .ok (.lload_n 2, 1) := by decide +kernel
theorem dX13_makes_111 : decode cX13_makes 111 = .ok (.putfield 197, 3) := by decide +kernel
theorem dX13_makes_114 : decode cX13_makes 114 = .ok (.goto 58, 3) := by decide +kernel
theorem dX13_makes_117 : decode cX13_makes 117 = .ok (.aload_n 0, 1) := by decide +kernel
theorem dX13_makes_118 : decode cX13_makes 118 = .ok (.lconst 0, 1) := by decide +kernel
theorem dX13_makes_119 : decode cX13_makes 119 = .ok (.putfield 197, 3) := by decide +kernel
theorem dX13_makes_122 : decode cX13_makes 122 = .ok (.aload_n 0, 1) := by decide +kernel
theorem dX13_makes_123 : decode cX13_makes 123 = .ok (.lload_n 2, 1) := by decide +kernel
theorem dX13_makes_124 : decode cX13_makes 124 = .ok (.l2f, 1) := by decide +kernel
theorem dX13_makes_125 : decode cX13_makes 125 = .ok (.ldc 200, 2) := by decide +kernel
theorem dX13_makes_127 : decode cX13_makes 127 = .ok (.fdiv, 1) := by decide +kernel
theorem dX13_makes_128 : decode cX13_makes 128 = .ok (.f2d, 1) := by decide +kernel
theorem dX13_makes_129 : decode cX13_makes 129 = .ok (.putfield 193, 3) := by decide +kernel
theorem dX13_makes_132 : decode cX13_makes 132 = .ok (.goto 40, 3) := by decide +kernel
theorem dX13_makes_135 : decode cX13_makes 135 = .ok (.aload_n 0, 1) := by decide +kernel
theorem dX13_makes_136 : decode cX13_makes 136 = .ok (.lconst 0, 1) := by decide +kernel
theorem dX13_makes_137 : decode cX13_makes 137 = .ok (.putfield 197, 3) := by decide +kernel
theorem dX13_makes_140 : decode cX13_makes 140 = .ok (.aload_n 0, 1) := by decide +kernel
theorem dX13_makes_141 : decode cX13_makes 141 = .ok (.lload_n 2, 1) := by decide +kernel
theorem dX13_makes_142 : decode cX13_makes 142 = .ok (.l2d, 1) := by decide +kernel
theorem dX13_makes_143 : decode cX13_makes 143 = .ok (.ldc2_w 201, 3) := by decide +kernel
theorem dX13_makes_146 : decode cX13_makes 146 = .ok (.ddiv, 1) := by decide +kernel
theorem dX13_makes_147 : decode cX13_makes 147 = .ok (.putfield 193, 3) := by decide +kernel
theorem dX13_makes_150 : decode cX13_makes 150 = .ok (.goto 22, 3) := by decide +kernel
theorem dX13_makes_153 : decode cX13_makes 153 = .ok (.aload_n 0, 1) := by decide +kernel
theorem dX13_makes_154 : decode cX13_makes 154 = .ok (.iload_n 1, 1) := by decide +kernel
theorem dX13_makes_155 : decode cX13_makes 155 = .ok (.bipush 11, 2) := by decide +kernel
theorem dX13_makes_157 : decode cX13_makes 157 = .ok (.if_icmp .ne 7, 3) := by decide +kernel
theorem dX13_makes_160 : decode cX13_makes 160 = .ok (.lconst 0, 1) := by decide +kernel
theorem dX13_makes_161 : decode cX13_makes 161 = .ok (.goto 8, 3) := by decide +kernel
theorem dX13_makes_164 : decode cX13_makes 164 = .ok (.lload_n 2, 1) := by decide +kernel
theorem dX13_makes_165 : decode cX13_makes 165 = .ok (.ldc2_w 203, 3) := by decide +kernel
theorem dX13_makes_168 : decode cX13_makes 168 = .ok (.land, 1) := by decide +kernel
theorem dX13_makes_169 : decode cX13_makes 169 = .ok (.putfield 197, 3) := by decide +kernel
theorem dX13_makes_172 : decode cX13_makes 172 = .ok (.return_, 1) := by decide +kernel
theorem dX13_takes_0 : decode cX13_takes 0 = .ok (.iload_n 0, 1) := by decide +kernel
theorem dX13_takes_1 : decode cX13_takes 1 = .ok (.tableswitch 157 0 10 #[59, 69, 80, 91, 107, 107, 107, 107, 114, 116, 133], 59) := by decide +kernel
theorem dX13_takes_60 : decode cX13_takes 60 = .ok (.iload_n 1, 1) := by decide +kernel
theorem dX13_takes_61 : decode cX13_takes 61 = .ok (.ifCond .ne 7, 3) := by decide +kernel
theorem dX13_takes_64 : decode cX13_takes 64 = .ok (.iconst 1, 1) := by decide +kernel
theorem dX13_takes_65 : decode cX13_takes 65 = .ok (.goto 4, 3) := by decide +kernel
theorem dX13_takes_68 : decode cX13_takes 68 = .ok (.iconst 0, 1) := by decide +kernel
theorem dX13_takes_69 : decode cX13_takes 69 = .ok (.ireturn, 1) := by decide +kernel
theorem dX13_takes_70 : decode cX13_takes 70 = .ok (.iload_n 1, 1) := by decide +kernel
theorem dX13_takes_71 : decode cX13_takes 71 = .ok (.iconst 1, 1) := by decide +kernel
theorem dX13_takes_72 : decode cX13_takes 72 = .ok (.if_icmp .ne 7, 3) := by decide +kernel
theorem dX13_takes_75 : decode cX13_takes 75 = .ok (.iconst 1, 1) := by decide +kernel
theorem dX13_takes_76 : decode cX13_takes 76 = .ok (.goto 4, 3) := by decide +kernel
theorem dX13_takes_79 : decode cX13_takes 79 = .ok (.iconst 0, 1) := by decide +kernel
theorem dX13_takes_80 : decode cX13_takes 80 = .ok (.ireturn, 1) := by decide +kernel
theorem dX13_takes_81 : decode cX13_takes 81 = .ok (.iload_n 1, 1) := by decide +kernel
theorem dX13_takes_82 : decode cX13_takes 82 = .ok (.iconst 2, 1) := by decide +kernel
theorem dX13_takes_83 : decode cX13_takes 83 = .ok (.if_icmp .ne 7, 3) := by decide +kernel
theorem dX13_takes_86 : decode cX13_takes 86 = .ok (.iconst 1, 1) := by decide +kernel
theorem dX13_takes_87 : decode cX13_takes 87 = .ok (.goto 4, 3) := by decide +kernel
theorem dX13_takes_90 : decode cX13_takes 90 = .ok (.iconst 0, 1) := by decide +kernel
theorem dX13_takes_91 : decode cX13_takes 91 = .ok (.ireturn, 1) := by decide +kernel
theorem dX13_takes_92 : decode cX13_takes 92 = .ok (.iload_n 1, 1) := by decide +kernel
theorem dX13_takes_93 : decode cX13_takes 93 = .ok (.iconst 1, 1) := by decide +kernel
theorem dX13_takes_94 : decode cX13_takes 94 = .ok (.if_icmp .eq 8, 3) := by decide +kernel
theorem dX13_takes_97 : decode cX13_takes 97 = .ok (.iload_n 1, 1) := by decide +kernel
theorem dX13_takes_98 : decode cX13_takes 98 = .ok (.iconst 3, 1) := by decide +kernel
theorem dX13_takes_99 : decode cX13_takes 99 = .ok (.if_icmp .ne 7, 3) := by decide +kernel
theorem dX13_takes_102 : decode cX13_takes 102 = .ok (.iconst 1, 1) := by decide +kernel
theorem dX13_takes_103 : decode cX13_takes 103 = .ok (.goto 4, 3) := by decide +kernel
theorem dX13_takes_106 : decode cX13_takes 106 = .ok (.iconst 0, 1) := by decide +kernel
theorem dX13_takes_107 : decode cX13_takes 107 = .ok (.ireturn, 1) := by decide +kernel
theorem dX13_takes_108 : decode cX13_takes 108 = .ok (.iload_n 1, 1) := by decide +kernel
theorem dX13_takes_109 : decode cX13_takes 109 = .ok (.iconst 1, 1) := by decide +kernel
theorem dX13_takes_110 : decode cX13_takes 110 = .ok (.iload_n 0, 1) := by decide +kernel
theorem dX13_takes_111 : decode cX13_takes 111 = .ok (.invokestatic 109, 3) := by decide +kernel
theorem dX13_takes_114 : decode cX13_takes 114 = .ok (.ireturn, 1) := by decide +kernel
theorem dX13_takes_115 : decode cX13_takes 115 = .ok (.iconst 1, 1) := by decide +kernel
theorem dX13_takes_116 : decode cX13_takes 116 = .ok (.ireturn, 1) := by decide +kernel
theorem dX13_takes_117 : decode cX13_takes 117 = .ok (.iload_n 1, 1) := by decide +kernel
theorem dX13_takes_118 : decode cX13_takes 118 = .ok (.iconst 4, 1) := by decide +kernel
theorem dX13_takes_119 : decode cX13_takes 119 = .ok (.if_icmp .eq 9, 3) := by decide +kernel
theorem dX13_takes_122 : decode cX13_takes 122 = .ok (.iload_n 1, 1) := by decide +kernel
theorem dX13_takes_123 : decode cX13_takes 123 = .ok (.bipush 11, 2) := by decide +kernel
theorem dX13_takes_125 : decode cX13_takes 125 = .ok (.if_icmp .ne 7, 3) := by decide +kernel
theorem dX13_takes_128 : decode cX13_takes 128 = .ok (.iconst 1, 1) := by decide +kernel
theorem dX13_takes_129 : decode cX13_takes 129 = .ok (.goto 4, 3) := by decide +kernel
theorem dX13_takes_132 : decode cX13_takes 132 = .ok (.iconst 0, 1) := by decide +kernel
theorem dX13_takes_133 : decode cX13_takes 133 = .ok (.ireturn, 1) := by decide +kernel
theorem dX13_takes_134 : decode cX13_takes 134 = .ok (.iload_n 1, 1) := by decide +kernel
theorem dX13_takes_135 : decode cX13_takes 135 = .ok (.bipush 8, 2) := by decide +kernel
theorem dX13_takes_137 : decode cX13_takes 137 = .ok (.if_icmp .eq 15, 3) := by decide +kernel
theorem dX13_takes_140 : decode cX13_takes 140 = .ok (.iload_n 1, 1) := by decide +kernel
theorem dX13_takes_141 : decode cX13_takes 141 = .ok (.bipush 9, 2) := by decide +kernel
theorem dX13_takes_143 : decode cX13_takes 143 = .ok (.if_icmp .eq 9, 3) := by decide +kernel
theorem dX13_takes_146 : decode cX13_takes 146 = .ok (.iload_n 1, 1) := by decide +kernel
theorem dX13_takes_147 : decode cX13_takes 147 = .ok (.bipush 11, 2) := by decide +kernel
theorem dX13_takes_149 : decode cX13_takes 149 = .ok (.if_icmp .ne 7, 3) := by decide +kernel
theorem dX13_takes_152 : decode cX13_takes 152 = .ok (.iconst 1, 1) := by decide +kernel
theorem dX13_takes_153 : decode cX13_takes 153 = .ok (.goto 4, 3) := by decide +kernel
theorem dX13_takes_156 : decode cX13_takes 156 = .ok (.iconst 0, 1) := by decide +kernel
theorem dX13_takes_157 : decode cX13_takes 157 = .ok (.ireturn, 1) := by decide +kernel
theorem dX13_takes_158 : decode cX13_takes 158 = .ok (.iload_n 1, 1) := by decide +kernel
theorem dX13_takes_159 : decode cX13_takes 159 = .ok (.bipush 10, 2) := by decide +kernel
theorem dX13_takes_161 : decode cX13_takes 161 = .ok (.if_icmp .eq 9, 3) := by decide +kernel
theorem dX13_takes_164 : decode cX13_takes 164 = .ok (.iload_n 1, 1) := by decide +kernel
theorem dX13_takes_165 : decode cX13_takes 165 = .ok (.bipush 11, 2) := by decide +kernel
theorem dX13_takes_167 : decode cX13_takes 167 = .ok (.if_icmp .ne 7, 3) := by decide +kernel
theorem dX13_takes_170 : decode cX13_takes 170 = .ok (.iconst 1, 1) := by decide +kernel
theorem dX13_takes_171 : decode cX13_takes 171 = .ok (.goto 4, 3) := by decide +kernel
theorem dX13_takes_174 : decode cX13_takes 174 = .ok (.iconst 0, 1) := by decide +kernel
theorem dX13_takes_175 : decode cX13_takes 175 = .ok (.ireturn, 1) := by decide +kernel
theorem dX13_loads_0 : decode cX13_loads 0 = .ok (.aload_n 0, 1) := by decide +kernel
theorem dX13_loads_1 : decode cX13_loads 1 = .ok (.aload_n 0, 1) := by decide +kernel
theorem dX13_loads_2 : decode cX13_loads 2 = .ok (.getfield 32, 3) := by decide +kernel
theorem dX13_loads_5 : decode cX13_loads 5 = .ok (.bipush 12, 2) := by decide +kernel
theorem dX13_loads_7 : decode cX13_loads 7 = .ok (.iload_n 1, 1) := by decide +kernel
theorem dX13_loads_8 : decode cX13_loads 8 = .ok (.imul, 1) := by decide +kernel
theorem dX13_loads_9 : decode cX13_loads 9 = .ok (.iload_n 2, 1) := by decide +kernel
theorem dX13_loads_10 : decode cX13_loads 10 = .ok (.iadd, 1) := by decide +kernel
theorem dX13_loads_11 : decode cX13_loads 11 = .ok (.iaload, 1) := by decide +kernel
theorem dX13_loads_12 : decode cX13_loads 12 = .ok (.putfield 190, 3) := by decide +kernel
theorem dX13_loads_15 : decode cX13_loads 15 = .ok (.aload_n 0, 1) := by decide +kernel
theorem dX13_loads_16 : decode cX13_loads 16 = .ok (.aload_n 0, 1) := by decide +kernel
theorem dX13_loads_17 : decode cX13_loads 17 = .ok (.getfield 35, 3) := by decide +kernel
theorem dX13_loads_20 : decode cX13_loads 20 = .ok (.bipush 12, 2) := by decide +kernel
theorem dX13_loads_22 : decode cX13_loads 22 = .ok (.iload_n 1, 1) := by decide +kernel
theorem dX13_loads_23 : decode cX13_loads 23 = .ok (.imul, 1) := by decide +kernel
theorem dX13_loads_24 : decode cX13_loads 24 = .ok (.iload_n 2, 1) := by decide +kernel
theorem dX13_loads_25 : decode cX13_loads 25 = .ok (.iadd, 1) := by decide +kernel
theorem dX13_loads_26 : decode cX13_loads 26 = .ok (.laload, 1) := by decide +kernel
theorem dX13_loads_27 : decode cX13_loads 27 = .ok (.putfield 197, 3) := by decide +kernel
theorem dX13_loads_30 : decode cX13_loads 30 = .ok (.aload_n 0, 1) := by decide +kernel
theorem dX13_loads_31 : decode cX13_loads 31 = .ok (.aload_n 0, 1) := by decide +kernel
theorem dX13_loads_32 : decode cX13_loads 32 = .ok (.getfield 39, 3) := by decide +kernel
theorem dX13_loads_35 : decode cX13_loads 35 = .ok (.bipush 12, 2) := by decide +kernel
theorem dX13_loads_37 : decode cX13_loads 37 = .ok (.iload_n 1, 1) := by decide +kernel
theorem dX13_loads_38 : decode cX13_loads 38 = .ok (.imul, 1) := by decide +kernel
theorem dX13_loads_39 : decode cX13_loads 39 = .ok (.iload_n 2, 1) := by decide +kernel
theorem dX13_loads_40 : decode cX13_loads 40 = .ok (.iadd, 1) := by decide +kernel
theorem dX13_loads_41 : decode cX13_loads 41 = .ok (.daload, 1) := by decide +kernel
theorem dX13_loads_42 : decode cX13_loads 42 = .ok (.putfield 193, 3) := by decide +kernel
theorem dX13_loads_45 : decode cX13_loads 45 = .ok (.return_, 1) := by decide +kernel
theorem dX13_widens_0 : decode cX13_widens 0 = .ok (.iload_n 1, 1) := by decide +kernel
theorem dX13_widens_1 : decode cX13_widens 1 = .ok (.bipush 6, 2) := by decide +kernel
theorem dX13_widens_3 : decode cX13_widens 3 = .ok (.if_icmp .ne 30, 3) := by decide +kernel
theorem dX13_widens_6 : decode cX13_widens 6 = .ok (.aload_n 0, 1) := by decide +kernel
theorem dX13_widens_7 : decode cX13_widens 7 = .ok (.getfield 190, 3) := by decide +kernel
theorem dX13_widens_10 : decode cX13_widens 10 = .ok (.bipush 6, 2) := by decide +kernel
theorem dX13_widens_12 : decode cX13_widens 12 = .ok (.if_icmp .ge 21, 3) := by decide +kernel
theorem dX13_widens_15 : decode cX13_widens 15 = .ok (.aload_n 0, 1) := by decide +kernel
theorem dX13_widens_16 : decode cX13_widens 16 = .ok (.aload_n 0, 1) := by decide +kernel
theorem dX13_widens_17 : decode cX13_widens 17 = .ok (.getfield 197, 3) := by decide +kernel
theorem dX13_widens_20 : decode cX13_widens 20 = .ok (.l2f, 1) := by decide +kernel
theorem dX13_widens_21 : decode cX13_widens 21 = .ok (.f2d, 1) := by decide +kernel
theorem dX13_widens_22 : decode cX13_widens 22 = .ok (.putfield 193, 3) := by decide +kernel
theorem dX13_widens_25 : decode cX13_widens 25 = .ok (.aload_n 0, 1) := by decide +kernel
theorem dX13_widens_26 : decode cX13_widens 26 = .ok (.lconst 0, 1) := by decide +kernel
theorem dX13_widens_27 : decode cX13_widens 27 = .ok (.putfield 197, 3) := by decide +kernel
theorem dX13_widens_30 : decode cX13_widens 30 = .ok (.goto 32, 3) := by decide +kernel
theorem dX13_widens_33 : decode cX13_widens 33 = .ok (.iload_n 1, 1) := by decide +kernel
theorem dX13_widens_34 : decode cX13_widens 34 = .ok (.bipush 7, 2) := by decide +kernel
theorem dX13_widens_36 : decode cX13_widens 36 = .ok (.if_icmp .ne 26, 3) := by decide +kernel
theorem dX13_widens_39 : decode cX13_widens 39 = .ok (.aload_n 0, 1) := by decide +kernel
theorem dX13_widens_40 : decode cX13_widens 40 = .ok (.getfield 190, 3) := by decide +kernel
theorem dX13_widens_43 : decode cX13_widens 43 = .ok (.bipush 6, 2) := by decide +kernel
theorem dX13_widens_45 : decode cX13_widens 45 = .ok (.if_icmp .ge 17, 3) := by decide +kernel
theorem dX13_widens_48 : decode cX13_widens 48 = .ok (.aload_n 0, 1) := by decide +kernel
theorem dX13_widens_49 : decode cX13_widens 49 = .ok (.aload_n 0, 1) := by decide +kernel
theorem dX13_widens_50 : decode cX13_widens 50 = .ok (.getfield 197, 3) := by decide +kernel
theorem dX13_widens_53 : decode cX13_widens 53 = .ok (.l2d, 1) := by decide +kernel
theorem dX13_widens_54 : decode cX13_widens 54 = .ok (.putfield 193, 3) := by decide +kernel
theorem dX13_widens_57 : decode cX13_widens 57 = .ok (.aload_n 0, 1) := by decide +kernel
theorem dX13_widens_58 : decode cX13_widens 58 = .ok (.lconst 0, 1) := by decide +kernel
theorem dX13_widens_59 : decode cX13_widens 59 = .ok (.putfield 197, 3) := by decide +kernel
theorem dX13_widens_62 : decode cX13_widens 62 = .ok (.aload_n 0, 1) := by decide +kernel
theorem dX13_widens_63 : decode cX13_widens 63 = .ok (.iload_n 1, 1) := by decide +kernel
theorem dX13_widens_64 : decode cX13_widens 64 = .ok (.putfield 190, 3) := by decide +kernel
theorem dX13_widens_67 : decode cX13_widens 67 = .ok (.return_, 1) := by decide +kernel
theorem dX13_lays_0 : decode cX13_lays 0 = .ok (.aload_n 0, 1) := by decide +kernel
theorem dX13_lays_1 : decode cX13_lays 1 = .ok (.getfield 32, 3) := by decide +kernel
theorem dX13_lays_4 : decode cX13_lays 4 = .ok (.bipush 12, 2) := by decide +kernel
theorem dX13_lays_6 : decode cX13_lays 6 = .ok (.iload_n 1, 1) := by decide +kernel
theorem dX13_lays_7 : decode cX13_lays 7 = .ok (.imul, 1) := by decide +kernel
theorem dX13_lays_8 : decode cX13_lays 8 = .ok (.iload_n 2, 1) := by decide +kernel
theorem dX13_lays_9 : decode cX13_lays 9 = .ok (.iadd, 1) := by decide +kernel
theorem dX13_lays_10 : decode cX13_lays 10 = .ok (.aload_n 0, 1) := by decide +kernel
theorem dX13_lays_11 : decode cX13_lays 11 = .ok (.getfield 190, 3) := by decide +kernel
theorem dX13_lays_14 : decode cX13_lays 14 = .ok (.iastore, 1) := by decide +kernel
theorem dX13_lays_15 : decode cX13_lays 15 = .ok (.aload_n 0, 1) := by decide +kernel
theorem dX13_lays_16 : decode cX13_lays 16 = .ok (.getfield 35, 3) := by decide +kernel
theorem dX13_lays_19 : decode cX13_lays 19 = .ok (.bipush 12, 2) := by decide +kernel
theorem dX13_lays_21 : decode cX13_lays 21 = .ok (.iload_n 1, 1) := by decide +kernel
theorem dX13_lays_22 : decode cX13_lays 22 = .ok (.imul, 1) := by decide +kernel
theorem dX13_lays_23 : decode cX13_lays 23 = .ok (.iload_n 2, 1) := by decide +kernel
theorem dX13_lays_24 : decode cX13_lays 24 = .ok (.iadd, 1) := by decide +kernel
theorem dX13_lays_25 : decode cX13_lays 25 = .ok (.aload_n 0, 1) := by decide +kernel
theorem dX13_lays_26 : decode cX13_lays 26 = .ok (.getfield 197, 3) := by decide +kernel
theorem dX13_lays_29 : decode cX13_lays 29 = .ok (.lastore, 1) := by decide +kernel
theorem dX13_lays_30 : decode cX13_lays 30 = .ok (.aload_n 0, 1) := by decide +kernel
theorem dX13_lays_31 : decode cX13_lays 31 = .ok (.getfield 39, 3) := by decide +kernel
theorem dX13_lays_34 : decode cX13_lays 34 = .ok (.bipush 12, 2) := by decide +kernel
theorem dX13_lays_36 : decode cX13_lays 36 = .ok (.iload_n 1, 1) := by decide +kernel
theorem dX13_lays_37 : decode cX13_lays 37 = .ok (.imul, 1) := by decide +kernel
theorem dX13_lays_38 : decode cX13_lays 38 = .ok (.iload_n 2, 1) := by decide +kernel
theorem dX13_lays_39 : decode cX13_lays 39 = .ok (.iadd, 1) := by decide +kernel
theorem dX13_lays_40 : decode cX13_lays 40 = .ok (.aload_n 0, 1) := by decide +kernel
theorem dX13_lays_41 : decode cX13_lays 41 = .ok (.getfield 193, 3) := by decide +kernel
theorem dX13_lays_44 : decode cX13_lays 44 = .ok (.dastore, 1) := by decide +kernel
theorem dX13_lays_45 : decode cX13_lays 45 = .ok (.return_, 1) := by decide +kernel
theorem dX13_puts_0 : decode cX13_puts 0 = .ok (.aload_n 0, 1) := by decide +kernel
theorem dX13_puts_1 : decode cX13_puts 1 = .ok (.getfield 23, 3) := by decide +kernel
theorem dX13_puts_4 : decode cX13_puts 4 = .ok (.iload_n 1, 1) := by decide +kernel
theorem dX13_puts_5 : decode cX13_puts 5 = .ok (.iaload, 1) := by decide +kernel
theorem dX13_puts_6 : decode cX13_puts 6 = .ok (.aload_n 0, 1) := by decide +kernel
theorem dX13_puts_7 : decode cX13_puts 7 = .ok (.getfield 190, 3) := by decide +kernel
theorem dX13_puts_10 : decode cX13_puts 10 = .ok (.invokestatic 205, 3) := by decide +kernel
theorem dX13_puts_13 : decode cX13_puts 13 = .ok (.ifCond .ne 5, 3) := by decide +kernel
theorem dX13_puts_16 : decode cX13_puts 16 = .ok (.iconst 0, 1) := by decide +kernel
theorem dX13_puts_17 : decode cX13_puts 17 = .ok (.ireturn, 1) := by decide +kernel
theorem dX13_puts_18 : decode cX13_puts 18 = .ok (.aload_n 0, 1) := by decide +kernel
theorem dX13_puts_19 : decode cX13_puts 19 = .ok (.getfield 23, 3) := by decide +kernel
theorem dX13_puts_22 : decode cX13_puts 22 = .ok (.iload_n 1, 1) := by decide +kernel
theorem dX13_puts_23 : decode cX13_puts 23 = .ok (.iaload, 1) := by decide +kernel
theorem dX13_puts_24 : decode cX13_puts 24 = .ok (.invokestatic 209, 3) := by decide +kernel
theorem dX13_puts_27 : decode cX13_puts 27 = .ok (.ifCond .eq 13, 3) := by decide +kernel
theorem dX13_puts_30 : decode cX13_puts 30 = .ok (.aload_n 0, 1) := by decide +kernel
theorem dX13_puts_31 : decode cX13_puts 31 = .ok (.aload_n 0, 1) := by decide +kernel
theorem dX13_puts_32 : decode cX13_puts 32 = .ok (.getfield 23, 3) := by decide +kernel
theorem dX13_puts_35 : decode cX13_puts 35 = .ok (.iload_n 1, 1) := by decide +kernel
theorem dX13_puts_36 : decode cX13_puts 36 = .ok (.iaload, 1) := by decide +kernel
theorem dX13_puts_37 : decode cX13_puts 37 = .ok (.invokevirtual 212, 3) := by decide +kernel
theorem dX13_puts_40 : decode cX13_puts 40 = .ok (.aload_n 0, 1) := by decide +kernel
theorem dX13_puts_41 : decode cX13_puts 41 = .ok (.iload_n 1, 1) := by decide +kernel
theorem dX13_puts_42 : decode cX13_puts 42 = .ok (.iload_n 2, 1) := by decide +kernel
theorem dX13_puts_43 : decode cX13_puts 43 = .ok (.invokevirtual 216, 3) := by decide +kernel
theorem dX13_puts_46 : decode cX13_puts 46 = .ok (.iconst 1, 1) := by decide +kernel
theorem dX13_puts_47 : decode cX13_puts 47 = .ok (.ireturn, 1) := by decide +kernel
theorem dX13_toldOf_0 : decode cX13_toldOf 0 = .ok (.aload_n 0, 1) := by decide +kernel
theorem dX13_toldOf_1 : decode cX13_toldOf 1 = .ok (.getfield 190, 3) := by decide +kernel
theorem dX13_toldOf_4 : decode cX13_toldOf 4 = .ok (.bipush 6, 2) := by decide +kernel
theorem dX13_toldOf_6 : decode cX13_toldOf 6 = .ok (.if_icmp .eq 12, 3) := by decide +kernel
theorem dX13_toldOf_9 : decode cX13_toldOf 9 = .ok (.aload_n 0, 1) := by decide +kernel
theorem dX13_toldOf_10 : decode cX13_toldOf 10 = .ok (.getfield 190, 3) := by decide +kernel
theorem dX13_toldOf_13 : decode cX13_toldOf 13 = .ok (.bipush 7, 2) := by decide +kernel
theorem dX13_toldOf_15 : decode cX13_toldOf 15 = .ok (.if_icmp .ne 15, 3) := by decide +kernel
theorem dX13_toldOf_18 : decode cX13_toldOf 18 = .ok (.ldc2_w 201, 3) := by decide +kernel
theorem dX13_toldOf_21 : decode cX13_toldOf 21 = .ok (.aload_n 0, 1) := by decide +kernel
theorem dX13_toldOf_22 : decode cX13_toldOf 22 = .ok (.getfield 193, 3) := by decide +kernel
theorem dX13_toldOf_25 : decode cX13_toldOf 25 = .ok (.dmul, 1) := by decide +kernel
theorem dX13_toldOf_26 : decode cX13_toldOf 26 = .ok (.d2l, 1) := by decide +kernel
theorem dX13_toldOf_27 : decode cX13_toldOf 27 = .ok (.goto 7, 3) := by decide +kernel
theorem dX13_toldOf_30 : decode cX13_toldOf 30 = .ok (.aload_n 0, 1) := by decide +kernel
theorem dX13_toldOf_31 : decode cX13_toldOf 31 = .ok (.getfield 197, 3) := by decide +kernel
theorem dX13_toldOf_34 : decode cX13_toldOf 34 = .ok (.lreturn, 1) := by decide +kernel
theorem dX13_isReadable_0 : decode cX13_isReadable 0 = .ok (.aload_n 0, 1) := by decide +kernel
theorem dX13_isReadable_1 : decode cX13_isReadable 1 = .ok (.getfield 23, 3) := by decide +kernel
theorem dX13_isReadable_4 : decode cX13_isReadable 4 = .ok (.iload_n 1, 1) := by decide +kernel
theorem dX13_isReadable_5 : decode cX13_isReadable 5 = .ok (.iaload, 1) := by decide +kernel
theorem dX13_isReadable_6 : decode cX13_isReadable 6 = .ok (.invokestatic 209, 3) := by decide +kernel
theorem dX13_isReadable_9 : decode cX13_isReadable 9 = .ok (.ifCond .eq 20, 3) := by decide +kernel
theorem dX13_isReadable_12 : decode cX13_isReadable 12 = .ok (.iload_n 2, 1) := by decide +kernel
theorem dX13_isReadable_13 : decode cX13_isReadable 13 = .ok (.aload_n 0, 1) := by decide +kernel
theorem dX13_isReadable_14 : decode cX13_isReadable 14 = .ok (.getfield 23, 3) := by decide +kernel
theorem dX13_isReadable_17 : decode cX13_isReadable 17 = .ok (.iload_n 1, 1) := by decide +kernel
theorem dX13_isReadable_18 : decode cX13_isReadable 18 = .ok (.iaload, 1) := by decide +kernel
theorem dX13_isReadable_19 : decode cX13_isReadable 19 = .ok (.invokestatic 205, 3) := by decide +kernel
theorem dX13_isReadable_22 : decode cX13_isReadable 22 = .ok (.ifCond .eq 7, 3) := by decide +kernel
theorem dX13_isReadable_25 : decode cX13_isReadable 25 = .ok (.iconst 1, 1) := by decide +kernel
theorem dX13_isReadable_26 : decode cX13_isReadable 26 = .ok (.goto 4, 3) := by decide +kernel
theorem dX13_isReadable_29 : decode cX13_isReadable 29 = .ok (.iconst 0, 1) := by decide +kernel
theorem dX13_isReadable_30 : decode cX13_isReadable 30 = .ok (.ireturn, 1) := by decide +kernel
theorem dX13_asDouble_0 : decode cX13_asDouble 0 = .ok (.iload_n 0, 1) := by decide +kernel
theorem dX13_asDouble_1 : decode cX13_asDouble 1 = .ok (.bipush 6, 2) := by decide +kernel
theorem dX13_asDouble_3 : decode cX13_asDouble 3 = .ok (.if_icmp .ge 8, 3) := by decide +kernel
theorem dX13_asDouble_6 : decode cX13_asDouble 6 = .ok (.lload_n 1, 1) := by decide +kernel
theorem dX13_asDouble_7 : decode cX13_asDouble 7 = .ok (.l2d, 1) := by decide +kernel
theorem dX13_asDouble_8 : decode cX13_asDouble 8 = .ok (.goto 4, 3) := by decide +kernel
theorem dX13_asDouble_11 : decode cX13_asDouble 11 = .ok (.dload_n 3, 1) := by decide +kernel
theorem dX13_asDouble_12 : decode cX13_asDouble 12 = .ok (.dreturn, 1) := by decide +kernel
theorem dX13_isNumber_0 : decode cX13_isNumber 0 = .ok (.iload_n 0, 1) := by decide +kernel
theorem dX13_isNumber_1 : decode cX13_isNumber 1 = .ok (.iconst 1, 1) := by decide +kernel
theorem dX13_isNumber_2 : decode cX13_isNumber 2 = .ok (.bipush 7, 2) := by decide +kernel
theorem dX13_isNumber_4 : decode cX13_isNumber 4 = .ok (.invokestatic 109, 3) := by decide +kernel
theorem dX13_isNumber_7 : decode cX13_isNumber 7 = .ok (.ireturn, 1) := by decide +kernel
theorem dX13_areLike_0 : decode cX13_areLike 0 = .ok (.iload_n 0, 1) := by decide +kernel
theorem dX13_areLike_1 : decode cX13_areLike 1 = .ok (.invokestatic 219, 3) := by decide +kernel
theorem dX13_areLike_4 : decode cX13_areLike 4 = .ok (.ifCond .eq 64, 3) := by decide +kernel
theorem dX13_areLike_7 : decode cX13_areLike 7 = .ok (.iload 5, 2) := by decide +kernel
theorem dX13_areLike_9 : decode cX13_areLike 9 = .ok (.invokestatic 219, 3) := by decide +kernel
theorem dX13_areLike_12 : decode cX13_areLike 12 = .ok (.ifCond .eq 56, 3) := by decide +kernel
theorem dX13_areLike_15 : decode cX13_areLike 15 = .ok (.iload_n 0, 1) := by decide +kernel
theorem dX13_areLike_16 : decode cX13_areLike 16 = .ok (.bipush 6, 2) := by decide +kernel
theorem dX13_areLike_18 : decode cX13_areLike 18 = .ok (.if_icmp .ge 25, 3) := by decide +kernel
theorem dX13_areLike_21 : decode cX13_areLike 21 = .ok (.iload 5, 2) := by decide +kernel
theorem dX13_areLike_23 : decode cX13_areLike 23 = .ok (.bipush 6, 2) := by decide +kernel
theorem dX13_areLike_25 : decode cX13_areLike 25 = .ok (.if_icmp .ge 18, 3) := by decide +kernel
theorem dX13_areLike_28 : decode cX13_areLike 28 = .ok (.lload_n 1, 1) := by decide +kernel
theorem dX13_areLike_29 : decode cX13_areLike 29 = .ok (.lload 6, 2) := by decide +kernel
theorem dX13_areLike_31 : decode cX13_areLike 31 = .ok (.lcmp, 1) := by decide +kernel
theorem dX13_areLike_32 : decode cX13_areLike 32 = .ok (.ifCond .ne 7, 3) := by decide +kernel
theorem dX13_areLike_35 : decode cX13_areLike 35 = .ok (.iconst 1, 1) := by decide +kernel
theorem dX13_areLike_36 : decode cX13_areLike 36 = .ok (.goto 31, 3) := by decide +kernel
theorem dX13_areLike_39 : decode cX13_areLike 39 = .ok (.iconst 0, 1) := by decide +kernel
theorem dX13_areLike_40 : decode cX13_areLike 40 = .ok (.goto 27, 3) := by decide +kernel
theorem dX13_areLike_43 : decode cX13_areLike 43 = .ok (.iload_n 0, 1) := by decide +kernel
theorem dX13_areLike_44 : decode cX13_areLike 44 = .ok (.lload_n 1, 1) := by decide +kernel
theorem dX13_areLike_45 : decode cX13_areLike 45 = .ok (.dload_n 3, 1) := by decide +kernel
theorem dX13_areLike_46 : decode cX13_areLike 46 = .ok (.invokestatic 222, 3) := by decide +kernel
theorem dX13_areLike_49 : decode cX13_areLike 49 = .ok (.iload 5, 2) := by decide +kernel
theorem dX13_areLike_51 : decode cX13_areLike 51 = .ok (.lload 6, 2) := by decide +kernel
theorem dX13_areLike_53 : decode cX13_areLike 53 = .ok (.dload 8, 2) := by decide +kernel
theorem dX13_areLike_55 : decode cX13_areLike 55 = .ok (.invokestatic 222, 3) := by decide +kernel
theorem dX13_areLike_58 : decode cX13_areLike 58 = .ok (.dcmp .l, 1) := by decide +kernel
theorem dX13_areLike_59 : decode cX13_areLike 59 = .ok (.ifCond .ne 7, 3) := by decide +kernel
theorem dX13_areLike_62 : decode cX13_areLike 62 = .ok (.iconst 1, 1) := by decide +kernel
theorem dX13_areLike_63 : decode cX13_areLike 63 = .ok (.goto 4, 3) := by decide +kernel
theorem dX13_areLike_66 : decode cX13_areLike 66 = .ok (.iconst 0, 1) := by decide +kernel
theorem dX13_areLike_67 : decode cX13_areLike 67 = .ok (.ireturn, 1) := by decide +kernel
theorem dX13_areLike_68 : decode cX13_areLike 68 = .ok (.iload_n 0, 1) := by decide +kernel
theorem dX13_areLike_69 : decode cX13_areLike 69 = .ok (.iload 5, 2) := by decide +kernel
theorem dX13_areLike_71 : decode cX13_areLike 71 = .ok (.if_icmp .ne 14, 3) := by decide +kernel
theorem dX13_areLike_74 : decode cX13_areLike 74 = .ok (.lload_n 1, 1) := by decide +kernel
theorem dX13_areLike_75 : decode cX13_areLike 75 = .ok (.lload 6, 2) := by decide +kernel
theorem dX13_areLike_77 : decode cX13_areLike 77 = .ok (.lcmp, 1) := by decide +kernel
theorem dX13_areLike_78 : decode cX13_areLike 78 = .ok (.ifCond .ne 7, 3) := by decide +kernel
theorem dX13_areLike_81 : decode cX13_areLike 81 = .ok (.iconst 1, 1) := by decide +kernel
theorem dX13_areLike_82 : decode cX13_areLike 82 = .ok (.goto 4, 3) := by decide +kernel
theorem dX13_areLike_85 : decode cX13_areLike 85 = .ok (.iconst 0, 1) := by decide +kernel
theorem dX13_areLike_86 : decode cX13_areLike 86 = .ok (.ireturn, 1) := by decide +kernel
theorem dX13_cellsLike_0 : decode cX13_cellsLike 0 = .ok (.aload_n 0, 1) := by decide +kernel
theorem dX13_cellsLike_1 : decode cX13_cellsLike 1 = .ok (.getfield 32, 3) := by decide +kernel
theorem dX13_cellsLike_4 : decode cX13_cellsLike 4 = .ok (.iload_n 1, 1) := by decide +kernel
theorem dX13_cellsLike_5 : decode cX13_cellsLike 5 = .ok (.iaload, 1) := by decide +kernel
theorem dX13_cellsLike_6 : decode cX13_cellsLike 6 = .ok (.aload_n 0, 1) := by decide +kernel
theorem dX13_cellsLike_7 : decode cX13_cellsLike 7 = .ok (.getfield 35, 3) := by decide +kernel
theorem dX13_cellsLike_10 : decode cX13_cellsLike 10 = .ok (.iload_n 1, 1) := by decide +kernel
theorem dX13_cellsLike_11 : decode cX13_cellsLike 11 = .ok (.laload, 1) := by decide +kernel
theorem dX13_cellsLike_12 : decode cX13_cellsLike 12 = .ok (.aload_n 0, 1) := by decide +kernel
theorem dX13_cellsLike_13 : decode cX13_cellsLike 13 = .ok (.getfield 39, 3) := by decide +kernel
theorem dX13_cellsLike_16 : decode cX13_cellsLike 16 = .ok (.iload_n 1, 1) := by decide +kernel
theorem dX13_cellsLike_17 : decode cX13_cellsLike 17 = .ok (.daload, 1) := by decide +kernel
theorem dX13_cellsLike_18 : decode cX13_cellsLike 18 = .ok (.aload_n 0, 1) := by decide +kernel
theorem dX13_cellsLike_19 : decode cX13_cellsLike 19 = .ok (.getfield 32, 3) := by decide +kernel
theorem dX13_cellsLike_22 : decode cX13_cellsLike 22 = .ok (.iload_n 2, 1) := by decide +kernel
theorem dX13_cellsLike_23 : decode cX13_cellsLike 23 = .ok (.iaload, 1) := by decide +kernel
theorem dX13_cellsLike_24 : decode cX13_cellsLike 24 = .ok (.aload_n 0, 1) := by decide +kernel
theorem dX13_cellsLike_25 : decode cX13_cellsLike 25 = .ok (.getfield 35, 3) := by decide +kernel
theorem dX13_cellsLike_28 : decode cX13_cellsLike 28 = .ok (.iload_n 2, 1) := by decide +kernel
theorem dX13_cellsLike_29 : decode cX13_cellsLike 29 = .ok (.laload, 1) := by decide +kernel
theorem dX13_cellsLike_30 : decode cX13_cellsLike 30 = .ok (.aload_n 0, 1) := by decide +kernel
theorem dX13_cellsLike_31 : decode cX13_cellsLike 31 = .ok (.getfield 39, 3) := by decide +kernel
theorem dX13_cellsLike_34 : decode cX13_cellsLike 34 = .ok (.iload_n 2, 1) := by decide +kernel
theorem dX13_cellsLike_35 : decode cX13_cellsLike 35 = .ok (.daload, 1) := by decide +kernel
theorem dX13_cellsLike_36 : decode cX13_cellsLike 36 = .ok (.invokestatic 226, 3) := by decide +kernel
theorem dX13_cellsLike_39 : decode cX13_cellsLike 39 = .ok (.ireturn, 1) := by decide +kernel
theorem dX13_cellFault_0 : decode cX13_cellFault 0 = .ok (.aload_n 0, 1) := by decide +kernel
theorem dX13_cellFault_1 : decode cX13_cellFault 1 = .ok (.iload_n 1, 1) := by decide +kernel
theorem dX13_cellFault_2 : decode cX13_cellFault 2 = .ok (.iload_n 2, 1) := by decide +kernel
theorem dX13_cellFault_3 : decode cX13_cellFault 3 = .ok (.invokevirtual 131, 3) := by decide +kernel
theorem dX13_cellFault_6 : decode cX13_cellFault 6 = .ok (.istore 4, 2) := by decide +kernel
theorem dX13_cellFault_8 : decode cX13_cellFault 8 = .ok (.iload 4, 2) := by decide +kernel
theorem dX13_cellFault_10 : decode cX13_cellFault 10 = .ok (.ifCond .eq 8, 3) := by decide +kernel
theorem dX13_cellFault_13 : decode cX13_cellFault 13 = .ok (.iload 4, 2) := by decide +kernel
theorem dX13_cellFault_15 : decode cX13_cellFault 15 = .ok (.goto 30, 3) := by decide +kernel
theorem dX13_cellFault_18 : decode cX13_cellFault 18 = .ok (.iload_n 3, 1) := by decide +kernel
theorem dX13_cellFault_19 : decode cX13_cellFault 19 = .ok (.iconst 0, 1) := by decide +kernel
theorem dX13_cellFault_20 : decode cX13_cellFault 20 = .ok (.aload_n 0, 1) := by decide +kernel
theorem dX13_cellFault_21 : decode cX13_cellFault 21 = .ok (.getfield 26, 3) := by decide +kernel
theorem dX13_cellFault_24 : decode cX13_cellFault 24 = .ok (.aload_n 0, 1) := by decide +kernel
theorem dX13_cellFault_25 : decode cX13_cellFault 25 = .ok (.iload_n 1, 1) := by decide +kernel
theorem dX13_cellFault_26 : decode cX13_cellFault 26 = .ok (.iload_n 2, 1) := by decide +kernel
theorem dX13_cellFault_27 : decode cX13_cellFault 27 = .ok (.invokevirtual 128, 3) := by decide +kernel
theorem dX13_cellFault_30 : decode cX13_cellFault 30 = .ok (.iaload, 1) := by decide +kernel
theorem dX13_cellFault_31 : decode cX13_cellFault 31 = .ok (.iconst 1, 1) := by decide +kernel
theorem dX13_cellFault_32 : decode cX13_cellFault 32 = .ok (.isub, 1) := by decide +kernel
theorem dX13_cellFault_33 : decode cX13_cellFault 33 = .ok (.invokestatic 109, 3) := by decide +kernel
theorem dX13_cellFault_36 : decode cX13_cellFault 36 = .ok (.ifCond .eq 7, 3) := by decide +kernel
theorem dX13_cellFault_39 : decode cX13_cellFault 39 = .ok (.iconst 0, 1) := by decide +kernel
theorem dX13_cellFault_40 : decode cX13_cellFault 40 = .ok (.goto 5, 3) := by decide +kernel
theorem dX13_cellFault_43 : decode cX13_cellFault 43 = .ok (.bipush (-6), 2) := by decide +kernel
theorem dX13_cellFault_45 : decode cX13_cellFault 45 = .ok (.ireturn, 1) := by decide +kernel
theorem dX13_readAnswer_0 : decode cX13_readAnswer 0 = .ok (.iload_n 1, 1) := by decide +kernel
theorem dX13_readAnswer_1 : decode cX13_readAnswer 1 = .ok (.invokestatic 134, 3) := by decide +kernel
theorem dX13_readAnswer_4 : decode cX13_readAnswer 4 = .ok (.ifCond .eq 14, 3) := by decide +kernel
theorem dX13_readAnswer_7 : decode cX13_readAnswer 7 = .ok (.iload 4, 2) := by decide +kernel
theorem dX13_readAnswer_9 : decode cX13_readAnswer 9 = .ok (.iconst 0, 1) := by decide +kernel
theorem dX13_readAnswer_10 : decode cX13_readAnswer 10 = .ok (.bipush 8, 2) := by decide +kernel
theorem dX13_readAnswer_12 : decode cX13_readAnswer 12 = .ok (.invokestatic 109, 3) := by decide +kernel
theorem dX13_readAnswer_15 : decode cX13_readAnswer 15 = .ok (.ifCond .ne 5, 3) := by decide +kernel
theorem dX13_readAnswer_18 : decode cX13_readAnswer 18 = .ok (.iconst (-1), 1) := by decide +kernel
theorem dX13_readAnswer_19 : decode cX13_readAnswer 19 = .ok (.ireturn, 1) := by decide +kernel
theorem dX13_readAnswer_20 : decode cX13_readAnswer 20 = .ok (.aload_n 0, 1) := by decide +kernel
theorem dX13_readAnswer_21 : decode cX13_readAnswer 21 = .ok (.iload_n 1, 1) := by decide +kernel
theorem dX13_readAnswer_22 : decode cX13_readAnswer 22 = .ok (.iload_n 2, 1) := by decide +kernel
theorem dX13_readAnswer_23 : decode cX13_readAnswer 23 = .ok (.iload_n 3, 1) := by decide +kernel
theorem dX13_readAnswer_24 : decode cX13_readAnswer 24 = .ok (.invokevirtual 230, 3) := by decide +kernel
theorem dX13_readAnswer_27 : decode cX13_readAnswer 27 = .ok (.istore 5, 2) := by decide +kernel
theorem dX13_readAnswer_29 : decode cX13_readAnswer 29 = .ok (.iload 5, 2) := by decide +kernel
theorem dX13_readAnswer_31 : decode cX13_readAnswer 31 = .ok (.ifCond .eq 6, 3) := by decide +kernel
theorem dX13_readAnswer_34 : decode cX13_readAnswer 34 = .ok (.iload 5, 2) := by decide +kernel
theorem dX13_readAnswer_36 : decode cX13_readAnswer 36 = .ok (.ireturn, 1) := by decide +kernel
theorem dX13_readAnswer_37 : decode cX13_readAnswer 37 = .ok (.aload_n 0, 1) := by decide +kernel
theorem dX13_readAnswer_38 : decode cX13_readAnswer 38 = .ok (.iload_n 1, 1) := by decide +kernel
theorem dX13_readAnswer_39 : decode cX13_readAnswer 39 = .ok (.iload_n 2, 1) := by decide +kernel
theorem dX13_readAnswer_40 : decode cX13_readAnswer 40 = .ok (.invokevirtual 128, 3) := by decide +kernel
theorem dX13_readAnswer_43 : decode cX13_readAnswer 43 = .ok (.istore 6, 2) := by decide +kernel
theorem dX13_readAnswer_45 : decode cX13_readAnswer 45 = .ok (.iload 4, 2) := by decide +kernel
theorem dX13_readAnswer_47 : decode cX13_readAnswer 47 = .ok (.bipush 8, 2) := by decide +kernel
theorem dX13_readAnswer_49 : decode cX13_readAnswer 49 = .ok (.if_icmp .ge 17, 3) := by decide +kernel
theorem dX13_readAnswer_52 : decode cX13_readAnswer 52 = .ok (.aload_n 0, 1) := by decide +kernel
theorem dX13_readAnswer_53 : decode cX13_readAnswer 53 = .ok (.iload 6, 2) := by decide +kernel
theorem dX13_readAnswer_55 : decode cX13_readAnswer 55 = .ok (.iload 4, 2) := by decide +kernel
theorem dX13_readAnswer_57 : decode cX13_readAnswer 57 = .ok (.invokevirtual 233, 3) := by decide +kernel
theorem dX13_readAnswer_60 : decode cX13_readAnswer 60 = .ok (.ifCond .ne 6, 3) := by decide +kernel
theorem dX13_readAnswer_63 : decode cX13_readAnswer 63 = .ok (.bipush (-7), 2) := by decide +kernel
theorem dX13_readAnswer_65 : decode cX13_readAnswer 65 = .ok (.ireturn, 1) := by decide +kernel
theorem dX13_readAnswer_66 : decode cX13_readAnswer 66 = .ok (.aload_n 0, 1) := by decide +kernel
theorem dX13_readAnswer_67 : decode cX13_readAnswer 67 = .ok (.iload 6, 2) := by decide +kernel
theorem dX13_readAnswer_69 : decode cX13_readAnswer 69 = .ok (.iload_n 3, 1) := by decide +kernel
theorem dX13_readAnswer_70 : decode cX13_readAnswer 70 = .ok (.invokevirtual 236, 3) := by decide +kernel
theorem dX13_readAnswer_73 : decode cX13_readAnswer 73 = .ok (.iload 4, 2) := by decide +kernel
theorem dX13_readAnswer_75 : decode cX13_readAnswer 75 = .ok (.bipush 8, 2) := by decide +kernel
theorem dX13_readAnswer_77 : decode cX13_readAnswer 77 = .ok (.if_icmp .ge 9, 3) := by decide +kernel
theorem dX13_readAnswer_80 : decode cX13_readAnswer 80 = .ok (.aload_n 0, 1) := by decide +kernel
theorem dX13_readAnswer_81 : decode cX13_readAnswer 81 = .ok (.iload 4, 2) := by decide +kernel
theorem dX13_readAnswer_83 : decode cX13_readAnswer 83 = .ok (.invokevirtual 212, 3) := by decide +kernel
theorem dX13_readAnswer_86 : decode cX13_readAnswer 86 = .ok (.aload_n 0, 1) := by decide +kernel
theorem dX13_readAnswer_87 : decode cX13_readAnswer 87 = .ok (.aload_n 0, 1) := by decide +kernel
theorem dX13_readAnswer_88 : decode cX13_readAnswer 88 = .ok (.invokevirtual 239, 3) := by decide +kernel
theorem dX13_readAnswer_91 : decode cX13_readAnswer 91 = .ok (.aload_n 0, 1) := by decide +kernel
theorem dX13_readAnswer_92 : decode cX13_readAnswer 92 = .ok (.getfield 190, 3) := by decide +kernel
theorem dX13_readAnswer_95 : decode cX13_readAnswer 95 = .ok (.invokevirtual 243, 3) := by decide +kernel
theorem dX13_readAnswer_98 : decode cX13_readAnswer 98 = .ok (.ireturn, 1) := by decide +kernel
theorem dX13_read_0 : decode cX13_read 0 = .ok (.aload_n 0, 1) := by decide +kernel
theorem dX13_read_1 : decode cX13_read 1 = .ok (.aload_n 0, 1) := by decide +kernel
theorem dX13_read_2 : decode cX13_read 2 = .ok (.iload_n 1, 1) := by decide +kernel
theorem dX13_read_3 : decode cX13_read 3 = .ok (.iload_n 2, 1) := by decide +kernel
theorem dX13_read_4 : decode cX13_read 4 = .ok (.iload_n 3, 1) := by decide +kernel
theorem dX13_read_5 : decode cX13_read 5 = .ok (.iload 4, 2) := by decide +kernel
theorem dX13_read_7 : decode cX13_read 7 = .ok (.invokevirtual 247, 3) := by decide +kernel
theorem dX13_read_10 : decode cX13_read 10 = .ok (.invokevirtual 137, 3) := by decide +kernel
theorem dX13_read_13 : decode cX13_read 13 = .ok (.ireturn, 1) := by decide +kernel
theorem dX13_writeDeed_0 : decode cX13_writeDeed 0 = .ok (.iload_n 1, 1) := by decide +kernel
theorem dX13_writeDeed_1 : decode cX13_writeDeed 1 = .ok (.invokestatic 134, 3) := by decide +kernel
theorem dX13_writeDeed_4 : decode cX13_writeDeed 4 = .ok (.ifCond .eq 11, 3) := by decide +kernel
theorem dX13_writeDeed_7 : decode cX13_writeDeed 7 = .ok (.iload 4, 2) := by decide +kernel
theorem dX13_writeDeed_9 : decode cX13_writeDeed 9 = .ok (.invokestatic 209, 3) := by decide +kernel
theorem dX13_writeDeed_12 : decode cX13_writeDeed 12 = .ok (.ifCond .ne 5, 3) := by decide +kernel
theorem dX13_writeDeed_15 : decode cX13_writeDeed 15 = .ok (.iconst (-1), 1) := by decide +kernel
theorem dX13_writeDeed_16 : decode cX13_writeDeed 16 = .ok (.ireturn, 1) := by decide +kernel
theorem dX13_writeDeed_17 : decode cX13_writeDeed 17 = .ok (.aload_n 0, 1) := by decide +kernel
theorem dX13_writeDeed_18 : decode cX13_writeDeed 18 = .ok (.iload_n 1, 1) := by decide +kernel
theorem dX13_writeDeed_19 : decode cX13_writeDeed 19 = .ok (.iload_n 2, 1) := by decide +kernel
theorem dX13_writeDeed_20 : decode cX13_writeDeed 20 = .ok (.iload_n 3, 1) := by decide +kernel
theorem dX13_writeDeed_21 : decode cX13_writeDeed 21 = .ok (.invokevirtual 230, 3) := by decide +kernel
theorem dX13_writeDeed_24 : decode cX13_writeDeed 24 = .ok (.istore 7, 2) := by decide +kernel
theorem dX13_writeDeed_26 : decode cX13_writeDeed 26 = .ok (.iload 7, 2) := by decide +kernel
theorem dX13_writeDeed_28 : decode cX13_writeDeed 28 = .ok (.ifCond .eq 6, 3) := by decide +kernel
theorem dX13_writeDeed_31 : decode cX13_writeDeed 31 = .ok (.iload 7, 2) := by decide +kernel
theorem dX13_writeDeed_33 : decode cX13_writeDeed 33 = .ok (.ireturn, 1) := by decide +kernel
theorem dX13_writeDeed_34 : decode cX13_writeDeed 34 = .ok (.aload_n 0, 1) := by decide +kernel
theorem dX13_writeDeed_35 : decode cX13_writeDeed 35 = .ok (.iload_n 1, 1) := by decide +kernel
theorem dX13_writeDeed_36 : decode cX13_writeDeed 36 = .ok (.iload_n 2, 1) := by decide +kernel
theorem dX13_writeDeed_37 : decode cX13_writeDeed 37 = .ok (.invokevirtual 128, 3) := by decide +kernel
theorem dX13_writeDeed_40 : decode cX13_writeDeed 40 = .ok (.istore 8, 2) := by decide +kernel
theorem dX13_writeDeed_42 : decode cX13_writeDeed 42 = .ok (.aload_n 0, 1) := by decide +kernel
theorem dX13_writeDeed_43 : decode cX13_writeDeed 43 = .ok (.iload 4, 2) := by decide +kernel
theorem dX13_writeDeed_45 : decode cX13_writeDeed 45 = .ok (.lload 5, 2) := by decide +kernel
theorem dX13_writeDeed_47 : decode cX13_writeDeed 47 = .ok (.invokevirtual 250, 3) := by decide +kernel
theorem dX13_writeDeed_50 : decode cX13_writeDeed 50 = .ok (.aload_n 0, 1) := by decide +kernel
theorem dX13_writeDeed_51 : decode cX13_writeDeed 51 = .ok (.getfield 23, 3) := by decide +kernel
theorem dX13_writeDeed_54 : decode cX13_writeDeed 54 = .ok (.iload 8, 2) := by decide +kernel
theorem dX13_writeDeed_56 : decode cX13_writeDeed 56 = .ok (.iaload, 1) := by decide +kernel
theorem dX13_writeDeed_57 : decode cX13_writeDeed 57 = .ok (.invokestatic 209, 3) := by decide +kernel
theorem dX13_writeDeed_60 : decode cX13_writeDeed 60 = .ok (.ifCond .eq 17, 3) := by decide +kernel
theorem dX13_writeDeed_63 : decode cX13_writeDeed 63 = .ok (.aload_n 0, 1) := by decide +kernel
theorem dX13_writeDeed_64 : decode cX13_writeDeed 64 = .ok (.iload 8, 2) := by decide +kernel
theorem dX13_writeDeed_66 : decode cX13_writeDeed 66 = .ok (.iload_n 3, 1) := by decide +kernel
theorem dX13_writeDeed_67 : decode cX13_writeDeed 67 = .ok (.invokevirtual 254, 3) := by decide +kernel
theorem dX13_writeDeed_70 : decode cX13_writeDeed 70 = .ok (.ifCond .eq 7, 3) := by decide +kernel
theorem dX13_writeDeed_73 : decode cX13_writeDeed 73 = .ok (.iconst 1, 1) := by decide +kernel
theorem dX13_writeDeed_74 : decode cX13_writeDeed 74 = .ok (.goto 5, 3) := by decide +kernel
theorem dX13_writeDeed_77 : decode cX13_writeDeed 77 = .ok (.bipush (-7), 2) := by decide +kernel
theorem dX13_writeDeed_79 : decode cX13_writeDeed 79 = .ok (.ireturn, 1) := by decide +kernel
theorem dX13_write_0 : decode cX13_write 0 = .ok (.aload_n 0, 1) := by decide +kernel
theorem dX13_write_1 : decode cX13_write 1 = .ok (.aload_n 0, 1) := by decide +kernel
theorem dX13_write_2 : decode cX13_write 2 = .ok (.iload_n 1, 1) := by decide +kernel
theorem dX13_write_3 : decode cX13_write 3 = .ok (.iload_n 2, 1) := by decide +kernel
theorem dX13_write_4 : decode cX13_write 4 = .ok (.iload_n 3, 1) := by decide +kernel
theorem dX13_write_5 : decode cX13_write 5 = .ok (.iload 4, 2) := by decide +kernel
theorem dX13_write_7 : decode cX13_write 7 = .ok (.lload 5, 2) := by decide +kernel
theorem dX13_write_9 : decode cX13_write 9 = .ok (.invokevirtual 257, 3) := by decide +kernel
theorem dX13_write_12 : decode cX13_write 12 = .ok (.invokevirtual 137, 3) := by decide +kernel
theorem dX13_write_15 : decode cX13_write 15 = .ok (.ireturn, 1) := by decide +kernel
theorem dX13_putDeed_0 : decode cX13_putDeed 0 = .ok (.iload_n 1, 1) := by decide +kernel
theorem dX13_putDeed_1 : decode cX13_putDeed 1 = .ok (.invokestatic 134, 3) := by decide +kernel
theorem dX13_putDeed_4 : decode cX13_putDeed 4 = .ok (.ifCond .eq 11, 3) := by decide +kernel
theorem dX13_putDeed_7 : decode cX13_putDeed 7 = .ok (.iload 4, 2) := by decide +kernel
theorem dX13_putDeed_9 : decode cX13_putDeed 9 = .ok (.invokestatic 261, 3) := by decide +kernel
theorem dX13_putDeed_12 : decode cX13_putDeed 12 = .ok (.ifCond .ne 5, 3) := by decide +kernel
theorem dX13_putDeed_15 : decode cX13_putDeed 15 = .ok (.iconst (-1), 1) := by decide +kernel
theorem dX13_putDeed_16 : decode cX13_putDeed 16 = .ok (.ireturn, 1) := by decide +kernel
theorem dX13_putDeed_17 : decode cX13_putDeed 17 = .ok (.aload_n 0, 1) := by decide +kernel
theorem dX13_putDeed_18 : decode cX13_putDeed 18 = .ok (.iload_n 1, 1) := by decide +kernel
theorem dX13_putDeed_19 : decode cX13_putDeed 19 = .ok (.iload_n 2, 1) := by decide +kernel
theorem dX13_putDeed_20 : decode cX13_putDeed 20 = .ok (.iload_n 3, 1) := by decide +kernel
theorem dX13_putDeed_21 : decode cX13_putDeed 21 = .ok (.invokevirtual 230, 3) := by decide +kernel
theorem dX13_putDeed_24 : decode cX13_putDeed 24 = .ok (.istore 7, 2) := by decide +kernel
theorem dX13_putDeed_26 : decode cX13_putDeed 26 = .ok (.iload 7, 2) := by decide +kernel
theorem dX13_putDeed_28 : decode cX13_putDeed 28 = .ok (.ifCond .eq 6, 3) := by decide +kernel
theorem dX13_putDeed_31 : decode cX13_putDeed 31 = .ok (.iload 7, 2) := by decide +kernel
theorem dX13_putDeed_33 : decode cX13_putDeed 33 = .ok (.ireturn, 1) := by decide +kernel
theorem dX13_putDeed_34 : decode cX13_putDeed 34 = .ok (.aload_n 0, 1) := by decide +kernel
theorem dX13_putDeed_35 : decode cX13_putDeed 35 = .ok (.iload 4, 2) := by decide +kernel
theorem dX13_putDeed_37 : decode cX13_putDeed 37 = .ok (.lload 5, 2) := by decide +kernel
theorem dX13_putDeed_39 : decode cX13_putDeed 39 = .ok (.invokevirtual 250, 3) := by decide +kernel
theorem dX13_putDeed_42 : decode cX13_putDeed 42 = .ok (.aload_n 0, 1) := by decide +kernel
theorem dX13_putDeed_43 : decode cX13_putDeed 43 = .ok (.aload_n 0, 1) := by decide +kernel
theorem dX13_putDeed_44 : decode cX13_putDeed 44 = .ok (.iload_n 1, 1) := by decide +kernel
theorem dX13_putDeed_45 : decode cX13_putDeed 45 = .ok (.iload_n 2, 1) := by decide +kernel
theorem dX13_putDeed_46 : decode cX13_putDeed 46 = .ok (.invokevirtual 128, 3) := by decide +kernel
theorem dX13_putDeed_49 : decode cX13_putDeed 49 = .ok (.iload_n 3, 1) := by decide +kernel
theorem dX13_putDeed_50 : decode cX13_putDeed 50 = .ok (.invokevirtual 254, 3) := by decide +kernel
theorem dX13_putDeed_53 : decode cX13_putDeed 53 = .ok (.ifCond .eq 7, 3) := by decide +kernel
theorem dX13_putDeed_56 : decode cX13_putDeed 56 = .ok (.iconst 1, 1) := by decide +kernel
theorem dX13_putDeed_57 : decode cX13_putDeed 57 = .ok (.goto 5, 3) := by decide +kernel
theorem dX13_putDeed_60 : decode cX13_putDeed 60 = .ok (.bipush (-7), 2) := by decide +kernel
theorem dX13_putDeed_62 : decode cX13_putDeed 62 = .ok (.ireturn, 1) := by decide +kernel
theorem dX13_put_0 : decode cX13_put 0 = .ok (.aload_n 0, 1) := by decide +kernel
theorem dX13_put_1 : decode cX13_put 1 = .ok (.aload_n 0, 1) := by decide +kernel
theorem dX13_put_2 : decode cX13_put 2 = .ok (.iload_n 1, 1) := by decide +kernel
theorem dX13_put_3 : decode cX13_put 3 = .ok (.iload_n 2, 1) := by decide +kernel
theorem dX13_put_4 : decode cX13_put 4 = .ok (.iload_n 3, 1) := by decide +kernel
theorem dX13_put_5 : decode cX13_put 5 = .ok (.iload 4, 2) := by decide +kernel
theorem dX13_put_7 : decode cX13_put 7 = .ok (.lload 5, 2) := by decide +kernel
theorem dX13_put_9 : decode cX13_put 9 = .ok (.invokevirtual 264, 3) := by decide +kernel
theorem dX13_put_12 : decode cX13_put 12 = .ok (.invokevirtual 137, 3) := by decide +kernel
theorem dX13_put_15 : decode cX13_put 15 = .ok (.ireturn, 1) := by decide +kernel
theorem dX13_findAnswer_0 : decode cX13_findAnswer 0 = .ok (.iload_n 1, 1) := by decide +kernel
theorem dX13_findAnswer_1 : decode cX13_findAnswer 1 = .ok (.invokestatic 134, 3) := by decide +kernel
theorem dX13_findAnswer_4 : decode cX13_findAnswer 4 = .ok (.ifCond .eq 10, 3) := by decide +kernel
theorem dX13_findAnswer_7 : decode cX13_findAnswer 7 = .ok (.iload_n 3, 1) := by decide +kernel
theorem dX13_findAnswer_8 : decode cX13_findAnswer 8 = .ok (.invokestatic 261, 3) := by decide +kernel
theorem dX13_findAnswer_11 : decode cX13_findAnswer 11 = .ok (.ifCond .ne 5, 3) := by decide +kernel
theorem dX13_findAnswer_14 : decode cX13_findAnswer 14 = .ok (.iconst (-1), 1) := by decide +kernel
theorem dX13_findAnswer_15 : decode cX13_findAnswer 15 = .ok (.ireturn, 1) := by decide +kernel
theorem dX13_findAnswer_16 : decode cX13_findAnswer 16 = .ok (.aload_n 0, 1) := by decide +kernel
theorem dX13_findAnswer_17 : decode cX13_findAnswer 17 = .ok (.iload_n 1, 1) := by decide +kernel
theorem dX13_findAnswer_18 : decode cX13_findAnswer 18 = .ok (.iload_n 2, 1) := by decide +kernel
theorem dX13_findAnswer_19 : decode cX13_findAnswer 19 = .ok (.invokevirtual 131, 3) := by decide +kernel
theorem dX13_findAnswer_22 : decode cX13_findAnswer 22 = .ok (.istore 6, 2) := by decide +kernel
theorem dX13_findAnswer_24 : decode cX13_findAnswer 24 = .ok (.iload 6, 2) := by decide +kernel
theorem dX13_findAnswer_26 : decode cX13_findAnswer 26 = .ok (.ifCond .eq 6, 3) := by decide +kernel
theorem dX13_findAnswer_29 : decode cX13_findAnswer 29 = .ok (.iload 6, 2) := by decide +kernel
theorem dX13_findAnswer_31 : decode cX13_findAnswer 31 = .ok (.ireturn, 1) := by decide +kernel
theorem dX13_findAnswer_32 : decode cX13_findAnswer 32 = .ok (.aload_n 0, 1) := by decide +kernel
theorem dX13_findAnswer_33 : decode cX13_findAnswer 33 = .ok (.iload_n 1, 1) := by decide +kernel
theorem dX13_findAnswer_34 : decode cX13_findAnswer 34 = .ok (.iload_n 2, 1) := by decide +kernel
theorem dX13_findAnswer_35 : decode cX13_findAnswer 35 = .ok (.invokevirtual 128, 3) := by decide +kernel
theorem dX13_findAnswer_38 : decode cX13_findAnswer 38 = .ok (.istore 7, 2) := by decide +kernel
theorem dX13_findAnswer_40 : decode cX13_findAnswer 40 = .ok (.aload_n 0, 1) := by decide +kernel
theorem dX13_findAnswer_41 : decode cX13_findAnswer 41 = .ok (.iload_n 3, 1) := by decide +kernel
theorem dX13_findAnswer_42 : decode cX13_findAnswer 42 = .ok (.lload 4, 2) := by decide +kernel
theorem dX13_findAnswer_44 : decode cX13_findAnswer 44 = .ok (.invokevirtual 250, 3) := by decide +kernel
theorem dX13_findAnswer_47 : decode cX13_findAnswer 47 = .ok (.iconst 0, 1) := by decide +kernel
theorem dX13_findAnswer_48 : decode cX13_findAnswer 48 = .ok (.istore 8, 2) := by decide +kernel
theorem dX13_findAnswer_50 : decode cX13_findAnswer 50 = .ok (.iload 8, 2) := by decide +kernel
theorem dX13_findAnswer_52 : decode cX13_findAnswer 52 = .ok (.aload_n 0, 1) := by decide +kernel
theorem dX13_findAnswer_53 : decode cX13_findAnswer 53 = .ok (.getfield 26, 3) := by decide +kernel
theorem dX13_findAnswer_56 : decode cX13_findAnswer 56 = .ok (.iload 7, 2) := by decide +kernel
theorem dX13_findAnswer_58 : decode cX13_findAnswer 58 = .ok (.iaload, 1) := by decide +kernel
theorem dX13_findAnswer_59 : decode cX13_findAnswer 59 = .ok (.if_icmp .ge 61, 3) := by decide +kernel
theorem dX13_findAnswer_62 : decode cX13_findAnswer 62 = .ok (.bipush 12, 2) := by decide +kernel
theorem dX13_findAnswer_64 : decode cX13_findAnswer 64 = .ok (.iload 7, 2) := by decide +kernel
theorem dX13_findAnswer_66 : decode cX13_findAnswer 66 = .ok (.imul, 1) := by decide +kernel
theorem dX13_findAnswer_67 : decode cX13_findAnswer 67 = .ok (.iload 8, 2) := by decide +kernel
theorem dX13_findAnswer_69 : decode cX13_findAnswer 69 = .ok (.iadd, 1) := by decide +kernel
theorem dX13_findAnswer_70 : decode cX13_findAnswer 70 = .ok (.istore 9, 2) := by decide +kernel
theorem dX13_findAnswer_72 : decode cX13_findAnswer 72 = .ok (.aload_n 0, 1) := by decide +kernel
theorem dX13_findAnswer_73 : decode cX13_findAnswer 73 = .ok (.getfield 32, 3) := by decide +kernel
theorem dX13_findAnswer_76 : decode cX13_findAnswer 76 = .ok (.iload 9, 2) := by decide +kernel
theorem dX13_findAnswer_78 : decode cX13_findAnswer 78 = .ok (.iaload, 1) := by decide +kernel
theorem dX13_findAnswer_79 : decode cX13_findAnswer 79 = .ok (.aload_n 0, 1) := by decide +kernel
theorem dX13_findAnswer_80 : decode cX13_findAnswer 80 = .ok (.getfield 35, 3) := by decide +kernel
theorem dX13_findAnswer_83 : decode cX13_findAnswer 83 = .ok (.iload 9, 2) := by decide +kernel
theorem dX13_findAnswer_85 : decode cX13_findAnswer 85 = .ok (.laload, 1) := by decide +kernel
theorem dX13_findAnswer_86 : decode cX13_findAnswer 86 = .ok (.aload_n 0, 1) := by decide +kernel
theorem dX13_findAnswer_87 : decode cX13_findAnswer 87 = .ok (.getfield 39, 3) := by decide +kernel
theorem dX13_findAnswer_90 : decode cX13_findAnswer 90 = .ok (.iload 9, 2) := by decide +kernel
theorem dX13_findAnswer_92 : decode cX13_findAnswer 92 = .ok (.daload, 1) := by decide +kernel
theorem dX13_findAnswer_93 : decode cX13_findAnswer 93 = .ok (.aload_n 0, 1) := by decide +kernel
theorem dX13_findAnswer_94 : decode cX13_findAnswer 94 = .ok (.getfield 190, 3) := by decide +kernel
theorem dX13_findAnswer_97 : decode cX13_findAnswer 97 = .ok (.aload_n 0, 1) := by decide +kernel
theorem dX13_findAnswer_98 : decode cX13_findAnswer 98 = .ok (.getfield 197, 3) := by decide +kernel
theorem dX13_findAnswer_101 : decode cX13_findAnswer 101 = .ok (.aload_n 0, 1) := by decide +kernel
theorem dX13_findAnswer_102 : decode cX13_findAnswer 102 = .ok (.getfield 193, 3) := by decide +kernel
theorem dX13_findAnswer_105 : decode cX13_findAnswer 105 = .ok (.invokestatic 226, 3) := by decide +kernel
theorem dX13_findAnswer_108 : decode cX13_findAnswer 108 = .ok (.ifCond .eq 6, 3) := by decide +kernel
theorem dX13_findAnswer_111 : decode cX13_findAnswer 111 = .ok (.iload 8, 2) := by decide +kernel
theorem dX13_findAnswer_113 : decode cX13_findAnswer 113 = .ok (.ireturn, 1) := by decide +kernel
theorem dX13_findAnswer_114 : decode cX13_findAnswer 114 = .ok (.iinc 8 1, 3) := by decide +kernel
theorem dX13_findAnswer_117 : decode cX13_findAnswer 117 = .ok (.goto (-67), 3) := by decide +kernel
theorem dX13_findAnswer_120 : decode cX13_findAnswer 120 = .ok (.bipush (-9), 2) := by decide +kernel
theorem dX13_findAnswer_122 : decode cX13_findAnswer 122 = .ok (.ireturn, 1) := by decide +kernel
theorem dX13_find_0 : decode cX13_find 0 = .ok (.aload_n 0, 1) := by decide +kernel
theorem dX13_find_1 : decode cX13_find 1 = .ok (.aload_n 0, 1) := by decide +kernel
theorem dX13_find_2 : decode cX13_find 2 = .ok (.iload_n 1, 1) := by decide +kernel
theorem dX13_find_3 : decode cX13_find 3 = .ok (.iload_n 2, 1) := by decide +kernel
theorem dX13_find_4 : decode cX13_find 4 = .ok (.iload_n 3, 1) := by decide +kernel
theorem dX13_find_5 : decode cX13_find 5 = .ok (.lload 4, 2) := by decide +kernel
theorem dX13_find_7 : decode cX13_find 7 = .ok (.invokevirtual 267, 3) := by decide +kernel
theorem dX13_find_10 : decode cX13_find 10 = .ok (.invokevirtual 137, 3) := by decide +kernel
theorem dX13_find_13 : decode cX13_find 13 = .ok (.ireturn, 1) := by decide +kernel
theorem dX13_both_0 : decode cX13_both 0 = .ok (.aload_n 0, 1) := by decide +kernel
theorem dX13_both_1 : decode cX13_both 1 = .ok (.getfield 26, 3) := by decide +kernel
theorem dX13_both_4 : decode cX13_both 4 = .ok (.iload_n 1, 1) := by decide +kernel
theorem dX13_both_5 : decode cX13_both 5 = .ok (.iaload, 1) := by decide +kernel
theorem dX13_both_6 : decode cX13_both 6 = .ok (.aload_n 0, 1) := by decide +kernel
theorem dX13_both_7 : decode cX13_both 7 = .ok (.getfield 26, 3) := by decide +kernel
theorem dX13_both_10 : decode cX13_both 10 = .ok (.iload_n 2, 1) := by decide +kernel
theorem dX13_both_11 : decode cX13_both 11 = .ok (.iaload, 1) := by decide +kernel
theorem dX13_both_12 : decode cX13_both 12 = .ok (.if_icmp .ge 12, 3) := by decide +kernel
theorem dX13_both_15 : decode cX13_both 15 = .ok (.aload_n 0, 1) := by decide +kernel
theorem dX13_both_16 : decode cX13_both 16 = .ok (.getfield 26, 3) := by decide +kernel
theorem dX13_both_19 : decode cX13_both 19 = .ok (.iload_n 1, 1) := by decide +kernel
theorem dX13_both_20 : decode cX13_both 20 = .ok (.iaload, 1) := by decide +kernel
theorem dX13_both_21 : decode cX13_both 21 = .ok (.goto 9, 3) := by decide +kernel
theorem dX13_both_24 : decode cX13_both 24 = .ok (.aload_n 0, 1) := by decide +kernel
theorem dX13_both_25 : decode cX13_both 25 = .ok (.getfield 26, 3) := by decide +kernel
theorem dX13_both_28 : decode cX13_both 28 = .ok (.iload_n 2, 1) := by decide +kernel
theorem dX13_both_29 : decode cX13_both 29 = .ok (.iaload, 1) := by decide +kernel
theorem dX13_both_30 : decode cX13_both 30 = .ok (.ireturn, 1) := by decide +kernel
theorem dX13_alikeAnswer_0 : decode cX13_alikeAnswer 0 = .ok (.iload_n 1, 1) := by decide +kernel
theorem dX13_alikeAnswer_1 : decode cX13_alikeAnswer 1 = .ok (.invokestatic 134, 3) := by decide +kernel
theorem dX13_alikeAnswer_4 : decode cX13_alikeAnswer 4 = .ok (.ifCond .eq 10, 3) := by decide +kernel
theorem dX13_alikeAnswer_7 : decode cX13_alikeAnswer 7 = .ok (.iload_n 3, 1) := by decide +kernel
theorem dX13_alikeAnswer_8 : decode cX13_alikeAnswer 8 = .ok (.invokestatic 134, 3) := by decide +kernel
theorem dX13_alikeAnswer_11 : decode cX13_alikeAnswer 11 = .ok (.ifCond .ne 5, 3) := by decide +kernel
theorem dX13_alikeAnswer_14 : decode cX13_alikeAnswer 14 = .ok (.iconst (-1), 1) := by decide +kernel
theorem dX13_alikeAnswer_15 : decode cX13_alikeAnswer 15 = .ok (.ireturn, 1) := by decide +kernel
theorem dX13_alikeAnswer_16 : decode cX13_alikeAnswer 16 = .ok (.aload_n 0, 1) := by decide +kernel
theorem dX13_alikeAnswer_17 : decode cX13_alikeAnswer 17 = .ok (.iload_n 1, 1) := by decide +kernel
theorem dX13_alikeAnswer_18 : decode cX13_alikeAnswer 18 = .ok (.iload_n 2, 1) := by decide +kernel
theorem dX13_alikeAnswer_19 : decode cX13_alikeAnswer 19 = .ok (.iload_n 3, 1) := by decide +kernel
theorem dX13_alikeAnswer_20 : decode cX13_alikeAnswer 20 = .ok (.iload 4, 2) := by decide +kernel
theorem dX13_alikeAnswer_22 : decode cX13_alikeAnswer 22 = .ok (.invokevirtual 181, 3) := by decide +kernel
theorem dX13_alikeAnswer_25 : decode cX13_alikeAnswer 25 = .ok (.istore 5, 2) := by decide +kernel
theorem dX13_alikeAnswer_27 : decode cX13_alikeAnswer 27 = .ok (.iload 5, 2) := by decide +kernel
theorem dX13_alikeAnswer_29 : decode cX13_alikeAnswer 29 = .ok (.ifCond .eq 6, 3) := by decide +kernel
theorem dX13_alikeAnswer_32 : decode cX13_alikeAnswer 32 = .ok (.iload 5, 2) := by decide +kernel
theorem dX13_alikeAnswer_34 : decode cX13_alikeAnswer 34 = .ok (.ireturn, 1) := by decide +kernel
theorem dX13_alikeAnswer_35 : decode cX13_alikeAnswer 35 = .ok (.aload_n 0, 1) := by decide +kernel
theorem dX13_alikeAnswer_36 : decode cX13_alikeAnswer 36 = .ok (.iload_n 1, 1) := by decide +kernel
theorem dX13_alikeAnswer_37 : decode cX13_alikeAnswer 37 = .ok (.iload_n 2, 1) := by decide +kernel
theorem dX13_alikeAnswer_38 : decode cX13_alikeAnswer 38 = .ok (.invokevirtual 128, 3) := by decide +kernel
theorem dX13_alikeAnswer_41 : decode cX13_alikeAnswer 41 = .ok (.istore 6, 2) := by decide +kernel
theorem dX13_alikeAnswer_43 : decode cX13_alikeAnswer 43 = .ok (.aload_n 0, 1) := by decide +kernel
theorem dX13_alikeAnswer_44 : decode cX13_alikeAnswer 44 = .ok (.iload_n 3, 1) := by decide +kernel
theorem dX13_alikeAnswer_45 : decode cX13_alikeAnswer 45 = .ok (.iload 4, 2) := by decide +kernel
theorem dX13_alikeAnswer_47 : decode cX13_alikeAnswer 47 = .ok (.invokevirtual 128, 3) := by decide +kernel
theorem dX13_alikeAnswer_50 : decode cX13_alikeAnswer 50 = .ok (.istore 7, 2) := by decide +kernel
theorem dX13_alikeAnswer_52 : decode cX13_alikeAnswer 52 = .ok (.iconst 0, 1) := by decide +kernel
theorem dX13_alikeAnswer_53 : decode cX13_alikeAnswer 53 = .ok (.istore 8, 2) := by decide +kernel
theorem dX13_alikeAnswer_55 : decode cX13_alikeAnswer 55 = .ok (.iconst 0, 1) := by decide +kernel
theorem dX13_alikeAnswer_56 : decode cX13_alikeAnswer 56 = .ok (.istore 9, 2) := by decide +kernel
theorem dX13_alikeAnswer_58 : decode cX13_alikeAnswer 58 = .ok (.iload 9, 2) := by decide +kernel
theorem dX13_alikeAnswer_60 : decode cX13_alikeAnswer 60 = .ok (.aload_n 0, 1) := by decide +kernel
theorem dX13_alikeAnswer_61 : decode cX13_alikeAnswer 61 = .ok (.iload 6, 2) := by decide +kernel
theorem dX13_alikeAnswer_63 : decode cX13_alikeAnswer 63 = .ok (.iload 7, 2) := by decide +kernel
theorem dX13_alikeAnswer_65 : decode cX13_alikeAnswer 65 = .ok (.invokevirtual 271, 3) := by decide +kernel
theorem dX13_alikeAnswer_68 : decode cX13_alikeAnswer 68 = .ok (.if_icmp .ge 42, 3) := by decide +kernel
theorem dX13_alikeAnswer_71 : decode cX13_alikeAnswer 71 = .ok (.iload 8, 2) := by decide +kernel
theorem dX13_alikeAnswer_73 : decode cX13_alikeAnswer 73 = .ok (.aload_n 0, 1) := by decide +kernel
theorem dX13_alikeAnswer_74 : decode cX13_alikeAnswer 74 = .ok (.bipush 12, 2) := by decide +kernel
theorem dX13_alikeAnswer_76 : decode cX13_alikeAnswer 76 = .ok (.iload 6, 2) := by decide +kernel
theorem dX13_alikeAnswer_78 : decode cX13_alikeAnswer 78 = .ok (.imul, 1) := by decide +kernel
theorem dX13_alikeAnswer_79 : decode cX13_alikeAnswer 79 = .ok (.iload 9, 2) := by decide +kernel
theorem dX13_alikeAnswer_81 : decode cX13_alikeAnswer 81 = .ok (.iadd, 1) := by decide +kernel
theorem dX13_alikeAnswer_82 : decode cX13_alikeAnswer 82 = .ok (.bipush 12, 2) := by decide +kernel
theorem dX13_alikeAnswer_84 : decode cX13_alikeAnswer 84 = .ok (.iload 7, 2) := by decide +kernel
theorem dX13_alikeAnswer_86 : decode cX13_alikeAnswer 86 = .ok (.imul, 1) := by decide +kernel
theorem dX13_alikeAnswer_87 : decode cX13_alikeAnswer 87 = .ok (.iload 9, 2) := by decide +kernel
theorem dX13_alikeAnswer_89 : decode cX13_alikeAnswer 89 = .ok (.iadd, 1) := by decide +kernel
theorem dX13_alikeAnswer_90 : decode cX13_alikeAnswer 90 = .ok (.invokevirtual 274, 3) := by decide +kernel
theorem dX13_alikeAnswer_93 : decode cX13_alikeAnswer 93 = .ok (.ifCond .eq 7, 3) := by decide +kernel
theorem dX13_alikeAnswer_96 : decode cX13_alikeAnswer 96 = .ok (.iconst 1, 1) := by decide +kernel
theorem dX13_alikeAnswer_97 : decode cX13_alikeAnswer 97 = .ok (.goto 4, 3) := by decide +kernel
theorem dX13_alikeAnswer_100 : decode cX13_alikeAnswer 100 = .ok (.iconst 0, 1) := by decide +kernel
theorem dX13_alikeAnswer_101 : decode cX13_alikeAnswer 101 = .ok (.iadd, 1) := by decide +kernel
theorem dX13_alikeAnswer_102 : decode cX13_alikeAnswer 102 = .ok (.istore 8, 2) := by decide +kernel
theorem dX13_alikeAnswer_104 : decode cX13_alikeAnswer 104 = .ok (.iinc 9 1, 3) := by decide +kernel
theorem dX13_alikeAnswer_107 : decode cX13_alikeAnswer 107 = .ok (.goto (-49), 3) := by decide +kernel
theorem dX13_alikeAnswer_110 : decode cX13_alikeAnswer 110 = .ok (.iload 8, 2) := by decide +kernel
theorem dX13_alikeAnswer_112 : decode cX13_alikeAnswer 112 = .ok (.ireturn, 1) := by decide +kernel
theorem dX13_alike_0 : decode cX13_alike 0 = .ok (.aload_n 0, 1) := by decide +kernel
theorem dX13_alike_1 : decode cX13_alike 1 = .ok (.aload_n 0, 1) := by decide +kernel
theorem dX13_alike_2 : decode cX13_alike 2 = .ok (.iload_n 1, 1) := by decide +kernel
theorem dX13_alike_3 : decode cX13_alike 3 = .ok (.iload_n 2, 1) := by decide +kernel
theorem dX13_alike_4 : decode cX13_alike 4 = .ok (.iload_n 3, 1) := by decide +kernel
theorem dX13_alike_5 : decode cX13_alike 5 = .ok (.iload 4, 2) := by decide +kernel
theorem dX13_alike_7 : decode cX13_alike 7 = .ok (.invokevirtual 277, 3) := by decide +kernel
theorem dX13_alike_10 : decode cX13_alike 10 = .ok (.invokevirtual 137, 3) := by decide +kernel
theorem dX13_alike_13 : decode cX13_alike 13 = .ok (.ireturn, 1) := by decide +kernel
theorem dX13_copies_0 : decode cX13_copies 0 = .ok (.aload_n 0, 1) := by decide +kernel
theorem dX13_copies_1 : decode cX13_copies 1 = .ok (.iload_n 1, 1) := by decide +kernel
theorem dX13_copies_2 : decode cX13_copies 2 = .ok (.iload_n 2, 1) := by decide +kernel
theorem dX13_copies_3 : decode cX13_copies 3 = .ok (.invokevirtual 236, 3) := by decide +kernel
theorem dX13_copies_6 : decode cX13_copies 6 = .ok (.aload_n 0, 1) := by decide +kernel
theorem dX13_copies_7 : decode cX13_copies 7 = .ok (.iload_n 3, 1) := by decide +kernel
theorem dX13_copies_8 : decode cX13_copies 8 = .ok (.iload 4, 2) := by decide +kernel
theorem dX13_copies_10 : decode cX13_copies 10 = .ok (.invokevirtual 254, 3) := by decide +kernel
theorem dX13_copies_13 : decode cX13_copies 13 = .ok (.pop, 1) := by decide +kernel
theorem dX13_copies_14 : decode cX13_copies 14 = .ok (.return_, 1) := by decide +kernel
theorem dX13_cutDeed_0 : decode cX13_cutDeed 0 = .ok (.iload_n 1, 1) := by decide +kernel
theorem dX13_cutDeed_1 : decode cX13_cutDeed 1 = .ok (.invokestatic 134, 3) := by decide +kernel
theorem dX13_cutDeed_4 : decode cX13_cutDeed 4 = .ok (.ifCond .eq 14, 3) := by decide +kernel
theorem dX13_cutDeed_7 : decode cX13_cutDeed 7 = .ok (.iload 4, 2) := by decide +kernel
theorem dX13_cutDeed_9 : decode cX13_cutDeed 9 = .ok (.iconst 0, 1) := by decide +kernel
theorem dX13_cutDeed_10 : decode cX13_cutDeed 10 = .ok (.bipush 12, 2) := by decide +kernel
theorem dX13_cutDeed_12 : decode cX13_cutDeed 12 = .ok (.invokestatic 109, 3) := by decide +kernel
theorem dX13_cutDeed_15 : decode cX13_cutDeed 15 = .ok (.ifCond .ne 5, 3) := by decide +kernel
theorem dX13_cutDeed_18 : decode cX13_cutDeed 18 = .ok (.iconst (-1), 1) := by decide +kernel
theorem dX13_cutDeed_19 : decode cX13_cutDeed 19 = .ok (.ireturn, 1) := by decide +kernel
theorem dX13_cutDeed_20 : decode cX13_cutDeed 20 = .ok (.aload_n 0, 1) := by decide +kernel
theorem dX13_cutDeed_21 : decode cX13_cutDeed 21 = .ok (.iload_n 1, 1) := by decide +kernel
theorem dX13_cutDeed_22 : decode cX13_cutDeed 22 = .ok (.iload_n 2, 1) := by decide +kernel
theorem dX13_cutDeed_23 : decode cX13_cutDeed 23 = .ok (.invokevirtual 131, 3) := by decide +kernel
theorem dX13_cutDeed_26 : decode cX13_cutDeed 26 = .ok (.istore 6, 2) := by decide +kernel
theorem dX13_cutDeed_28 : decode cX13_cutDeed 28 = .ok (.iload 6, 2) := by decide +kernel
theorem dX13_cutDeed_30 : decode cX13_cutDeed 30 = .ok (.ifCond .eq 6, 3) := by decide +kernel
theorem dX13_cutDeed_33 : decode cX13_cutDeed 33 = .ok (.iload 6, 2) := by decide +kernel
theorem dX13_cutDeed_35 : decode cX13_cutDeed 35 = .ok (.ireturn, 1) := by decide +kernel
theorem dX13_cutDeed_36 : decode cX13_cutDeed 36 = .ok (.aload_n 0, 1) := by decide +kernel
theorem dX13_cutDeed_37 : decode cX13_cutDeed 37 = .ok (.iload_n 1, 1) := by decide +kernel
theorem dX13_cutDeed_38 : decode cX13_cutDeed 38 = .ok (.iload_n 2, 1) := by decide +kernel
theorem dX13_cutDeed_39 : decode cX13_cutDeed 39 = .ok (.invokevirtual 128, 3) := by decide +kernel
theorem dX13_cutDeed_42 : decode cX13_cutDeed 42 = .ok (.istore 7, 2) := by decide +kernel
theorem dX13_cutDeed_44 : decode cX13_cutDeed 44 = .ok (.iload_n 3, 1) := by decide +kernel
theorem dX13_cutDeed_45 : decode cX13_cutDeed 45 = .ok (.iconst 0, 1) := by decide +kernel
theorem dX13_cutDeed_46 : decode cX13_cutDeed 46 = .ok (.aload_n 0, 1) := by decide +kernel
theorem dX13_cutDeed_47 : decode cX13_cutDeed 47 = .ok (.getfield 26, 3) := by decide +kernel
theorem dX13_cutDeed_50 : decode cX13_cutDeed 50 = .ok (.iload 7, 2) := by decide +kernel
theorem dX13_cutDeed_52 : decode cX13_cutDeed 52 = .ok (.iaload, 1) := by decide +kernel
theorem dX13_cutDeed_53 : decode cX13_cutDeed 53 = .ok (.iload 4, 2) := by decide +kernel
theorem dX13_cutDeed_55 : decode cX13_cutDeed 55 = .ok (.isub, 1) := by decide +kernel
theorem dX13_cutDeed_56 : decode cX13_cutDeed 56 = .ok (.invokestatic 109, 3) := by decide +kernel
theorem dX13_cutDeed_59 : decode cX13_cutDeed 59 = .ok (.ifCond .ne 6, 3) := by decide +kernel
theorem dX13_cutDeed_62 : decode cX13_cutDeed 62 = .ok (.bipush (-6), 2) := by decide +kernel
theorem dX13_cutDeed_64 : decode cX13_cutDeed 64 = .ok (.ireturn, 1) := by decide +kernel
theorem dX13_cutDeed_65 : decode cX13_cutDeed 65 = .ok (.aload_n 0, 1) := by decide +kernel
theorem dX13_cutDeed_66 : decode cX13_cutDeed 66 = .ok (.iload_n 1, 1) := by decide +kernel
theorem dX13_cutDeed_67 : decode cX13_cutDeed 67 = .ok (.iload 5, 2) := by decide +kernel
theorem dX13_cutDeed_69 : decode cX13_cutDeed 69 = .ok (.invokevirtual 124, 3) := by decide +kernel
theorem dX13_cutDeed_72 : decode cX13_cutDeed 72 = .ok (.ifCond .eq 6, 3) := by decide +kernel
theorem dX13_cutDeed_75 : decode cX13_cutDeed 75 = .ok (.bipush (-3), 2) := by decide +kernel
theorem dX13_cutDeed_77 : decode cX13_cutDeed 77 = .ok (.ireturn, 1) := by decide +kernel
theorem dX13_cutDeed_78 : decode cX13_cutDeed 78 = .ok (.aload_n 0, 1) := by decide +kernel
theorem dX13_cutDeed_79 : decode cX13_cutDeed 79 = .ok (.aload_n 0, 1) := by decide +kernel
theorem dX13_cutDeed_80 : decode cX13_cutDeed 80 = .ok (.getfield 23, 3) := by decide +kernel
theorem dX13_cutDeed_83 : decode cX13_cutDeed 83 = .ok (.iload 7, 2) := by decide +kernel
theorem dX13_cutDeed_85 : decode cX13_cutDeed 85 = .ok (.iaload, 1) := by decide +kernel
theorem dX13_cutDeed_86 : decode cX13_cutDeed 86 = .ok (.iload 4, 2) := by decide +kernel
theorem dX13_cutDeed_88 : decode cX13_cutDeed 88 = .ok (.invokevirtual 155, 3) := by decide +kernel
theorem dX13_cutDeed_91 : decode cX13_cutDeed 91 = .ok (.istore 8, 2) := by decide +kernel
theorem dX13_cutDeed_93 : decode cX13_cutDeed 93 = .ok (.iconst 0, 1) := by decide +kernel
theorem dX13_cutDeed_94 : decode cX13_cutDeed 94 = .ok (.istore 9, 2) := by decide +kernel
theorem dX13_cutDeed_96 : decode cX13_cutDeed 96 = .ok (.iload 9, 2) := by decide +kernel
theorem dX13_cutDeed_98 : decode cX13_cutDeed 98 = .ok (.iload 4, 2) := by decide +kernel
theorem dX13_cutDeed_100 : decode cX13_cutDeed 100 = .ok (.if_icmp .ge 23, 3) := by decide +kernel
theorem dX13_cutDeed_103 : decode cX13_cutDeed 103 = .ok (.aload_n 0, 1) := by decide +kernel
theorem dX13_cutDeed_104 : decode cX13_cutDeed 104 = .ok (.iload 7, 2) := by decide +kernel
theorem dX13_cutDeed_106 : decode cX13_cutDeed 106 = .ok (.iload_n 3, 1) := by decide +kernel
theorem dX13_cutDeed_107 : decode cX13_cutDeed 107 = .ok (.iload 9, 2) := by decide +kernel
theorem dX13_cutDeed_109 : decode cX13_cutDeed 109 = .ok (.iadd, 1) := by decide +kernel
theorem dX13_cutDeed_110 : decode cX13_cutDeed 110 = .ok (.iload 8, 2) := by decide +kernel
theorem dX13_cutDeed_112 : decode cX13_cutDeed 112 = .ok (.iload 9, 2) := by decide +kernel
theorem dX13_cutDeed_114 : decode cX13_cutDeed 114 = .ok (.invokevirtual 280, 3) := by decide +kernel
theorem dX13_cutDeed_117 : decode cX13_cutDeed 117 = .ok (.iinc 9 1, 3) := by decide +kernel
theorem dX13_cutDeed_120 : decode cX13_cutDeed 120 = .ok (.goto (-24), 3) := by decide +kernel
theorem dX13_cutDeed_123 : decode cX13_cutDeed 123 = .ok (.aload_n 0, 1) := by decide +kernel
theorem dX13_cutDeed_124 : decode cX13_cutDeed 124 = .ok (.iload_n 1, 1) := by decide +kernel
theorem dX13_cutDeed_125 : decode cX13_cutDeed 125 = .ok (.iload 5, 2) := by decide +kernel
theorem dX13_cutDeed_127 : decode cX13_cutDeed 127 = .ok (.iload 8, 2) := by decide +kernel
theorem dX13_cutDeed_129 : decode cX13_cutDeed 129 = .ok (.invokevirtual 145, 3) := by decide +kernel
theorem dX13_cutDeed_132 : decode cX13_cutDeed 132 = .ok (.iload 4, 2) := by decide +kernel
theorem dX13_cutDeed_134 : decode cX13_cutDeed 134 = .ok (.ireturn, 1) := by decide +kernel
theorem dX13_cut_0 : decode cX13_cut 0 = .ok (.aload_n 0, 1) := by decide +kernel
theorem dX13_cut_1 : decode cX13_cut 1 = .ok (.aload_n 0, 1) := by decide +kernel
theorem dX13_cut_2 : decode cX13_cut 2 = .ok (.iload_n 1, 1) := by decide +kernel
theorem dX13_cut_3 : decode cX13_cut 3 = .ok (.iload_n 2, 1) := by decide +kernel
theorem dX13_cut_4 : decode cX13_cut 4 = .ok (.iload_n 3, 1) := by decide +kernel
theorem dX13_cut_5 : decode cX13_cut 5 = .ok (.iload 4, 2) := by decide +kernel
theorem dX13_cut_7 : decode cX13_cut 7 = .ok (.iload 5, 2) := by decide +kernel
theorem dX13_cut_9 : decode cX13_cut 9 = .ok (.invokevirtual 284, 3) := by decide +kernel
theorem dX13_cut_12 : decode cX13_cut 12 = .ok (.invokevirtual 137, 3) := by decide +kernel
theorem dX13_cut_15 : decode cX13_cut 15 = .ok (.ireturn, 1) := by decide +kernel
theorem dX13_castDeed_0 : decode cX13_castDeed 0 = .ok (.iload_n 1, 1) := by decide +kernel
theorem dX13_castDeed_1 : decode cX13_castDeed 1 = .ok (.invokestatic 134, 3) := by decide +kernel
theorem dX13_castDeed_4 : decode cX13_castDeed 4 = .ok (.ifCond .eq 10, 3) := by decide +kernel
theorem dX13_castDeed_7 : decode cX13_castDeed 7 = .ok (.iload_n 3, 1) := by decide +kernel
theorem dX13_castDeed_8 : decode cX13_castDeed 8 = .ok (.invokestatic 152, 3) := by decide +kernel
theorem dX13_castDeed_11 : decode cX13_castDeed 11 = .ok (.ifCond .ne 5, 3) := by decide +kernel
theorem dX13_castDeed_14 : decode cX13_castDeed 14 = .ok (.iconst (-1), 1) := by decide +kernel
theorem dX13_castDeed_15 : decode cX13_castDeed 15 = .ok (.ireturn, 1) := by decide +kernel
theorem dX13_castDeed_16 : decode cX13_castDeed 16 = .ok (.aload_n 0, 1) := by decide +kernel
theorem dX13_castDeed_17 : decode cX13_castDeed 17 = .ok (.iload_n 1, 1) := by decide +kernel
theorem dX13_castDeed_18 : decode cX13_castDeed 18 = .ok (.iload_n 2, 1) := by decide +kernel
theorem dX13_castDeed_19 : decode cX13_castDeed 19 = .ok (.invokevirtual 131, 3) := by decide +kernel
theorem dX13_castDeed_22 : decode cX13_castDeed 22 = .ok (.istore 4, 2) := by decide +kernel
theorem dX13_castDeed_24 : decode cX13_castDeed 24 = .ok (.iload 4, 2) := by decide +kernel
theorem dX13_castDeed_26 : decode cX13_castDeed 26 = .ok (.ifCond .eq 6, 3) := by decide +kernel
theorem dX13_castDeed_29 : decode cX13_castDeed 29 = .ok (.iload 4, 2) := by decide +kernel
theorem dX13_castDeed_31 : decode cX13_castDeed 31 = .ok (.ireturn, 1) := by decide +kernel
theorem dX13_castDeed_32 : decode cX13_castDeed 32 = .ok (.aload_n 0, 1) := by decide +kernel
theorem dX13_castDeed_33 : decode cX13_castDeed 33 = .ok (.iload_n 1, 1) := by decide +kernel
theorem dX13_castDeed_34 : decode cX13_castDeed 34 = .ok (.iload_n 2, 1) := by decide +kernel
theorem dX13_castDeed_35 : decode cX13_castDeed 35 = .ok (.invokevirtual 128, 3) := by decide +kernel
theorem dX13_castDeed_38 : decode cX13_castDeed 38 = .ok (.istore 5, 2) := by decide +kernel
theorem dX13_castDeed_40 : decode cX13_castDeed 40 = .ok (.iconst 0, 1) := by decide +kernel
theorem dX13_castDeed_41 : decode cX13_castDeed 41 = .ok (.istore 6, 2) := by decide +kernel
theorem dX13_castDeed_43 : decode cX13_castDeed 43 = .ok (.iload 6, 2) := by decide +kernel
theorem dX13_castDeed_45 : decode cX13_castDeed 45 = .ok (.aload_n 0, 1) := by decide +kernel
theorem dX13_castDeed_46 : decode cX13_castDeed 46 = .ok (.getfield 26, 3) := by decide +kernel
theorem dX13_castDeed_49 : decode cX13_castDeed 49 = .ok (.iload 5, 2) := by decide +kernel
theorem dX13_castDeed_51 : decode cX13_castDeed 51 = .ok (.iaload, 1) := by decide +kernel
theorem dX13_castDeed_52 : decode cX13_castDeed 52 = .ok (.if_icmp .ge 38, 3) := by decide +kernel
theorem dX13_castDeed_55 : decode cX13_castDeed 55 = .ok (.iload_n 3, 1) := by decide +kernel
theorem dX13_castDeed_56 : decode cX13_castDeed 56 = .ok (.aload_n 0, 1) := by decide +kernel
theorem dX13_castDeed_57 : decode cX13_castDeed 57 = .ok (.getfield 32, 3) := by decide +kernel
theorem dX13_castDeed_60 : decode cX13_castDeed 60 = .ok (.bipush 12, 2) := by decide +kernel
theorem dX13_castDeed_62 : decode cX13_castDeed 62 = .ok (.iload 5, 2) := by decide +kernel
theorem dX13_castDeed_64 : decode cX13_castDeed 64 = .ok (.imul, 1) := by decide +kernel
theorem dX13_castDeed_65 : decode cX13_castDeed 65 = .ok (.iload 6, 2) := by decide +kernel
theorem dX13_castDeed_67 : decode cX13_castDeed 67 = .ok (.iadd, 1) := by decide +kernel
theorem dX13_castDeed_68 : decode cX13_castDeed 68 = .ok (.iaload, 1) := by decide +kernel
theorem dX13_castDeed_69 : decode cX13_castDeed 69 = .ok (.invokestatic 205, 3) := by decide +kernel
theorem dX13_castDeed_72 : decode cX13_castDeed 72 = .ok (.ifCond .ne 12, 3) := by decide +kernel
theorem dX13_castDeed_75 : decode cX13_castDeed 75 = .ok (.aload_n 0, 1) := by decide +kernel
theorem dX13_castDeed_76 : decode cX13_castDeed 76 = .ok (.iload 6, 2) := by decide +kernel
theorem dX13_castDeed_78 : decode cX13_castDeed 78 = .ok (.putfield 13, 3) := by decide +kernel
theorem dX13_castDeed_81 : decode cX13_castDeed 81 = .ok (.bipush (-7), 2) := by decide +kernel
theorem dX13_castDeed_83 : decode cX13_castDeed 83 = .ok (.ireturn, 1) := by decide +kernel
theorem dX13_castDeed_84 : decode cX13_castDeed 84 = .ok (.iinc 6 1, 3) := by decide +kernel
theorem dX13_castDeed_87 : decode cX13_castDeed 87 = .ok (.goto (-44), 3) := by decide +kernel
theorem dX13_castDeed_90 : decode cX13_castDeed 90 = .ok (.aload_n 0, 1) := by decide +kernel
theorem dX13_castDeed_91 : decode cX13_castDeed 91 = .ok (.iload_n 3, 1) := by decide +kernel
theorem dX13_castDeed_92 : decode cX13_castDeed 92 = .ok (.aload_n 0, 1) := by decide +kernel
theorem dX13_castDeed_93 : decode cX13_castDeed 93 = .ok (.getfield 26, 3) := by decide +kernel
theorem dX13_castDeed_96 : decode cX13_castDeed 96 = .ok (.iload 5, 2) := by decide +kernel
theorem dX13_castDeed_98 : decode cX13_castDeed 98 = .ok (.iaload, 1) := by decide +kernel
theorem dX13_castDeed_99 : decode cX13_castDeed 99 = .ok (.invokevirtual 155, 3) := by decide +kernel
theorem dX13_castDeed_102 : decode cX13_castDeed 102 = .ok (.istore 6, 2) := by decide +kernel
theorem dX13_castDeed_104 : decode cX13_castDeed 104 = .ok (.iconst 0, 1) := by decide +kernel
theorem dX13_castDeed_105 : decode cX13_castDeed 105 = .ok (.istore 7, 2) := by decide +kernel
theorem dX13_castDeed_107 : decode cX13_castDeed 107 = .ok (.iload 7, 2) := by decide +kernel
theorem dX13_castDeed_109 : decode cX13_castDeed 109 = .ok (.aload_n 0, 1) := by decide +kernel
theorem dX13_castDeed_110 : decode cX13_castDeed 110 = .ok (.getfield 26, 3) := by decide +kernel
theorem dX13_castDeed_113 : decode cX13_castDeed 113 = .ok (.iload 5, 2) := by decide +kernel
theorem dX13_castDeed_115 : decode cX13_castDeed 115 = .ok (.iaload, 1) := by decide +kernel
theorem dX13_castDeed_116 : decode cX13_castDeed 116 = .ok (.if_icmp .ge 21, 3) := by decide +kernel
theorem dX13_castDeed_119 : decode cX13_castDeed 119 = .ok (.aload_n 0, 1) := by decide +kernel
theorem dX13_castDeed_120 : decode cX13_castDeed 120 = .ok (.iload 5, 2) := by decide +kernel
theorem dX13_castDeed_122 : decode cX13_castDeed 122 = .ok (.iload 7, 2) := by decide +kernel
theorem dX13_castDeed_124 : decode cX13_castDeed 124 = .ok (.iload 6, 2) := by decide +kernel
theorem dX13_castDeed_126 : decode cX13_castDeed 126 = .ok (.iload 7, 2) := by decide +kernel
theorem dX13_castDeed_128 : decode cX13_castDeed 128 = .ok (.invokevirtual 280, 3) := by decide +kernel
theorem dX13_castDeed_131 : decode cX13_castDeed 131 = .ok (.iinc 7 1, 3) := by decide +kernel
theorem dX13_castDeed_134 : decode cX13_castDeed 134 = .ok (.goto (-27), 3) := by decide +kernel
theorem dX13_castDeed_137 : decode cX13_castDeed 137 = .ok (.aload_n 0, 1) := by decide +kernel
theorem dX13_castDeed_138 : decode cX13_castDeed 138 = .ok (.iload_n 1, 1) := by decide +kernel
theorem dX13_castDeed_139 : decode cX13_castDeed 139 = .ok (.iload_n 2, 1) := by decide +kernel
theorem dX13_castDeed_140 : decode cX13_castDeed 140 = .ok (.iload 6, 2) := by decide +kernel
theorem dX13_castDeed_142 : decode cX13_castDeed 142 = .ok (.invokevirtual 145, 3) := by decide +kernel
theorem dX13_castDeed_145 : decode cX13_castDeed 145 = .ok (.aload_n 0, 1) := by decide +kernel
theorem dX13_castDeed_146 : decode cX13_castDeed 146 = .ok (.getfield 26, 3) := by decide +kernel
theorem dX13_castDeed_149 : decode cX13_castDeed 149 = .ok (.iload 6, 2) := by decide +kernel
theorem dX13_castDeed_151 : decode cX13_castDeed 151 = .ok (.iaload, 1) := by decide +kernel
theorem dX13_castDeed_152 : decode cX13_castDeed 152 = .ok (.ireturn, 1) := by decide +kernel
theorem dX13_cast_0 : decode cX13_cast 0 = .ok (.aload_n 0, 1) := by decide +kernel
theorem dX13_cast_1 : decode cX13_cast 1 = .ok (.aload_n 0, 1) := by decide +kernel
theorem dX13_cast_2 : decode cX13_cast 2 = .ok (.iload_n 1, 1) := by decide +kernel
theorem dX13_cast_3 : decode cX13_cast 3 = .ok (.iload_n 2, 1) := by decide +kernel
theorem dX13_cast_4 : decode cX13_cast 4 = .ok (.iload_n 3, 1) := by decide +kernel
theorem dX13_cast_5 : decode cX13_cast 5 = .ok (.invokevirtual 288, 3) := by decide +kernel
theorem dX13_cast_8 : decode cX13_cast 8 = .ok (.invokevirtual 137, 3) := by decide +kernel
theorem dX13_cast_11 : decode cX13_cast 11 = .ok (.ireturn, 1) := by decide +kernel
theorem dX13_pourDeed_0 : decode cX13_pourDeed 0 = .ok (.iload_n 1, 1) := by decide +kernel
theorem dX13_pourDeed_1 : decode cX13_pourDeed 1 = .ok (.invokestatic 134, 3) := by decide +kernel
theorem dX13_pourDeed_4 : decode cX13_pourDeed 4 = .ok (.ifCond .eq 10, 3) := by decide +kernel
theorem dX13_pourDeed_7 : decode cX13_pourDeed 7 = .ok (.iload_n 3, 1) := by decide +kernel
theorem dX13_pourDeed_8 : decode cX13_pourDeed 8 = .ok (.invokestatic 134, 3) := by decide +kernel
theorem dX13_pourDeed_11 : decode cX13_pourDeed 11 = .ok (.ifCond .ne 5, 3) := by decide +kernel
theorem dX13_pourDeed_14 : decode cX13_pourDeed 14 = .ok (.iconst (-1), 1) := by decide +kernel
theorem dX13_pourDeed_15 : decode cX13_pourDeed 15 = .ok (.ireturn, 1) := by decide +kernel
theorem dX13_pourDeed_16 : decode cX13_pourDeed 16 = .ok (.aload_n 0, 1) := by decide +kernel
theorem dX13_pourDeed_17 : decode cX13_pourDeed 17 = .ok (.iload_n 1, 1) := by decide +kernel
theorem dX13_pourDeed_18 : decode cX13_pourDeed 18 = .ok (.iload_n 2, 1) := by decide +kernel
theorem dX13_pourDeed_19 : decode cX13_pourDeed 19 = .ok (.iload_n 3, 1) := by decide +kernel
theorem dX13_pourDeed_20 : decode cX13_pourDeed 20 = .ok (.iload 4, 2) := by decide +kernel
theorem dX13_pourDeed_22 : decode cX13_pourDeed 22 = .ok (.invokevirtual 181, 3) := by decide +kernel
theorem dX13_pourDeed_25 : decode cX13_pourDeed 25 = .ok (.istore 5, 2) := by decide +kernel
theorem dX13_pourDeed_27 : decode cX13_pourDeed 27 = .ok (.iload 5, 2) := by decide +kernel
theorem dX13_pourDeed_29 : decode cX13_pourDeed 29 = .ok (.ifCond .eq 6, 3) := by decide +kernel
theorem dX13_pourDeed_32 : decode cX13_pourDeed 32 = .ok (.iload 5, 2) := by decide +kernel
theorem dX13_pourDeed_34 : decode cX13_pourDeed 34 = .ok (.ireturn, 1) := by decide +kernel
theorem dX13_pourDeed_35 : decode cX13_pourDeed 35 = .ok (.aload_n 0, 1) := by decide +kernel
theorem dX13_pourDeed_36 : decode cX13_pourDeed 36 = .ok (.iload_n 1, 1) := by decide +kernel
theorem dX13_pourDeed_37 : decode cX13_pourDeed 37 = .ok (.iload_n 2, 1) := by decide +kernel
theorem dX13_pourDeed_38 : decode cX13_pourDeed 38 = .ok (.invokevirtual 128, 3) := by decide +kernel
theorem dX13_pourDeed_41 : decode cX13_pourDeed 41 = .ok (.istore 6, 2) := by decide +kernel
theorem dX13_pourDeed_43 : decode cX13_pourDeed 43 = .ok (.aload_n 0, 1) := by decide +kernel
theorem dX13_pourDeed_44 : decode cX13_pourDeed 44 = .ok (.iload_n 3, 1) := by decide +kernel
theorem dX13_pourDeed_45 : decode cX13_pourDeed 45 = .ok (.iload 4, 2) := by decide +kernel
theorem dX13_pourDeed_47 : decode cX13_pourDeed 47 = .ok (.invokevirtual 128, 3) := by decide +kernel
theorem dX13_pourDeed_50 : decode cX13_pourDeed 50 = .ok (.istore 7, 2) := by decide +kernel
theorem dX13_pourDeed_52 : decode cX13_pourDeed 52 = .ok (.iconst 0, 1) := by decide +kernel
theorem dX13_pourDeed_53 : decode cX13_pourDeed 53 = .ok (.istore 8, 2) := by decide +kernel
theorem dX13_pourDeed_55 : decode cX13_pourDeed 55 = .ok (.aload_n 0, 1) := by decide +kernel
theorem dX13_pourDeed_56 : decode cX13_pourDeed 56 = .ok (.bipush (-9), 2) := by decide +kernel
theorem dX13_pourDeed_58 : decode cX13_pourDeed 58 = .ok (.putfield 13, 3) := by decide +kernel
theorem dX13_pourDeed_61 : decode cX13_pourDeed 61 = .ok (.iconst 0, 1) := by decide +kernel
theorem dX13_pourDeed_62 : decode cX13_pourDeed 62 = .ok (.istore 9, 2) := by decide +kernel
theorem dX13_pourDeed_64 : decode cX13_pourDeed 64 = .ok (.iload 9, 2) := by decide +kernel
theorem dX13_pourDeed_66 : decode cX13_pourDeed 66 = .ok (.aload_n 0, 1) := by decide +kernel
theorem dX13_pourDeed_67 : decode cX13_pourDeed 67 = .ok (.iload 6, 2) := by decide +kernel
theorem dX13_pourDeed_69 : decode cX13_pourDeed 69 = .ok (.iload 7, 2) := by decide +kernel
theorem dX13_pourDeed_71 : decode cX13_pourDeed 71 = .ok (.invokevirtual 271, 3) := by decide +kernel
theorem dX13_pourDeed_74 : decode cX13_pourDeed 74 = .ok (.if_icmp .ge 49, 3) := by decide +kernel
theorem dX13_pourDeed_77 : decode cX13_pourDeed 77 = .ok (.aload_n 0, 1) := by decide +kernel
theorem dX13_pourDeed_78 : decode cX13_pourDeed 78 = .ok (.iload 6, 2) := by decide +kernel
theorem dX13_pourDeed_80 : decode cX13_pourDeed 80 = .ok (.iload 9, 2) := by decide +kernel
theorem dX13_pourDeed_82 : decode cX13_pourDeed 82 = .ok (.invokevirtual 236, 3) := by decide +kernel
theorem dX13_pourDeed_85 : decode cX13_pourDeed 85 = .ok (.aload_n 0, 1) := by decide +kernel
theorem dX13_pourDeed_86 : decode cX13_pourDeed 86 = .ok (.iload 7, 2) := by decide +kernel
theorem dX13_pourDeed_88 : decode cX13_pourDeed 88 = .ok (.iload 9, 2) := by decide +kernel
theorem dX13_pourDeed_90 : decode cX13_pourDeed 90 = .ok (.invokevirtual 254, 3) := by decide +kernel
theorem dX13_pourDeed_93 : decode cX13_pourDeed 93 = .ok (.ifCond .eq 9, 3) := by decide +kernel
theorem dX13_pourDeed_96 : decode cX13_pourDeed 96 = .ok (.iinc 8 1, 3) := by decide +kernel
theorem dX13_pourDeed_99 : decode cX13_pourDeed 99 = .ok (.goto 18, 3) := by decide +kernel
theorem dX13_pourDeed_102 : decode cX13_pourDeed 102 = .ok (.aload_n 0, 1) := by decide +kernel
theorem dX13_pourDeed_103 : decode cX13_pourDeed 103 = .ok (.getfield 13, 3) := by decide +kernel
theorem dX13_pourDeed_106 : decode cX13_pourDeed 106 = .ok (.bipush (-9), 2) := by decide +kernel
theorem dX13_pourDeed_108 : decode cX13_pourDeed 108 = .ok (.if_icmp .ne 9, 3) := by decide +kernel
theorem dX13_pourDeed_111 : decode cX13_pourDeed 111 = .ok (.aload_n 0, 1) := by decide +kernel
theorem dX13_pourDeed_112 : decode cX13_pourDeed 112 = .ok (.iload 9, 2) := by decide +kernel
theorem dX13_pourDeed_114 : decode cX13_pourDeed 114 = .ok (.putfield 13, 3) := by decide +kernel
theorem dX13_pourDeed_117 : decode cX13_pourDeed 117 = .ok (.iinc 9 1, 3) := by decide +kernel
theorem dX13_pourDeed_120 : decode cX13_pourDeed 120 = .ok (.goto (-56), 3) := by decide +kernel
theorem dX13_pourDeed_123 : decode cX13_pourDeed 123 = .ok (.iload 8, 2) := by decide +kernel
theorem dX13_pourDeed_125 : decode cX13_pourDeed 125 = .ok (.ireturn, 1) := by decide +kernel
theorem dX13_pour_0 : decode cX13_pour 0 = .ok (.aload_n 0, 1) := by decide +kernel
theorem dX13_pour_1 : decode cX13_pour 1 = .ok (.aload_n 0, 1) := by decide +kernel
theorem dX13_pour_2 : decode cX13_pour 2 = .ok (.iload_n 1, 1) := by decide +kernel
theorem dX13_pour_3 : decode cX13_pour 3 = .ok (.iload_n 2, 1) := by decide +kernel
theorem dX13_pour_4 : decode cX13_pour 4 = .ok (.iload_n 3, 1) := by decide +kernel
theorem dX13_pour_5 : decode cX13_pour 5 = .ok (.iload 4, 2) := by decide +kernel
theorem dX13_pour_7 : decode cX13_pour 7 = .ok (.invokevirtual 291, 3) := by decide +kernel
theorem dX13_pour_10 : decode cX13_pour 10 = .ok (.invokevirtual 137, 3) := by decide +kernel
theorem dX13_pour_13 : decode cX13_pour 13 = .ok (.ireturn, 1) := by decide +kernel
theorem dX13_leastKind_0 : decode cX13_leastKind 0 = .ok (.iconst 0, 1) := by decide +kernel
theorem dX13_leastKind_1 : decode cX13_leastKind 1 = .ok (.istore_n 1, 1) := by decide +kernel
theorem dX13_leastKind_2 : decode cX13_leastKind 2 = .ok (.iload_n 1, 1) := by decide +kernel
theorem dX13_leastKind_3 : decode cX13_leastKind 3 = .ok (.bipush 11, 2) := by decide +kernel
theorem dX13_leastKind_5 : decode cX13_leastKind 5 = .ok (.if_icmp .gt 18, 3) := by decide +kernel
theorem dX13_leastKind_8 : decode cX13_leastKind 8 = .ok (.iload_n 0, 1) := by decide +kernel
theorem dX13_leastKind_9 : decode cX13_leastKind 9 = .ok (.iconst 1, 1) := by decide +kernel
theorem dX13_leastKind_10 : decode cX13_leastKind 10 = .ok (.iload_n 1, 1) := by decide +kernel
theorem dX13_leastKind_11 : decode cX13_leastKind 11 = .ok (.ishl, 1) := by decide +kernel
theorem dX13_leastKind_12 : decode cX13_leastKind 12 = .ok (.if_icmp .ne 5, 3) := by decide +kernel
theorem dX13_leastKind_15 : decode cX13_leastKind 15 = .ok (.iload_n 1, 1) := by decide +kernel
theorem dX13_leastKind_16 : decode cX13_leastKind 16 = .ok (.ireturn, 1) := by decide +kernel
theorem dX13_leastKind_17 : decode cX13_leastKind 17 = .ok (.iinc 1 1, 3) := by decide +kernel
theorem dX13_leastKind_20 : decode cX13_leastKind 20 = .ok (.goto (-18), 3) := by decide +kernel
theorem dX13_leastKind_23 : decode cX13_leastKind 23 = .ok (.iconst 0, 1) := by decide +kernel
theorem dX13_leastKind_24 : decode cX13_leastKind 24 = .ok (.istore_n 1, 1) := by decide +kernel
theorem dX13_leastKind_25 : decode cX13_leastKind 25 = .ok (.iload_n 1, 1) := by decide +kernel
theorem dX13_leastKind_26 : decode cX13_leastKind 26 = .ok (.bipush 8, 2) := by decide +kernel
theorem dX13_leastKind_28 : decode cX13_leastKind 28 = .ok (.if_icmp .ge 68, 3) := by decide +kernel
theorem dX13_leastKind_31 : decode cX13_leastKind 31 = .ok (.iload_n 0, 1) := by decide +kernel
theorem dX13_leastKind_32 : decode cX13_leastKind 32 = .ok (.ifCond .le 64, 3) := by decide +kernel
theorem dX13_leastKind_35 : decode cX13_leastKind 35 = .ok (.iload_n 0, 1) := by decide +kernel
theorem dX13_leastKind_36 : decode cX13_leastKind 36 = .ok (.sipush 256, 3) := by decide +kernel
theorem dX13_leastKind_39 : decode cX13_leastKind 39 = .ok (.if_icmp .ge 57, 3) := by decide +kernel
theorem dX13_leastKind_42 : decode cX13_leastKind 42 = .ok (.iconst 1, 1) := by decide +kernel
theorem dX13_leastKind_43 : decode cX13_leastKind 43 = .ok (.istore_n 2, 1) := by decide +kernel
theorem dX13_leastKind_44 : decode cX13_leastKind 44 = .ok (.iconst 0, 1) := by decide +kernel
theorem dX13_leastKind_45 : decode cX13_leastKind 45 = .ok (.istore_n 3, 1) := by decide +kernel
theorem dX13_leastKind_46 : decode cX13_leastKind 46 = .ok (.iload_n 3, 1) := by decide +kernel
theorem dX13_leastKind_47 : decode cX13_leastKind 47 = .ok (.bipush 8, 2) := by decide +kernel
theorem dX13_leastKind_49 : decode cX13_leastKind 49 = .ok (.if_icmp .ge 35, 3) := by decide +kernel
theorem dX13_leastKind_52 : decode cX13_leastKind 52 = .ok (.iload_n 2, 1) := by decide +kernel
theorem dX13_leastKind_53 : decode cX13_leastKind 53 = .ok (.ifCond .eq 23, 3) := by decide +kernel
theorem dX13_leastKind_56 : decode cX13_leastKind 56 = .ok (.iload_n 0, 1) := by decide +kernel
theorem dX13_leastKind_57 : decode cX13_leastKind 57 = .ok (.iload_n 3, 1) := by decide +kernel
theorem dX13_leastKind_58 : decode cX13_leastKind 58 = .ok (.ishr, 1) := by decide +kernel
theorem dX13_leastKind_59 : decode cX13_leastKind 59 = .ok (.iconst 1, 1) := by decide +kernel
theorem dX13_leastKind_60 : decode cX13_leastKind 60 = .ok (.iand, 1) := by decide +kernel
theorem dX13_leastKind_61 : decode cX13_leastKind 61 = .ok (.ifCond .eq 11, 3) := by decide +kernel
theorem dX13_leastKind_64 : decode cX13_leastKind 64 = .ok (.iload_n 1, 1) := by decide +kernel
theorem dX13_leastKind_65 : decode cX13_leastKind 65 = .ok (.iload_n 3, 1) := by decide +kernel
theorem dX13_leastKind_66 : decode cX13_leastKind 66 = .ok (.invokestatic 205, 3) := by decide +kernel
theorem dX13_leastKind_69 : decode cX13_leastKind 69 = .ok (.ifCond .eq 7, 3) := by decide +kernel
theorem dX13_leastKind_72 : decode cX13_leastKind 72 = .ok (.iconst 1, 1) := by decide +kernel
theorem dX13_leastKind_73 : decode cX13_leastKind 73 = .ok (.goto 4, 3) := by decide +kernel
theorem dX13_leastKind_76 : decode cX13_leastKind 76 = .ok (.iconst 0, 1) := by decide +kernel
theorem dX13_leastKind_77 : decode cX13_leastKind 77 = .ok (.istore_n 2, 1) := by decide +kernel
theorem dX13_leastKind_78 : decode cX13_leastKind 78 = .ok (.iinc 3 1, 3) := by decide +kernel
theorem dX13_leastKind_81 : decode cX13_leastKind 81 = .ok (.goto (-35), 3) := by decide +kernel
theorem dX13_leastKind_84 : decode cX13_leastKind 84 = .ok (.iload_n 2, 1) := by decide +kernel
theorem dX13_leastKind_85 : decode cX13_leastKind 85 = .ok (.ifCond .eq 5, 3) := by decide +kernel
theorem dX13_leastKind_88 : decode cX13_leastKind 88 = .ok (.iload_n 1, 1) := by decide +kernel
theorem dX13_leastKind_89 : decode cX13_leastKind 89 = .ok (.ireturn, 1) := by decide +kernel
theorem dX13_leastKind_90 : decode cX13_leastKind 90 = .ok (.iinc 1 1, 3) := by decide +kernel
theorem dX13_leastKind_93 : decode cX13_leastKind 93 = .ok (.goto (-68), 3) := by decide +kernel
theorem dX13_leastKind_96 : decode cX13_leastKind 96 = .ok (.bipush 8, 2) := by decide +kernel
theorem dX13_leastKind_98 : decode cX13_leastKind 98 = .ok (.ireturn, 1) := by decide +kernel
theorem dX13_joinDeed_0 : decode cX13_joinDeed 0 = .ok (.iload_n 1, 1) := by decide +kernel
theorem dX13_joinDeed_1 : decode cX13_joinDeed 1 = .ok (.invokestatic 134, 3) := by decide +kernel
theorem dX13_joinDeed_4 : decode cX13_joinDeed 4 = .ok (.ifCond .ne 5, 3) := by decide +kernel
theorem dX13_joinDeed_7 : decode cX13_joinDeed 7 = .ok (.iconst (-1), 1) := by decide +kernel
theorem dX13_joinDeed_8 : decode cX13_joinDeed 8 = .ok (.ireturn, 1) := by decide +kernel
theorem dX13_joinDeed_9 : decode cX13_joinDeed 9 = .ok (.aload_n 0, 1) := by decide +kernel
theorem dX13_joinDeed_10 : decode cX13_joinDeed 10 = .ok (.iload_n 1, 1) := by decide +kernel
theorem dX13_joinDeed_11 : decode cX13_joinDeed 11 = .ok (.iload_n 2, 1) := by decide +kernel
theorem dX13_joinDeed_12 : decode cX13_joinDeed 12 = .ok (.iload_n 1, 1) := by decide +kernel
theorem dX13_joinDeed_13 : decode cX13_joinDeed 13 = .ok (.iload_n 3, 1) := by decide +kernel
theorem dX13_joinDeed_14 : decode cX13_joinDeed 14 = .ok (.invokevirtual 181, 3) := by decide +kernel
theorem dX13_joinDeed_17 : decode cX13_joinDeed 17 = .ok (.istore 4, 2) := by decide +kernel
theorem dX13_joinDeed_19 : decode cX13_joinDeed 19 = .ok (.iload 4, 2) := by decide +kernel
theorem dX13_joinDeed_21 : decode cX13_joinDeed 21 = .ok (.ifCond .eq 6, 3) := by decide +kernel
theorem dX13_joinDeed_24 : decode cX13_joinDeed 24 = .ok (.iload 4, 2) := by decide +kernel
theorem dX13_joinDeed_26 : decode cX13_joinDeed 26 = .ok (.ireturn, 1) := by decide +kernel
theorem dX13_joinDeed_27 : decode cX13_joinDeed 27 = .ok (.aload_n 0, 1) := by decide +kernel
theorem dX13_joinDeed_28 : decode cX13_joinDeed 28 = .ok (.iload_n 1, 1) := by decide +kernel
theorem dX13_joinDeed_29 : decode cX13_joinDeed 29 = .ok (.iload_n 2, 1) := by decide +kernel
theorem dX13_joinDeed_30 : decode cX13_joinDeed 30 = .ok (.invokevirtual 128, 3) := by decide +kernel
theorem dX13_joinDeed_33 : decode cX13_joinDeed 33 = .ok (.istore 5, 2) := by decide +kernel
theorem dX13_joinDeed_35 : decode cX13_joinDeed 35 = .ok (.aload_n 0, 1) := by decide +kernel
theorem dX13_joinDeed_36 : decode cX13_joinDeed 36 = .ok (.iload_n 1, 1) := by decide +kernel
theorem dX13_joinDeed_37 : decode cX13_joinDeed 37 = .ok (.iload_n 3, 1) := by decide +kernel
theorem dX13_joinDeed_38 : decode cX13_joinDeed 38 = .ok (.invokevirtual 128, 3) := by decide +kernel
theorem dX13_joinDeed_41 : decode cX13_joinDeed 41 = .ok (.istore 6, 2) := by decide +kernel
theorem dX13_joinDeed_43 : decode cX13_joinDeed 43 = .ok (.aload_n 0, 1) := by decide +kernel
theorem dX13_joinDeed_44 : decode cX13_joinDeed 44 = .ok (.getfield 26, 3) := by decide +kernel
theorem dX13_joinDeed_47 : decode cX13_joinDeed 47 = .ok (.iload 5, 2) := by decide +kernel
theorem dX13_joinDeed_49 : decode cX13_joinDeed 49 = .ok (.iaload, 1) := by decide +kernel
theorem dX13_joinDeed_50 : decode cX13_joinDeed 50 = .ok (.istore 7, 2) := by decide +kernel
theorem dX13_joinDeed_52 : decode cX13_joinDeed 52 = .ok (.iload 7, 2) := by decide +kernel
theorem dX13_joinDeed_54 : decode cX13_joinDeed 54 = .ok (.aload_n 0, 1) := by decide +kernel
theorem dX13_joinDeed_55 : decode cX13_joinDeed 55 = .ok (.getfield 26, 3) := by decide +kernel
theorem dX13_joinDeed_58 : decode cX13_joinDeed 58 = .ok (.iload 6, 2) := by decide +kernel
theorem dX13_joinDeed_60 : decode cX13_joinDeed 60 = .ok (.iaload, 1) := by decide +kernel
theorem dX13_joinDeed_61 : decode cX13_joinDeed 61 = .ok (.iadd, 1) := by decide +kernel
theorem dX13_joinDeed_62 : decode cX13_joinDeed 62 = .ok (.bipush 12, 2) := by decide +kernel
theorem dX13_joinDeed_64 : decode cX13_joinDeed 64 = .ok (.if_icmp .le 6, 3) := by decide +kernel
theorem dX13_joinDeed_67 : decode cX13_joinDeed 67 = .ok (.bipush (-10), 2) := by decide +kernel
theorem dX13_joinDeed_69 : decode cX13_joinDeed 69 = .ok (.ireturn, 1) := by decide +kernel
theorem dX13_joinDeed_70 : decode cX13_joinDeed 70 = .ok (.aload_n 0, 1) := by decide +kernel
theorem dX13_joinDeed_71 : decode cX13_joinDeed 71 = .ok (.iconst 1, 1) := by decide +kernel
theorem dX13_joinDeed_72 : decode cX13_joinDeed 72 = .ok (.aload_n 0, 1) := by decide +kernel
theorem dX13_joinDeed_73 : decode cX13_joinDeed 73 = .ok (.getfield 23, 3) := by decide +kernel
theorem dX13_joinDeed_76 : decode cX13_joinDeed 76 = .ok (.iload 5, 2) := by decide +kernel
theorem dX13_joinDeed_78 : decode cX13_joinDeed 78 = .ok (.iaload, 1) := by decide +kernel
theorem dX13_joinDeed_79 : decode cX13_joinDeed 79 = .ok (.ishl, 1) := by decide +kernel
theorem dX13_joinDeed_80 : decode cX13_joinDeed 80 = .ok (.iconst 1, 1) := by decide +kernel
theorem dX13_joinDeed_81 : decode cX13_joinDeed 81 = .ok (.aload_n 0, 1) := by decide +kernel
theorem dX13_joinDeed_82 : decode cX13_joinDeed 82 = .ok (.getfield 23, 3) := by decide +kernel
theorem dX13_joinDeed_85 : decode cX13_joinDeed 85 = .ok (.iload 6, 2) := by decide +kernel
theorem dX13_joinDeed_87 : decode cX13_joinDeed 87 = .ok (.iaload, 1) := by decide +kernel
theorem dX13_joinDeed_88 : decode cX13_joinDeed 88 = .ok (.ishl, 1) := by decide +kernel
theorem dX13_joinDeed_89 : decode cX13_joinDeed 89 = .ok (.ior, 1) := by decide +kernel
theorem dX13_joinDeed_90 : decode cX13_joinDeed 90 = .ok (.invokestatic 294, 3) := by decide +kernel
theorem dX13_joinDeed_93 : decode cX13_joinDeed 93 = .ok (.iload 7, 2) := by decide +kernel
theorem dX13_joinDeed_95 : decode cX13_joinDeed 95 = .ok (.aload_n 0, 1) := by decide +kernel
theorem dX13_joinDeed_96 : decode cX13_joinDeed 96 = .ok (.getfield 26, 3) := by decide +kernel
theorem dX13_joinDeed_99 : decode cX13_joinDeed 99 = .ok (.iload 6, 2) := by decide +kernel
theorem dX13_joinDeed_101 : decode cX13_joinDeed 101 = .ok (.iaload, 1) := by decide +kernel
theorem dX13_joinDeed_102 : decode cX13_joinDeed 102 = .ok (.iadd, 1) := by decide +kernel
theorem dX13_joinDeed_103 : decode cX13_joinDeed 103 = .ok (.invokevirtual 155, 3) := by decide +kernel
theorem dX13_joinDeed_106 : decode cX13_joinDeed 106 = .ok (.istore 8, 2) := by decide +kernel
theorem dX13_joinDeed_108 : decode cX13_joinDeed 108 = .ok (.iconst 0, 1) := by decide +kernel
theorem dX13_joinDeed_109 : decode cX13_joinDeed 109 = .ok (.istore 9, 2) := by decide +kernel
theorem dX13_joinDeed_111 : decode cX13_joinDeed 111 = .ok (.iload 9, 2) := by decide +kernel
theorem dX13_joinDeed_113 : decode cX13_joinDeed 113 = .ok (.aload_n 0, 1) := by decide +kernel
theorem dX13_joinDeed_114 : decode cX13_joinDeed 114 = .ok (.getfield 26, 3) := by decide +kernel
theorem dX13_joinDeed_117 : decode cX13_joinDeed 117 = .ok (.iload 8, 2) := by decide +kernel
theorem dX13_joinDeed_119 : decode cX13_joinDeed 119 = .ok (.iaload, 1) := by decide +kernel
theorem dX13_joinDeed_120 : decode cX13_joinDeed 120 = .ok (.if_icmp .ge 48, 3) := by decide +kernel
theorem dX13_joinDeed_123 : decode cX13_joinDeed 123 = .ok (.aload_n 0, 1) := by decide +kernel
theorem dX13_joinDeed_124 : decode cX13_joinDeed 124 = .ok (.iload 9, 2) := by decide +kernel
theorem dX13_joinDeed_126 : decode cX13_joinDeed 126 = .ok (.iload 7, 2) := by decide +kernel
theorem dX13_joinDeed_128 : decode cX13_joinDeed 128 = .ok (.if_icmp .ge 8, 3) := by decide +kernel
theorem dX13_joinDeed_131 : decode cX13_joinDeed 131 = .ok (.iload 5, 2) := by decide +kernel
theorem dX13_joinDeed_133 : decode cX13_joinDeed 133 = .ok (.goto 5, 3) := by decide +kernel
theorem dX13_joinDeed_136 : decode cX13_joinDeed 136 = .ok (.iload 6, 2) := by decide +kernel
theorem dX13_joinDeed_138 : decode cX13_joinDeed 138 = .ok (.iload 9, 2) := by decide +kernel
theorem dX13_joinDeed_140 : decode cX13_joinDeed 140 = .ok (.iload 7, 2) := by decide +kernel
theorem dX13_joinDeed_142 : decode cX13_joinDeed 142 = .ok (.if_icmp .ge 8, 3) := by decide +kernel
theorem dX13_joinDeed_145 : decode cX13_joinDeed 145 = .ok (.iload 9, 2) := by decide +kernel
theorem dX13_joinDeed_147 : decode cX13_joinDeed 147 = .ok (.goto 8, 3) := by decide +kernel
theorem dX13_joinDeed_150 : decode cX13_joinDeed 150 = .ok (.iload 9, 2) := by decide +kernel
theorem dX13_joinDeed_152 : decode cX13_joinDeed 152 = .ok (.iload 7, 2) := by decide +kernel
theorem dX13_joinDeed_154 : decode cX13_joinDeed 154 = .ok (.isub, 1) := by decide +kernel
theorem dX13_joinDeed_155 : decode cX13_joinDeed 155 = .ok (.iload 8, 2) := by decide +kernel
theorem dX13_joinDeed_157 : decode cX13_joinDeed 157 = .ok (.iload 9, 2) := by decide +kernel
theorem dX13_joinDeed_159 : decode cX13_joinDeed 159 = .ok (.invokevirtual 280, 3) := by decide +kernel
theorem dX13_joinDeed_162 : decode cX13_joinDeed 162 = .ok (.iinc 9 1, 3) := by decide +kernel
theorem dX13_joinDeed_165 : decode cX13_joinDeed 165 = .ok (.goto (-54), 3) := by decide +kernel
theorem dX13_joinDeed_168 : decode cX13_joinDeed 168 = .ok (.aload_n 0, 1) := by decide +kernel
theorem dX13_joinDeed_169 : decode cX13_joinDeed 169 = .ok (.iload_n 1, 1) := by decide +kernel
theorem dX13_joinDeed_170 : decode cX13_joinDeed 170 = .ok (.iload_n 2, 1) := by decide +kernel
theorem dX13_joinDeed_171 : decode cX13_joinDeed 171 = .ok (.iload 8, 2) := by decide +kernel
theorem dX13_joinDeed_173 : decode cX13_joinDeed 173 = .ok (.invokevirtual 145, 3) := by decide +kernel
theorem dX13_joinDeed_176 : decode cX13_joinDeed 176 = .ok (.aload_n 0, 1) := by decide +kernel
theorem dX13_joinDeed_177 : decode cX13_joinDeed 177 = .ok (.getfield 26, 3) := by decide +kernel
theorem dX13_joinDeed_180 : decode cX13_joinDeed 180 = .ok (.iload 8, 2) := by decide +kernel
theorem dX13_joinDeed_182 : decode cX13_joinDeed 182 = .ok (.iaload, 1) := by decide +kernel
theorem dX13_joinDeed_183 : decode cX13_joinDeed 183 = .ok (.ireturn, 1) := by decide +kernel
theorem dX13_join_0 : decode cX13_join 0 = .ok (.aload_n 0, 1) := by decide +kernel
theorem dX13_join_1 : decode cX13_join 1 = .ok (.aload_n 0, 1) := by decide +kernel
theorem dX13_join_2 : decode cX13_join 2 = .ok (.iload_n 1, 1) := by decide +kernel
theorem dX13_join_3 : decode cX13_join 3 = .ok (.iload_n 2, 1) := by decide +kernel
theorem dX13_join_4 : decode cX13_join 4 = .ok (.iload_n 3, 1) := by decide +kernel
theorem dX13_join_5 : decode cX13_join 5 = .ok (.invokevirtual 297, 3) := by decide +kernel
theorem dX13_join_8 : decode cX13_join 8 = .ok (.invokevirtual 137, 3) := by decide +kernel
theorem dX13_join_11 : decode cX13_join 11 = .ok (.ireturn, 1) := by decide +kernel
theorem dX13_laysBy_0 : decode cX13_laysBy 0 = .ok (.iconst 0, 1) := by decide +kernel
theorem dX13_laysBy_1 : decode cX13_laysBy 1 = .ok (.istore_n 2, 1) := by decide +kernel
theorem dX13_laysBy_2 : decode cX13_laysBy 2 = .ok (.iload_n 2, 1) := by decide +kernel
theorem dX13_laysBy_3 : decode cX13_laysBy 3 = .ok (.bipush 12, 2) := by decide +kernel
theorem dX13_laysBy_5 : decode cX13_laysBy 5 = .ok (.if_icmp .ge 60, 3) := by decide +kernel
theorem dX13_laysBy_8 : decode cX13_laysBy 8 = .ok (.aload_n 0, 1) := by decide +kernel
theorem dX13_laysBy_9 : decode cX13_laysBy 9 = .ok (.getfield 43, 3) := by decide +kernel
theorem dX13_laysBy_12 : decode cX13_laysBy 12 = .ok (.iload_n 2, 1) := by decide +kernel
theorem dX13_laysBy_13 : decode cX13_laysBy 13 = .ok (.aload_n 0, 1) := by decide +kernel
theorem dX13_laysBy_14 : decode cX13_laysBy 14 = .ok (.getfield 32, 3) := by decide +kernel
theorem dX13_laysBy_17 : decode cX13_laysBy 17 = .ok (.bipush 12, 2) := by decide +kernel
theorem dX13_laysBy_19 : decode cX13_laysBy 19 = .ok (.iload_n 1, 1) := by decide +kernel
theorem dX13_laysBy_20 : decode cX13_laysBy 20 = .ok (.imul, 1) := by decide +kernel
theorem dX13_laysBy_21 : decode cX13_laysBy 21 = .ok (.iload_n 2, 1) := by decide +kernel
theorem dX13_laysBy_22 : decode cX13_laysBy 22 = .ok (.iadd, 1) := by decide +kernel
theorem dX13_laysBy_23 : decode cX13_laysBy 23 = .ok (.iaload, 1) := by decide +kernel
theorem dX13_laysBy_24 : decode cX13_laysBy 24 = .ok (.iastore, 1) := by decide +kernel
theorem dX13_laysBy_25 : decode cX13_laysBy 25 = .ok (.aload_n 0, 1) := by decide +kernel
theorem dX13_laysBy_26 : decode cX13_laysBy 26 = .ok (.getfield 46, 3) := by decide +kernel
theorem dX13_laysBy_29 : decode cX13_laysBy 29 = .ok (.iload_n 2, 1) := by decide +kernel
theorem dX13_laysBy_30 : decode cX13_laysBy 30 = .ok (.aload_n 0, 1) := by decide +kernel
theorem dX13_laysBy_31 : decode cX13_laysBy 31 = .ok (.getfield 35, 3) := by decide +kernel
theorem dX13_laysBy_34 : decode cX13_laysBy 34 = .ok (.bipush 12, 2) := by decide +kernel
theorem dX13_laysBy_36 : decode cX13_laysBy 36 = .ok (.iload_n 1, 1) := by decide +kernel
theorem dX13_laysBy_37 : decode cX13_laysBy 37 = .ok (.imul, 1) := by decide +kernel
theorem dX13_laysBy_38 : decode cX13_laysBy 38 = .ok (.iload_n 2, 1) := by decide +kernel
theorem dX13_laysBy_39 : decode cX13_laysBy 39 = .ok (.iadd, 1) := by decide +kernel
theorem dX13_laysBy_40 : decode cX13_laysBy 40 = .ok (.laload, 1) := by decide +kernel
theorem dX13_laysBy_41 : decode cX13_laysBy 41 = .ok (.lastore, 1) := by decide +kernel
theorem dX13_laysBy_42 : decode cX13_laysBy 42 = .ok (.aload_n 0, 1) := by decide +kernel
theorem dX13_laysBy_43 : decode cX13_laysBy 43 = .ok (.getfield 49, 3) := by decide +kernel
theorem dX13_laysBy_46 : decode cX13_laysBy 46 = .ok (.iload_n 2, 1) := by decide +kernel
theorem dX13_laysBy_47 : decode cX13_laysBy 47 = .ok (.aload_n 0, 1) := by decide +kernel
theorem dX13_laysBy_48 : decode cX13_laysBy 48 = .ok (.getfield 39, 3) := by decide +kernel
theorem dX13_laysBy_51 : decode cX13_laysBy 51 = .ok (.bipush 12, 2) := by decide +kernel
theorem dX13_laysBy_53 : decode cX13_laysBy 53 = .ok (.iload_n 1, 1) := by decide +kernel
theorem dX13_laysBy_54 : decode cX13_laysBy 54 = .ok (.imul, 1) := by decide +kernel
theorem dX13_laysBy_55 : decode cX13_laysBy 55 = .ok (.iload_n 2, 1) := by decide +kernel
theorem dX13_laysBy_56 : decode cX13_laysBy 56 = .ok (.iadd, 1) := by decide +kernel
theorem dX13_laysBy_57 : decode cX13_laysBy 57 = .ok (.daload, 1) := by decide +kernel
theorem dX13_laysBy_58 : decode cX13_laysBy 58 = .ok (.dastore, 1) := by decide +kernel
theorem dX13_laysBy_59 : decode cX13_laysBy 59 = .ok (.iinc 2 1, 3) := by decide +kernel
theorem dX13_laysBy_62 : decode cX13_laysBy 62 = .ok (.goto (-60), 3) := by decide +kernel
theorem dX13_laysBy_65 : decode cX13_laysBy 65 = .ok (.return_, 1) := by decide +kernel
theorem dX13_fromBy_0 : decode cX13_fromBy 0 = .ok (.aload_n 0, 1) := by decide +kernel
theorem dX13_fromBy_1 : decode cX13_fromBy 1 = .ok (.aload_n 0, 1) := by decide +kernel
theorem dX13_fromBy_2 : decode cX13_fromBy 2 = .ok (.getfield 43, 3) := by decide +kernel
theorem dX13_fromBy_5 : decode cX13_fromBy 5 = .ok (.iload_n 1, 1) := by decide +kernel
theorem dX13_fromBy_6 : decode cX13_fromBy 6 = .ok (.iaload, 1) := by decide +kernel
theorem dX13_fromBy_7 : decode cX13_fromBy 7 = .ok (.putfield 190, 3) := by decide +kernel
theorem dX13_fromBy_10 : decode cX13_fromBy 10 = .ok (.aload_n 0, 1) := by decide +kernel
theorem dX13_fromBy_11 : decode cX13_fromBy 11 = .ok (.aload_n 0, 1) := by decide +kernel
theorem dX13_fromBy_12 : decode cX13_fromBy 12 = .ok (.getfield 46, 3) := by decide +kernel
theorem dX13_fromBy_15 : decode cX13_fromBy 15 = .ok (.iload_n 1, 1) := by decide +kernel
theorem dX13_fromBy_16 : decode cX13_fromBy 16 = .ok (.laload, 1) := by decide +kernel
theorem dX13_fromBy_17 : decode cX13_fromBy 17 = .ok (.putfield 197, 3) := by decide +kernel
theorem dX13_fromBy_20 : decode cX13_fromBy 20 = .ok (.aload_n 0, 1) := by decide +kernel
theorem dX13_fromBy_21 : decode cX13_fromBy 21 = .ok (.aload_n 0, 1) := by decide +kernel
theorem dX13_fromBy_22 : decode cX13_fromBy 22 = .ok (.getfield 49, 3) := by decide +kernel
theorem dX13_fromBy_25 : decode cX13_fromBy 25 = .ok (.iload_n 1, 1) := by decide +kernel
theorem dX13_fromBy_26 : decode cX13_fromBy 26 = .ok (.daload, 1) := by decide +kernel
theorem dX13_fromBy_27 : decode cX13_fromBy 27 = .ok (.putfield 193, 3) := by decide +kernel
theorem dX13_fromBy_30 : decode cX13_fromBy 30 = .ok (.aload_n 0, 1) := by decide +kernel
theorem dX13_fromBy_31 : decode cX13_fromBy 31 = .ok (.iload_n 2, 1) := by decide +kernel
theorem dX13_fromBy_32 : decode cX13_fromBy 32 = .ok (.iload_n 3, 1) := by decide +kernel
theorem dX13_fromBy_33 : decode cX13_fromBy 33 = .ok (.invokevirtual 216, 3) := by decide +kernel
theorem dX13_fromBy_36 : decode cX13_fromBy 36 = .ok (.return_, 1) := by decide +kernel
theorem dX13_flipDeed_0 : decode cX13_flipDeed 0 = .ok (.iload_n 1, 1) := by decide +kernel
theorem dX13_flipDeed_1 : decode cX13_flipDeed 1 = .ok (.invokestatic 134, 3) := by decide +kernel
theorem dX13_flipDeed_4 : decode cX13_flipDeed 4 = .ok (.ifCond .ne 5, 3) := by decide +kernel
theorem dX13_flipDeed_7 : decode cX13_flipDeed 7 = .ok (.iconst (-1), 1) := by decide +kernel
theorem dX13_flipDeed_8 : decode cX13_flipDeed 8 = .ok (.ireturn, 1) := by decide +kernel
theorem dX13_flipDeed_9 : decode cX13_flipDeed 9 = .ok (.aload_n 0, 1) := by decide +kernel
theorem dX13_flipDeed_10 : decode cX13_flipDeed 10 = .ok (.iload_n 1, 1) := by decide +kernel
theorem dX13_flipDeed_11 : decode cX13_flipDeed 11 = .ok (.iload_n 2, 1) := by decide +kernel
theorem dX13_flipDeed_12 : decode cX13_flipDeed 12 = .ok (.invokevirtual 131, 3) := by decide +kernel
theorem dX13_flipDeed_15 : decode cX13_flipDeed 15 = .ok (.istore_n 3, 1) := by decide +kernel
theorem dX13_flipDeed_16 : decode cX13_flipDeed 16 = .ok (.iload_n 3, 1) := by decide +kernel
theorem dX13_flipDeed_17 : decode cX13_flipDeed 17 = .ok (.ifCond .eq 5, 3) := by decide +kernel
theorem dX13_flipDeed_20 : decode cX13_flipDeed 20 = .ok (.iload_n 3, 1) := by decide +kernel
theorem dX13_flipDeed_21 : decode cX13_flipDeed 21 = .ok (.ireturn, 1) := by decide +kernel
theorem dX13_flipDeed_22 : decode cX13_flipDeed 22 = .ok (.aload_n 0, 1) := by decide +kernel
theorem dX13_flipDeed_23 : decode cX13_flipDeed 23 = .ok (.iload_n 1, 1) := by decide +kernel
theorem dX13_flipDeed_24 : decode cX13_flipDeed 24 = .ok (.iload_n 2, 1) := by decide +kernel
theorem dX13_flipDeed_25 : decode cX13_flipDeed 25 = .ok (.invokevirtual 128, 3) := by decide +kernel
theorem dX13_flipDeed_28 : decode cX13_flipDeed 28 = .ok (.istore 4, 2) := by decide +kernel
theorem dX13_flipDeed_30 : decode cX13_flipDeed 30 = .ok (.aload_n 0, 1) := by decide +kernel
theorem dX13_flipDeed_31 : decode cX13_flipDeed 31 = .ok (.iload 4, 2) := by decide +kernel
theorem dX13_flipDeed_33 : decode cX13_flipDeed 33 = .ok (.invokevirtual 300, 3) := by decide +kernel
theorem dX13_flipDeed_36 : decode cX13_flipDeed 36 = .ok (.iconst 0, 1) := by decide +kernel
theorem dX13_flipDeed_37 : decode cX13_flipDeed 37 = .ok (.istore 5, 2) := by decide +kernel
theorem dX13_flipDeed_39 : decode cX13_flipDeed 39 = .ok (.iload 5, 2) := by decide +kernel
theorem dX13_flipDeed_41 : decode cX13_flipDeed 41 = .ok (.aload_n 0, 1) := by decide +kernel
theorem dX13_flipDeed_42 : decode cX13_flipDeed 42 = .ok (.getfield 26, 3) := by decide +kernel
theorem dX13_flipDeed_45 : decode cX13_flipDeed 45 = .ok (.iload 4, 2) := by decide +kernel
theorem dX13_flipDeed_47 : decode cX13_flipDeed 47 = .ok (.iaload, 1) := by decide +kernel
theorem dX13_flipDeed_48 : decode cX13_flipDeed 48 = .ok (.if_icmp .ge 29, 3) := by decide +kernel
