theorem dX12_same_8 : decode cX12_same 8 = .ok (.iload 4, 2) := by decide +kernel
theorem dX12_same_10 : decode cX12_same 10 = .ok (.invokevirtual 115, 3) := by decide +kernel
theorem dX12_same_13 : decode cX12_same 13 = .ok (.invokevirtual 91, 3) := by decide +kernel
theorem dX12_same_16 : decode cX12_same 16 = .ok (.ireturn, 1) := by decide +kernel
theorem dX12_size_0 : decode cX12_size 0 = .ok (.aload_n 0, 1) := by decide +kernel
theorem dX12_size_1 : decode cX12_size 1 = .ok (.aload_n 0, 1) := by decide +kernel
theorem dX12_size_2 : decode cX12_size 2 = .ok (.getfield 10, 3) := by decide +kernel
theorem dX12_size_5 : decode cX12_size 5 = .ok (.iload_n 1, 1) := by decide +kernel
theorem dX12_size_6 : decode cX12_size 6 = .ok (.iload_n 2, 1) := by decide +kernel
theorem dX12_size_7 : decode cX12_size 7 = .ok (.invokevirtual 118, 3) := by decide +kernel
theorem dX12_size_10 : decode cX12_size 10 = .ok (.invokevirtual 91, 3) := by decide +kernel
theorem dX12_size_13 : decode cX12_size 13 = .ok (.ireturn, 1) := by decide +kernel
theorem dX12_read_0 : decode cX12_read 0 = .ok (.aload_n 0, 1) := by decide +kernel
theorem dX12_read_1 : decode cX12_read 1 = .ok (.aload_n 0, 1) := by decide +kernel
theorem dX12_read_2 : decode cX12_read 2 = .ok (.getfield 35, 3) := by decide +kernel
theorem dX12_read_5 : decode cX12_read 5 = .ok (.iload_n 1, 1) := by decide +kernel
theorem dX12_read_6 : decode cX12_read 6 = .ok (.iload_n 2, 1) := by decide +kernel
theorem dX12_read_7 : decode cX12_read 7 = .ok (.iload_n 3, 1) := by decide +kernel
theorem dX12_read_8 : decode cX12_read 8 = .ok (.iload 4, 2) := by decide +kernel
theorem dX12_read_10 : decode cX12_read 10 = .ok (.invokevirtual 121, 3) := by decide +kernel
theorem dX12_read_13 : decode cX12_read 13 = .ok (.invokevirtual 91, 3) := by decide +kernel
theorem dX12_read_16 : decode cX12_read 16 = .ok (.ireturn, 1) := by decide +kernel
theorem dX12_write_0 : decode cX12_write 0 = .ok (.aload_n 0, 1) := by decide +kernel
theorem dX12_write_1 : decode cX12_write 1 = .ok (.aload_n 0, 1) := by decide +kernel
theorem dX12_write_2 : decode cX12_write 2 = .ok (.getfield 35, 3) := by decide +kernel
theorem dX12_write_5 : decode cX12_write 5 = .ok (.iload_n 1, 1) := by decide +kernel
theorem dX12_write_6 : decode cX12_write 6 = .ok (.iload_n 2, 1) := by decide +kernel
theorem dX12_write_7 : decode cX12_write 7 = .ok (.iload_n 3, 1) := by decide +kernel
theorem dX12_write_8 : decode cX12_write 8 = .ok (.iload 4, 2) := by decide +kernel
theorem dX12_write_10 : decode cX12_write 10 = .ok (.lload 5, 2) := by decide +kernel
theorem dX12_write_12 : decode cX12_write 12 = .ok (.invokevirtual 124, 3) := by decide +kernel
theorem dX12_write_15 : decode cX12_write 15 = .ok (.invokevirtual 91, 3) := by decide +kernel
theorem dX12_write_18 : decode cX12_write 18 = .ok (.ireturn, 1) := by decide +kernel
theorem dX12_put_0 : decode cX12_put 0 = .ok (.aload_n 0, 1) := by decide +kernel
theorem dX12_put_1 : decode cX12_put 1 = .ok (.aload_n 0, 1) := by decide +kernel
theorem dX12_put_2 : decode cX12_put 2 = .ok (.getfield 35, 3) := by decide +kernel
theorem dX12_put_5 : decode cX12_put 5 = .ok (.iload_n 1, 1) := by decide +kernel
theorem dX12_put_6 : decode cX12_put 6 = .ok (.iload_n 2, 1) := by decide +kernel
theorem dX12_put_7 : decode cX12_put 7 = .ok (.iload_n 3, 1) := by decide +kernel
theorem dX12_put_8 : decode cX12_put 8 = .ok (.iload 4, 2) := by decide +kernel
theorem dX12_put_10 : decode cX12_put 10 = .ok (.lload 5, 2) := by decide +kernel
theorem dX12_put_12 : decode cX12_put 12 = .ok (.invokevirtual 128, 3) := by decide +kernel
theorem dX12_put_15 : decode cX12_put 15 = .ok (.invokevirtual 91, 3) := by decide +kernel
theorem dX12_put_18 : decode cX12_put 18 = .ok (.ireturn, 1) := by decide +kernel
theorem dX12_find_0 : decode cX12_find 0 = .ok (.aload_n 0, 1) := by decide +kernel
theorem dX12_find_1 : decode cX12_find 1 = .ok (.aload_n 0, 1) := by decide +kernel
theorem dX12_find_2 : decode cX12_find 2 = .ok (.getfield 35, 3) := by decide +kernel
theorem dX12_find_5 : decode cX12_find 5 = .ok (.iload_n 1, 1) := by decide +kernel
theorem dX12_find_6 : decode cX12_find 6 = .ok (.iload_n 2, 1) := by decide +kernel
theorem dX12_find_7 : decode cX12_find 7 = .ok (.iload_n 3, 1) := by decide +kernel
theorem dX12_find_8 : decode cX12_find 8 = .ok (.lload 4, 2) := by decide +kernel
theorem dX12_find_10 : decode cX12_find 10 = .ok (.invokevirtual 131, 3) := by decide +kernel
theorem dX12_find_13 : decode cX12_find 13 = .ok (.invokevirtual 91, 3) := by decide +kernel
theorem dX12_find_16 : decode cX12_find 16 = .ok (.ireturn, 1) := by decide +kernel
theorem dX12_alike_0 : decode cX12_alike 0 = .ok (.aload_n 0, 1) := by decide +kernel
theorem dX12_alike_1 : decode cX12_alike 1 = .ok (.aload_n 0, 1) := by decide +kernel
theorem dX12_alike_2 : decode cX12_alike 2 = .ok (.getfield 35, 3) := by decide +kernel
theorem dX12_alike_5 : decode cX12_alike 5 = .ok (.iload_n 1, 1) := by decide +kernel
theorem dX12_alike_6 : decode cX12_alike 6 = .ok (.iload_n 2, 1) := by decide +kernel
theorem dX12_alike_7 : decode cX12_alike 7 = .ok (.iload_n 3, 1) := by decide +kernel
theorem dX12_alike_8 : decode cX12_alike 8 = .ok (.iload 4, 2) := by decide +kernel
theorem dX12_alike_10 : decode cX12_alike 10 = .ok (.invokevirtual 135, 3) := by decide +kernel
theorem dX12_alike_13 : decode cX12_alike 13 = .ok (.invokevirtual 91, 3) := by decide +kernel
theorem dX12_alike_16 : decode cX12_alike 16 = .ok (.ireturn, 1) := by decide +kernel
theorem dX12_cut_0 : decode cX12_cut 0 = .ok (.aload_n 0, 1) := by decide +kernel
theorem dX12_cut_1 : decode cX12_cut 1 = .ok (.aload_n 0, 1) := by decide +kernel
theorem dX12_cut_2 : decode cX12_cut 2 = .ok (.getfield 35, 3) := by decide +kernel
theorem dX12_cut_5 : decode cX12_cut 5 = .ok (.iload_n 1, 1) := by decide +kernel
theorem dX12_cut_6 : decode cX12_cut 6 = .ok (.iload_n 2, 1) := by decide +kernel
theorem dX12_cut_7 : decode cX12_cut 7 = .ok (.iload_n 3, 1) := by decide +kernel
theorem dX12_cut_8 : decode cX12_cut 8 = .ok (.iload 4, 2) := by decide +kernel
theorem dX12_cut_10 : decode cX12_cut 10 = .ok (.iload 5, 2) := by decide +kernel
theorem dX12_cut_12 : decode cX12_cut 12 = .ok (.invokevirtual 138, 3) := by decide +kernel
theorem dX12_cut_15 : decode cX12_cut 15 = .ok (.invokevirtual 91, 3) := by decide +kernel
theorem dX12_cut_18 : decode cX12_cut 18 = .ok (.ireturn, 1) := by decide +kernel
theorem dX12_cast_0 : decode cX12_cast 0 = .ok (.aload_n 0, 1) := by decide +kernel
theorem dX12_cast_1 : decode cX12_cast 1 = .ok (.aload_n 0, 1) := by decide +kernel
theorem dX12_cast_2 : decode cX12_cast 2 = .ok (.getfield 35, 3) := by decide +kernel
theorem dX12_cast_5 : decode cX12_cast 5 = .ok (.iload_n 1, 1) := by decide +kernel
theorem dX12_cast_6 : decode cX12_cast 6 = .ok (.iload_n 2, 1) := by decide +kernel
theorem dX12_cast_7 : decode cX12_cast 7 = .ok (.iload_n 3, 1) := by decide +kernel
theorem dX12_cast_8 : decode cX12_cast 8 = .ok (.invokevirtual 142, 3) := by decide +kernel
theorem dX12_cast_11 : decode cX12_cast 11 = .ok (.invokevirtual 91, 3) := by decide +kernel
theorem dX12_cast_14 : decode cX12_cast 14 = .ok (.ireturn, 1) := by decide +kernel
theorem dX12_pour_0 : decode cX12_pour 0 = .ok (.aload_n 0, 1) := by decide +kernel
theorem dX12_pour_1 : decode cX12_pour 1 = .ok (.aload_n 0, 1) := by decide +kernel
theorem dX12_pour_2 : decode cX12_pour 2 = .ok (.getfield 35, 3) := by decide +kernel
theorem dX12_pour_5 : decode cX12_pour 5 = .ok (.iload_n 1, 1) := by decide +kernel
theorem dX12_pour_6 : decode cX12_pour 6 = .ok (.iload_n 2, 1) := by decide +kernel
theorem dX12_pour_7 : decode cX12_pour 7 = .ok (.iload_n 3, 1) := by decide +kernel
theorem dX12_pour_8 : decode cX12_pour 8 = .ok (.iload 4, 2) := by decide +kernel
theorem dX12_pour_10 : decode cX12_pour 10 = .ok (.invokevirtual 145, 3) := by decide +kernel
theorem dX12_pour_13 : decode cX12_pour 13 = .ok (.invokevirtual 91, 3) := by decide +kernel
theorem dX12_pour_16 : decode cX12_pour 16 = .ok (.ireturn, 1) := by decide +kernel
theorem dX12_join_0 : decode cX12_join 0 = .ok (.aload_n 0, 1) := by decide +kernel
theorem dX12_join_1 : decode cX12_join 1 = .ok (.aload_n 0, 1) := by decide +kernel
theorem dX12_join_2 : decode cX12_join 2 = .ok (.getfield 35, 3) := by decide +kernel
theorem dX12_join_5 : decode cX12_join 5 = .ok (.iload_n 1, 1) := by decide +kernel
theorem dX12_join_6 : decode cX12_join 6 = .ok (.iload_n 2, 1) := by decide +kernel
theorem dX12_join_7 : decode cX12_join 7 = .ok (.iload_n 3, 1) := by decide +kernel
theorem dX12_join_8 : decode cX12_join 8 = .ok (.invokevirtual 148, 3) := by decide +kernel
theorem dX12_join_11 : decode cX12_join 11 = .ok (.invokevirtual 91, 3) := by decide +kernel
theorem dX12_join_14 : decode cX12_join 14 = .ok (.ireturn, 1) := by decide +kernel
theorem dX12_flip_0 : decode cX12_flip 0 = .ok (.aload_n 0, 1) := by decide +kernel
theorem dX12_flip_1 : decode cX12_flip 1 = .ok (.aload_n 0, 1) := by decide +kernel
theorem dX12_flip_2 : decode cX12_flip 2 = .ok (.getfield 35, 3) := by decide +kernel
theorem dX12_flip_5 : decode cX12_flip 5 = .ok (.iload_n 1, 1) := by decide +kernel
theorem dX12_flip_6 : decode cX12_flip 6 = .ok (.iload_n 2, 1) := by decide +kernel
theorem dX12_flip_7 : decode cX12_flip 7 = .ok (.invokevirtual 151, 3) := by decide +kernel
theorem dX12_flip_10 : decode cX12_flip 10 = .ok (.invokevirtual 91, 3) := by decide +kernel
theorem dX12_flip_13 : decode cX12_flip 13 = .ok (.ireturn, 1) := by decide +kernel
theorem dX12_roll_0 : decode cX12_roll 0 = .ok (.aload_n 0, 1) := by decide +kernel
theorem dX12_roll_1 : decode cX12_roll 1 = .ok (.aload_n 0, 1) := by decide +kernel
theorem dX12_roll_2 : decode cX12_roll 2 = .ok (.getfield 35, 3) := by decide +kernel
theorem dX12_roll_5 : decode cX12_roll 5 = .ok (.iload_n 1, 1) := by decide +kernel
theorem dX12_roll_6 : decode cX12_roll 6 = .ok (.iload_n 2, 1) := by decide +kernel
theorem dX12_roll_7 : decode cX12_roll 7 = .ok (.iload_n 3, 1) := by decide +kernel
theorem dX12_roll_8 : decode cX12_roll 8 = .ok (.invokevirtual 154, 3) := by decide +kernel
theorem dX12_roll_11 : decode cX12_roll 11 = .ok (.invokevirtual 91, 3) := by decide +kernel
theorem dX12_roll_14 : decode cX12_roll 14 = .ok (.ireturn, 1) := by decide +kernel
theorem dX12_order_0 : decode cX12_order 0 = .ok (.aload_n 0, 1) := by decide +kernel
theorem dX12_order_1 : decode cX12_order 1 = .ok (.aload_n 0, 1) := by decide +kernel
theorem dX12_order_2 : decode cX12_order 2 = .ok (.getfield 35, 3) := by decide +kernel
theorem dX12_order_5 : decode cX12_order 5 = .ok (.iload_n 1, 1) := by decide +kernel
theorem dX12_order_6 : decode cX12_order 6 = .ok (.iload_n 2, 1) := by decide +kernel
theorem dX12_order_7 : decode cX12_order 7 = .ok (.invokevirtual 157, 3) := by decide +kernel
theorem dX12_order_10 : decode cX12_order 10 = .ok (.invokevirtual 91, 3) := by decide +kernel
theorem dX12_order_13 : decode cX12_order 13 = .ok (.ireturn, 1) := by decide +kernel
theorem dX12_add_0 : decode cX12_add 0 = .ok (.aload_n 0, 1) := by decide +kernel
theorem dX12_add_1 : decode cX12_add 1 = .ok (.aload_n 0, 1) := by decide +kernel
theorem dX12_add_2 : decode cX12_add 2 = .ok (.getfield 35, 3) := by decide +kernel
theorem dX12_add_5 : decode cX12_add 5 = .ok (.iload_n 1, 1) := by decide +kernel
theorem dX12_add_6 : decode cX12_add 6 = .ok (.iload_n 2, 1) := by decide +kernel
theorem dX12_add_7 : decode cX12_add 7 = .ok (.iload_n 3, 1) := by decide +kernel
theorem dX12_add_8 : decode cX12_add 8 = .ok (.iload 4, 2) := by decide +kernel
theorem dX12_add_10 : decode cX12_add 10 = .ok (.invokevirtual 160, 3) := by decide +kernel
theorem dX12_add_13 : decode cX12_add 13 = .ok (.invokevirtual 91, 3) := by decide +kernel
theorem dX12_add_16 : decode cX12_add 16 = .ok (.ireturn, 1) := by decide +kernel
theorem dX12_above_0 : decode cX12_above 0 = .ok (.aload_n 0, 1) := by decide +kernel
theorem dX12_above_1 : decode cX12_above 1 = .ok (.aload_n 0, 1) := by decide +kernel
theorem dX12_above_2 : decode cX12_above 2 = .ok (.getfield 35, 3) := by decide +kernel
theorem dX12_above_5 : decode cX12_above 5 = .ok (.iload_n 1, 1) := by decide +kernel
theorem dX12_above_6 : decode cX12_above 6 = .ok (.iload_n 2, 1) := by decide +kernel
theorem dX12_above_7 : decode cX12_above 7 = .ok (.iload_n 3, 1) := by decide +kernel
theorem dX12_above_8 : decode cX12_above 8 = .ok (.lload 4, 2) := by decide +kernel
theorem dX12_above_10 : decode cX12_above 10 = .ok (.iload 6, 2) := by decide +kernel
theorem dX12_above_12 : decode cX12_above 12 = .ok (.invokevirtual 163, 3) := by decide +kernel
theorem dX12_above_15 : decode cX12_above 15 = .ok (.invokevirtual 91, 3) := by decide +kernel
theorem dX12_above_18 : decode cX12_above 18 = .ok (.ireturn, 1) := by decide +kernel
theorem dX12_pick_0 : decode cX12_pick 0 = .ok (.aload_n 0, 1) := by decide +kernel
theorem dX12_pick_1 : decode cX12_pick 1 = .ok (.aload_n 0, 1) := by decide +kernel
theorem dX12_pick_2 : decode cX12_pick 2 = .ok (.getfield 35, 3) := by decide +kernel
theorem dX12_pick_5 : decode cX12_pick 5 = .ok (.iload_n 1, 1) := by decide +kernel
theorem dX12_pick_6 : decode cX12_pick 6 = .ok (.iload_n 2, 1) := by decide +kernel
theorem dX12_pick_7 : decode cX12_pick 7 = .ok (.iload_n 3, 1) := by decide +kernel
theorem dX12_pick_8 : decode cX12_pick 8 = .ok (.invokevirtual 167, 3) := by decide +kernel
theorem dX12_pick_11 : decode cX12_pick 11 = .ok (.invokevirtual 91, 3) := by decide +kernel
theorem dX12_pick_14 : decode cX12_pick 14 = .ok (.ireturn, 1) := by decide +kernel
theorem dX12_flat_0 : decode cX12_flat 0 = .ok (.aload_n 0, 1) := by decide +kernel
theorem dX12_flat_1 : decode cX12_flat 1 = .ok (.aload_n 0, 1) := by decide +kernel
theorem dX12_flat_2 : decode cX12_flat 2 = .ok (.getfield 42, 3) := by decide +kernel
theorem dX12_flat_5 : decode cX12_flat 5 = .ok (.iload_n 1, 1) := by decide +kernel
theorem dX12_flat_6 : decode cX12_flat 6 = .ok (.iload_n 2, 1) := by decide +kernel
theorem dX12_flat_7 : decode cX12_flat 7 = .ok (.iload_n 3, 1) := by decide +kernel
theorem dX12_flat_8 : decode cX12_flat 8 = .ok (.invokevirtual 170, 3) := by decide +kernel
theorem dX12_flat_11 : decode cX12_flat 11 = .ok (.invokevirtual 91, 3) := by decide +kernel
theorem dX12_flat_14 : decode cX12_flat 14 = .ok (.ireturn, 1) := by decide +kernel
theorem dX12_deal_0 : decode cX12_deal 0 = .ok (.aload_n 0, 1) := by decide +kernel
theorem dX12_deal_1 : decode cX12_deal 1 = .ok (.aload_n 0, 1) := by decide +kernel
theorem dX12_deal_2 : decode cX12_deal 2 = .ok (.getfield 42, 3) := by decide +kernel
theorem dX12_deal_5 : decode cX12_deal 5 = .ok (.iload_n 1, 1) := by decide +kernel
theorem dX12_deal_6 : decode cX12_deal 6 = .ok (.iload_n 2, 1) := by decide +kernel
theorem dX12_deal_7 : decode cX12_deal 7 = .ok (.iload_n 3, 1) := by decide +kernel
theorem dX12_deal_8 : decode cX12_deal 8 = .ok (.iload 4, 2) := by decide +kernel
theorem dX12_deal_10 : decode cX12_deal 10 = .ok (.invokevirtual 173, 3) := by decide +kernel
theorem dX12_deal_13 : decode cX12_deal 13 = .ok (.invokevirtual 91, 3) := by decide +kernel
theorem dX12_deal_16 : decode cX12_deal 16 = .ok (.ireturn, 1) := by decide +kernel
theorem dX12_turn_0 : decode cX12_turn 0 = .ok (.aload_n 0, 1) := by decide +kernel
theorem dX12_turn_1 : decode cX12_turn 1 = .ok (.aload_n 0, 1) := by decide +kernel
theorem dX12_turn_2 : decode cX12_turn 2 = .ok (.getfield 42, 3) := by decide +kernel
theorem dX12_turn_5 : decode cX12_turn 5 = .ok (.iload_n 1, 1) := by decide +kernel
theorem dX12_turn_6 : decode cX12_turn 6 = .ok (.iload_n 2, 1) := by decide +kernel
theorem dX12_turn_7 : decode cX12_turn 7 = .ok (.invokevirtual 176, 3) := by decide +kernel
theorem dX12_turn_10 : decode cX12_turn 10 = .ok (.invokevirtual 91, 3) := by decide +kernel
theorem dX12_turn_13 : decode cX12_turn 13 = .ok (.ireturn, 1) := by decide +kernel
theorem dX12_times_0 : decode cX12_times 0 = .ok (.aload_n 0, 1) := by decide +kernel
theorem dX12_times_1 : decode cX12_times 1 = .ok (.aload_n 0, 1) := by decide +kernel
theorem dX12_times_2 : decode cX12_times 2 = .ok (.getfield 42, 3) := by decide +kernel
theorem dX12_times_5 : decode cX12_times 5 = .ok (.iload_n 1, 1) := by decide +kernel
theorem dX12_times_6 : decode cX12_times 6 = .ok (.iload_n 2, 1) := by decide +kernel
theorem dX12_times_7 : decode cX12_times 7 = .ok (.iload_n 3, 1) := by decide +kernel
theorem dX12_times_8 : decode cX12_times 8 = .ok (.invokevirtual 179, 3) := by decide +kernel
theorem dX12_times_11 : decode cX12_times 11 = .ok (.invokevirtual 91, 3) := by decide +kernel
theorem dX12_times_14 : decode cX12_times 14 = .ok (.ireturn, 1) := by decide +kernel
theorem dX12_fold_0 : decode cX12_fold 0 = .ok (.aload_n 0, 1) := by decide +kernel
theorem dX12_fold_1 : decode cX12_fold 1 = .ok (.aload_n 0, 1) := by decide +kernel
theorem dX12_fold_2 : decode cX12_fold 2 = .ok (.getfield 49, 3) := by decide +kernel
theorem dX12_fold_5 : decode cX12_fold 5 = .ok (.iload_n 1, 1) := by decide +kernel
theorem dX12_fold_6 : decode cX12_fold 6 = .ok (.iload_n 2, 1) := by decide +kernel
theorem dX12_fold_7 : decode cX12_fold 7 = .ok (.iload_n 3, 1) := by decide +kernel
theorem dX12_fold_8 : decode cX12_fold 8 = .ok (.iload 4, 2) := by decide +kernel
theorem dX12_fold_10 : decode cX12_fold 10 = .ok (.iload 5, 2) := by decide +kernel
theorem dX12_fold_12 : decode cX12_fold 12 = .ok (.invokevirtual 182, 3) := by decide +kernel
theorem dX12_fold_15 : decode cX12_fold 15 = .ok (.invokevirtual 91, 3) := by decide +kernel
theorem dX12_fold_18 : decode cX12_fold 18 = .ok (.ireturn, 1) := by decide +kernel
theorem dX12_dot_0 : decode cX12_dot 0 = .ok (.aload_n 0, 1) := by decide +kernel
theorem dX12_dot_1 : decode cX12_dot 1 = .ok (.aload_n 0, 1) := by decide +kernel
theorem dX12_dot_2 : decode cX12_dot 2 = .ok (.getfield 49, 3) := by decide +kernel
theorem dX12_dot_5 : decode cX12_dot 5 = .ok (.iload_n 1, 1) := by decide +kernel
theorem dX12_dot_6 : decode cX12_dot 6 = .ok (.iload_n 2, 1) := by decide +kernel
theorem dX12_dot_7 : decode cX12_dot 7 = .ok (.iload_n 3, 1) := by decide +kernel
theorem dX12_dot_8 : decode cX12_dot 8 = .ok (.iload 4, 2) := by decide +kernel
theorem dX12_dot_10 : decode cX12_dot 10 = .ok (.iload 5, 2) := by decide +kernel
theorem dX12_dot_12 : decode cX12_dot 12 = .ok (.invokevirtual 185, 3) := by decide +kernel
theorem dX12_dot_15 : decode cX12_dot 15 = .ok (.invokevirtual 91, 3) := by decide +kernel
theorem dX12_dot_18 : decode cX12_dot 18 = .ok (.ireturn, 1) := by decide +kernel
theorem dX12_trail_0 : decode cX12_trail 0 = .ok (.aload_n 0, 1) := by decide +kernel
theorem dX12_trail_1 : decode cX12_trail 1 = .ok (.aload_n 0, 1) := by decide +kernel
theorem dX12_trail_2 : decode cX12_trail 2 = .ok (.getfield 56, 3) := by decide +kernel
theorem dX12_trail_5 : decode cX12_trail 5 = .ok (.iload_n 1, 1) := by decide +kernel
theorem dX12_trail_6 : decode cX12_trail 6 = .ok (.invokevirtual 188, 3) := by decide +kernel
theorem dX12_trail_9 : decode cX12_trail 9 = .ok (.invokevirtual 91, 3) := by decide +kernel
theorem dX12_trail_12 : decode cX12_trail 12 = .ok (.ireturn, 1) := by decide +kernel
theorem dX12_patch_0 : decode cX12_patch 0 = .ok (.aload_n 0, 1) := by decide +kernel
theorem dX12_patch_1 : decode cX12_patch 1 = .ok (.aload_n 0, 1) := by decide +kernel
theorem dX12_patch_2 : decode cX12_patch 2 = .ok (.getfield 63, 3) := by decide +kernel
theorem dX12_patch_5 : decode cX12_patch 5 = .ok (.iload_n 1, 1) := by decide +kernel
theorem dX12_patch_6 : decode cX12_patch 6 = .ok (.iload_n 2, 1) := by decide +kernel
theorem dX12_patch_7 : decode cX12_patch 7 = .ok (.iload_n 3, 1) := by decide +kernel
theorem dX12_patch_8 : decode cX12_patch 8 = .ok (.invokevirtual 191, 3) := by decide +kernel
theorem dX12_patch_11 : decode cX12_patch 11 = .ok (.invokevirtual 91, 3) := by decide +kernel
theorem dX12_patch_14 : decode cX12_patch 14 = .ok (.ireturn, 1) := by decide +kernel
theorem dX12_patches_0 : decode cX12_patches 0 = .ok (.aload_n 0, 1) := by decide +kernel
theorem dX12_patches_1 : decode cX12_patches 1 = .ok (.aload_n 0, 1) := by decide +kernel
theorem dX12_patches_2 : decode cX12_patches 2 = .ok (.getfield 63, 3) := by decide +kernel
theorem dX12_patches_5 : decode cX12_patches 5 = .ok (.iload_n 1, 1) := by decide +kernel
theorem dX12_patches_6 : decode cX12_patches 6 = .ok (.invokevirtual 194, 3) := by decide +kernel
theorem dX12_patches_9 : decode cX12_patches 9 = .ok (.invokevirtual 91, 3) := by decide +kernel
theorem dX12_patches_12 : decode cX12_patches 12 = .ok (.ireturn, 1) := by decide +kernel
theorem dX12_paint_0 : decode cX12_paint 0 = .ok (.aload_n 0, 1) := by decide +kernel
theorem dX12_paint_1 : decode cX12_paint 1 = .ok (.aload_n 0, 1) := by decide +kernel
theorem dX12_paint_2 : decode cX12_paint 2 = .ok (.getfield 63, 3) := by decide +kernel
theorem dX12_paint_5 : decode cX12_paint 5 = .ok (.iload_n 1, 1) := by decide +kernel
theorem dX12_paint_6 : decode cX12_paint 6 = .ok (.iload_n 2, 1) := by decide +kernel
theorem dX12_paint_7 : decode cX12_paint 7 = .ok (.iload_n 3, 1) := by decide +kernel
theorem dX12_paint_8 : decode cX12_paint 8 = .ok (.iload 4, 2) := by decide +kernel
theorem dX12_paint_10 : decode cX12_paint 10 = .ok (.lload 5, 2) := by decide +kernel
theorem dX12_paint_12 : decode cX12_paint 12 = .ok (.invokevirtual 197, 3) := by decide +kernel
theorem dX12_paint_15 : decode cX12_paint 15 = .ok (.invokevirtual 91, 3) := by decide +kernel
theorem dX12_paint_18 : decode cX12_paint 18 = .ok (.ireturn, 1) := by decide +kernel
theorem dX12_block_0 : decode cX12_block 0 = .ok (.aload_n 0, 1) := by decide +kernel
theorem dX12_block_1 : decode cX12_block 1 = .ok (.aload_n 0, 1) := by decide +kernel
theorem dX12_block_2 : decode cX12_block 2 = .ok (.getfield 56, 3) := by decide +kernel
theorem dX12_block_5 : decode cX12_block 5 = .ok (.iload_n 1, 1) := by decide +kernel
theorem dX12_block_6 : decode cX12_block 6 = .ok (.invokevirtual 200, 3) := by decide +kernel
theorem dX12_block_9 : decode cX12_block 9 = .ok (.invokevirtual 91, 3) := by decide +kernel
theorem dX12_block_12 : decode cX12_block 12 = .ok (.ireturn, 1) := by decide +kernel
theorem dX12_lies_0 : decode cX12_lies 0 = .ok (.aload_n 0, 1) := by decide +kernel
theorem dX12_lies_1 : decode cX12_lies 1 = .ok (.aload_n 0, 1) := by decide +kernel
theorem dX12_lies_2 : decode cX12_lies 2 = .ok (.getfield 56, 3) := by decide +kernel
theorem dX12_lies_5 : decode cX12_lies 5 = .ok (.iload_n 1, 1) := by decide +kernel
theorem dX12_lies_6 : decode cX12_lies 6 = .ok (.iload_n 2, 1) := by decide +kernel
theorem dX12_lies_7 : decode cX12_lies 7 = .ok (.iload_n 3, 1) := by decide +kernel
theorem dX12_lies_8 : decode cX12_lies 8 = .ok (.invokevirtual 203, 3) := by decide +kernel
theorem dX12_lies_11 : decode cX12_lies 11 = .ok (.invokevirtual 91, 3) := by decide +kernel
theorem dX12_lies_14 : decode cX12_lies 14 = .ok (.ireturn, 1) := by decide +kernel
theorem dX12_type_0 : decode cX12_type 0 = .ok (.aload_n 0, 1) := by decide +kernel
theorem dX12_type_1 : decode cX12_type 1 = .ok (.aload_n 0, 1) := by decide +kernel
theorem dX12_type_2 : decode cX12_type 2 = .ok (.getfield 70, 3) := by decide +kernel
theorem dX12_type_5 : decode cX12_type 5 = .ok (.iload_n 1, 1) := by decide +kernel
theorem dX12_type_6 : decode cX12_type 6 = .ok (.invokevirtual 206, 3) := by decide +kernel
theorem dX12_type_9 : decode cX12_type 9 = .ok (.invokevirtual 91, 3) := by decide +kernel
theorem dX12_type_12 : decode cX12_type 12 = .ok (.ireturn, 1) := by decide +kernel
theorem dX12_clear_0 : decode cX12_clear 0 = .ok (.aload_n 0, 1) := by decide +kernel
theorem dX12_clear_1 : decode cX12_clear 1 = .ok (.getfield 70, 3) := by decide +kernel
theorem dX12_clear_4 : decode cX12_clear 4 = .ok (.invokevirtual 209, 3) := by decide +kernel
theorem dX12_clear_7 : decode cX12_clear 7 = .ok (.ireturn, 1) := by decide +kernel
theorem dX12_plan_0 : decode cX12_plan 0 = .ok (.aload_n 0, 1) := by decide +kernel
theorem dX12_plan_1 : decode cX12_plan 1 = .ok (.getfield 70, 3) := by decide +kernel
theorem dX12_plan_4 : decode cX12_plan 4 = .ok (.invokevirtual 213, 3) := by decide +kernel
theorem dX12_plan_7 : decode cX12_plan 7 = .ok (.istore_n 1, 1) := by decide +kernel
theorem dX12_plan_8 : decode cX12_plan 8 = .ok (.aload_n 0, 1) := by decide +kernel
theorem dX12_plan_9 : decode cX12_plan 9 = .ok (.getfield 16, 3) := by decide +kernel
theorem dX12_plan_12 : decode cX12_plan 12 = .ok (.aload_n 0, 1) := by decide +kernel
theorem dX12_plan_13 : decode cX12_plan 13 = .ok (.getfield 10, 3) := by decide +kernel
theorem dX12_plan_16 : decode cX12_plan 16 = .ok (.invokevirtual 216, 3) := by decide +kernel
theorem dX12_plan_19 : decode cX12_plan 19 = .ok (.iconst 0, 1) := by decide +kernel
theorem dX12_plan_20 : decode cX12_plan 20 = .ok (.istore_n 2, 1) := by decide +kernel
theorem dX12_plan_21 : decode cX12_plan 21 = .ok (.iload_n 2, 1) := by decide +kernel
theorem dX12_plan_22 : decode cX12_plan 22 = .ok (.iload_n 1, 1) := by decide +kernel
theorem dX12_plan_23 : decode cX12_plan 23 = .ok (.if_icmp .ge 44, 3) := by decide +kernel
theorem dX12_plan_26 : decode cX12_plan 26 = .ok (.aload_n 0, 1) := by decide +kernel
theorem dX12_plan_27 : decode cX12_plan 27 = .ok (.iload_n 2, 1) := by decide +kernel
theorem dX12_plan_28 : decode cX12_plan 28 = .ok (.invokevirtual 220, 3) := by decide +kernel
theorem dX12_plan_31 : decode cX12_plan 31 = .ok (.istore_n 3, 1) := by decide +kernel
theorem dX12_plan_32 : decode cX12_plan 32 = .ok (.iload_n 3, 1) := by decide +kernel
theorem dX12_plan_33 : decode cX12_plan 33 = .ok (.ifCond .ge 28, 3) := by decide +kernel
theorem dX12_plan_36 : decode cX12_plan 36 = .ok (.aload_n 0, 1) := by decide +kernel
theorem dX12_plan_37 : decode cX12_plan 37 = .ok (.getfield 10, 3) := by decide +kernel
theorem dX12_plan_40 : decode cX12_plan 40 = .ok (.aload_n 0, 1) := by decide +kernel
theorem dX12_plan_41 : decode cX12_plan 41 = .ok (.getfield 16, 3) := by decide +kernel
theorem dX12_plan_44 : decode cX12_plan 44 = .ok (.invokevirtual 216, 3) := by decide +kernel
theorem dX12_plan_47 : decode cX12_plan 47 = .ok (.aload_n 0, 1) := by decide +kernel
theorem dX12_plan_48 : decode cX12_plan 48 = .ok (.getfield 26, 3) := by decide +kernel
theorem dX12_plan_51 : decode cX12_plan 51 = .ok (.iload_n 2, 1) := by decide +kernel
theorem dX12_plan_52 : decode cX12_plan 52 = .ok (.putfield 223, 3) := by decide +kernel
theorem dX12_plan_55 : decode cX12_plan 55 = .ok (.aload_n 0, 1) := by decide +kernel
theorem dX12_plan_56 : decode cX12_plan 56 = .ok (.iload_n 3, 1) := by decide +kernel
theorem dX12_plan_57 : decode cX12_plan 57 = .ok (.invokevirtual 91, 3) := by decide +kernel
theorem dX12_plan_60 : decode cX12_plan 60 = .ok (.ireturn, 1) := by decide +kernel
theorem dX12_plan_61 : decode cX12_plan 61 = .ok (.iinc 2 1, 3) := by decide +kernel
theorem dX12_plan_64 : decode cX12_plan 64 = .ok (.goto (-43), 3) := by decide +kernel
theorem dX12_plan_67 : decode cX12_plan 67 = .ok (.iload_n 1, 1) := by decide +kernel
theorem dX12_plan_68 : decode cX12_plan 68 = .ok (.ireturn, 1) := by decide +kernel
theorem dX12_least_0 : decode cX12_least 0 = .ok (.aload_n 0, 1) := by decide +kernel
theorem dX12_least_1 : decode cX12_least 1 = .ok (.iload_n 1, 1) := by decide +kernel
theorem dX12_least_2 : decode cX12_least 2 = .ok (.invokestatic 227, 3) := by decide +kernel
theorem dX12_least_5 : decode cX12_least 5 = .ok (.ifCond .eq 23, 3) := by decide +kernel
theorem dX12_least_8 : decode cX12_least 8 = .ok (.iload_n 2, 1) := by decide +kernel
theorem dX12_least_9 : decode cX12_least 9 = .ok (.invokestatic 227, 3) := by decide +kernel
theorem dX12_least_12 : decode cX12_least 12 = .ok (.ifCond .eq 16, 3) := by decide +kernel
theorem dX12_least_15 : decode cX12_least 15 = .ok (.iconst 1, 1) := by decide +kernel
theorem dX12_least_16 : decode cX12_least 16 = .ok (.iload_n 1, 1) := by decide +kernel
theorem dX12_least_17 : decode cX12_least 17 = .ok (.ishl, 1) := by decide +kernel
theorem dX12_least_18 : decode cX12_least 18 = .ok (.iconst 1, 1) := by decide +kernel
theorem dX12_least_19 : decode cX12_least 19 = .ok (.iload_n 2, 1) := by decide +kernel
theorem dX12_least_20 : decode cX12_least 20 = .ok (.ishl, 1) := by decide +kernel
theorem dX12_least_21 : decode cX12_least 21 = .ok (.ior, 1) := by decide +kernel
theorem dX12_least_22 : decode cX12_least 22 = .ok (.invokestatic 231, 3) := by decide +kernel
theorem dX12_least_25 : decode cX12_least 25 = .ok (.goto 4, 3) := by decide +kernel
theorem dX12_least_28 : decode cX12_least 28 = .ok (.iconst (-1), 1) := by decide +kernel
theorem dX12_least_29 : decode cX12_least 29 = .ok (.invokevirtual 91, 3) := by decide +kernel
theorem dX12_least_32 : decode cX12_least 32 = .ok (.ireturn, 1) := by decide +kernel
theorem dX12_fits_0 : decode cX12_fits 0 = .ok (.iload_n 1, 1) := by decide +kernel
theorem dX12_fits_1 : decode cX12_fits 1 = .ok (.invokestatic 234, 3) := by decide +kernel
theorem dX12_fits_4 : decode cX12_fits 4 = .ok (.ifCond .eq 10, 3) := by decide +kernel
theorem dX12_fits_7 : decode cX12_fits 7 = .ok (.iload_n 2, 1) := by decide +kernel
theorem dX12_fits_8 : decode cX12_fits 8 = .ok (.invokestatic 227, 3) := by decide +kernel
theorem dX12_fits_11 : decode cX12_fits 11 = .ok (.ifCond .ne 9, 3) := by decide +kernel
theorem dX12_fits_14 : decode cX12_fits 14 = .ok (.aload_n 0, 1) := by decide +kernel
theorem dX12_fits_15 : decode cX12_fits 15 = .ok (.iconst (-1), 1) := by decide +kernel
theorem dX12_fits_16 : decode cX12_fits 16 = .ok (.invokevirtual 91, 3) := by decide +kernel
theorem dX12_fits_19 : decode cX12_fits 19 = .ok (.ireturn, 1) := by decide +kernel
theorem dX12_fits_20 : decode cX12_fits 20 = .ok (.iload_n 1, 1) := by decide +kernel
theorem dX12_fits_21 : decode cX12_fits 21 = .ok (.iload_n 2, 1) := by decide +kernel
theorem dX12_fits_22 : decode cX12_fits 22 = .ok (.invokestatic 237, 3) := by decide +kernel
theorem dX12_fits_25 : decode cX12_fits 25 = .ok (.ifCond .eq 7, 3) := by decide +kernel
theorem dX12_fits_28 : decode cX12_fits 28 = .ok (.iconst 1, 1) := by decide +kernel
theorem dX12_fits_29 : decode cX12_fits 29 = .ok (.goto 4, 3) := by decide +kernel
theorem dX12_fits_32 : decode cX12_fits 32 = .ok (.iconst 0, 1) := by decide +kernel
theorem dX12_fits_33 : decode cX12_fits 33 = .ok (.ireturn, 1) := by decide +kernel
theorem dX12_sees_0 : decode cX12_sees 0 = .ok (.aload_n 0, 1) := by decide +kernel
theorem dX12_sees_1 : decode cX12_sees 1 = .ok (.aload_n 0, 1) := by decide +kernel
theorem dX12_sees_2 : decode cX12_sees 2 = .ok (.getfield 79, 3) := by decide +kernel
theorem dX12_sees_5 : decode cX12_sees 5 = .ok (.iload_n 1, 1) := by decide +kernel
theorem dX12_sees_6 : decode cX12_sees 6 = .ok (.iload_n 2, 1) := by decide +kernel
theorem dX12_sees_7 : decode cX12_sees 7 = .ok (.invokevirtual 241, 3) := by decide +kernel
theorem dX12_sees_10 : decode cX12_sees 10 = .ok (.invokevirtual 91, 3) := by decide +kernel
theorem dX12_sees_13 : decode cX12_sees 13 = .ok (.ireturn, 1) := by decide +kernel
theorem dX12_forget_0 : decode cX12_forget 0 = .ok (.aload_n 0, 1) := by decide +kernel
theorem dX12_forget_1 : decode cX12_forget 1 = .ok (.getfield 79, 3) := by decide +kernel
theorem dX12_forget_4 : decode cX12_forget 4 = .ok (.invokevirtual 244, 3) := by decide +kernel
theorem dX12_forget_7 : decode cX12_forget 7 = .ok (.ireturn, 1) := by decide +kernel
theorem dX12_left_0 : decode cX12_left 0 = .ok (.aload_n 0, 1) := by decide +kernel
theorem dX12_left_1 : decode cX12_left 1 = .ok (.getfield 79, 3) := by decide +kernel
theorem dX12_left_4 : decode cX12_left 4 = .ok (.invokevirtual 247, 3) := by decide +kernel
theorem dX12_left_7 : decode cX12_left 7 = .ok (.ireturn, 1) := by decide +kernel
theorem dX12_next_0 : decode cX12_next 0 = .ok (.aload_n 0, 1) := by decide +kernel
theorem dX12_next_1 : decode cX12_next 1 = .ok (.getfield 79, 3) := by decide +kernel
theorem dX12_next_4 : decode cX12_next 4 = .ok (.invokevirtual 250, 3) := by decide +kernel
theorem dX12_next_7 : decode cX12_next 7 = .ok (.ireturn, 1) := by decide +kernel
theorem dX12_keep_0 : decode cX12_keep 0 = .ok (.iload_n 1, 1) := by decide +kernel
theorem dX12_keep_1 : decode cX12_keep 1 = .ok (.invokestatic 253, 3) := by decide +kernel
theorem dX12_keep_4 : decode cX12_keep 4 = .ok (.ifCond .ne 9, 3) := by decide +kernel
theorem dX12_keep_7 : decode cX12_keep 7 = .ok (.aload_n 0, 1) := by decide +kernel
theorem dX12_keep_8 : decode cX12_keep 8 = .ok (.iconst (-1), 1) := by decide +kernel
theorem dX12_keep_9 : decode cX12_keep 9 = .ok (.invokevirtual 91, 3) := by decide +kernel
theorem dX12_keep_12 : decode cX12_keep 12 = .ok (.ireturn, 1) := by decide +kernel
theorem dX12_keep_13 : decode cX12_keep 13 = .ok (.aload_n 0, 1) := by decide +kernel
theorem dX12_keep_14 : decode cX12_keep 14 = .ok (.getfield 19, 3) := by decide +kernel
theorem dX12_keep_17 : decode cX12_keep 17 = .ok (.iload_n 1, 1) := by decide +kernel
theorem dX12_keep_18 : decode cX12_keep 18 = .ok (.aaload, 1) := by decide +kernel
theorem dX12_keep_19 : decode cX12_keep 19 = .ok (.ifnonnull 16, 3) := by decide +kernel
theorem dX12_keep_22 : decode cX12_keep 22 = .ok (.aload_n 0, 1) := by decide +kernel
theorem dX12_keep_23 : decode cX12_keep 23 = .ok (.getfield 19, 3) := by decide +kernel
theorem dX12_keep_26 : decode cX12_keep 26 = .ok (.iload_n 1, 1) := by decide +kernel
theorem dX12_keep_27 : decode cX12_keep 27 = .ok (.new 7, 3) := by decide +kernel
theorem dX12_keep_30 : decode cX12_keep 30 = .ok (.dup, 1) := by decide +kernel
theorem dX12_keep_31 : decode cX12_keep 31 = .ok (.invokespecial 9, 3) := by decide +kernel
theorem dX12_keep_34 : decode cX12_keep 34 = .ok (.aastore, 1) := by decide +kernel
theorem dX12_keep_35 : decode cX12_keep 35 = .ok (.aload_n 0, 1) := by decide +kernel
theorem dX12_keep_36 : decode cX12_keep 36 = .ok (.getfield 19, 3) := by decide +kernel
theorem dX12_keep_39 : decode cX12_keep 39 = .ok (.iload_n 1, 1) := by decide +kernel
theorem dX12_keep_40 : decode cX12_keep 40 = .ok (.aaload, 1) := by decide +kernel
theorem dX12_keep_41 : decode cX12_keep 41 = .ok (.aload_n 0, 1) := by decide +kernel
theorem dX12_keep_42 : decode cX12_keep 42 = .ok (.getfield 10, 3) := by decide +kernel
theorem dX12_keep_45 : decode cX12_keep 45 = .ok (.invokevirtual 216, 3) := by decide +kernel
theorem dX12_keep_48 : decode cX12_keep 48 = .ok (.aload_n 0, 1) := by decide +kernel
theorem dX12_keep_49 : decode cX12_keep 49 = .ok (.getfield 10, 3) := by decide +kernel
theorem dX12_keep_52 : decode cX12_keep 52 = .ok (.invokevirtual 256, 3) := by decide +kernel
theorem dX12_keep_55 : decode cX12_keep 55 = .ok (.ireturn, 1) := by decide +kernel
theorem dX12_back_0 : decode cX12_back 0 = .ok (.iload_n 1, 1) := by decide +kernel
theorem dX12_back_1 : decode cX12_back 1 = .ok (.invokestatic 253, 3) := by decide +kernel
theorem dX12_back_4 : decode cX12_back 4 = .ok (.ifCond .ne 9, 3) := by decide +kernel
theorem dX12_back_7 : decode cX12_back 7 = .ok (.aload_n 0, 1) := by decide +kernel
theorem dX12_back_8 : decode cX12_back 8 = .ok (.iconst (-1), 1) := by decide +kernel
theorem dX12_back_9 : decode cX12_back 9 = .ok (.invokevirtual 91, 3) := by decide +kernel
theorem dX12_back_12 : decode cX12_back 12 = .ok (.ireturn, 1) := by decide +kernel
theorem dX12_back_13 : decode cX12_back 13 = .ok (.aload_n 0, 1) := by decide +kernel
theorem dX12_back_14 : decode cX12_back 14 = .ok (.getfield 19, 3) := by decide +kernel
theorem dX12_back_17 : decode cX12_back 17 = .ok (.iload_n 1, 1) := by decide +kernel
theorem dX12_back_18 : decode cX12_back 18 = .ok (.aaload, 1) := by decide +kernel
theorem dX12_back_19 : decode cX12_back 19 = .ok (.ifnonnull 10, 3) := by decide +kernel
theorem dX12_back_22 : decode cX12_back 22 = .ok (.aload_n 0, 1) := by decide +kernel
theorem dX12_back_23 : decode cX12_back 23 = .ok (.bipush (-2), 2) := by decide +kernel
theorem dX12_back_25 : decode cX12_back 25 = .ok (.invokevirtual 91, 3) := by decide +kernel
theorem dX12_back_28 : decode cX12_back 28 = .ok (.ireturn, 1) := by decide +kernel
theorem dX12_back_29 : decode cX12_back 29 = .ok (.aload_n 0, 1) := by decide +kernel
theorem dX12_back_30 : decode cX12_back 30 = .ok (.getfield 10, 3) := by decide +kernel
theorem dX12_back_33 : decode cX12_back 33 = .ok (.aload_n 0, 1) := by decide +kernel
theorem dX12_back_34 : decode cX12_back 34 = .ok (.getfield 19, 3) := by decide +kernel
theorem dX12_back_37 : decode cX12_back 37 = .ok (.iload_n 1, 1) := by decide +kernel
theorem dX12_back_38 : decode cX12_back 38 = .ok (.aaload, 1) := by decide +kernel
theorem dX12_back_39 : decode cX12_back 39 = .ok (.invokevirtual 216, 3) := by decide +kernel
theorem dX12_back_42 : decode cX12_back 42 = .ok (.aload_n 0, 1) := by decide +kernel
theorem dX12_back_43 : decode cX12_back 43 = .ok (.getfield 10, 3) := by decide +kernel
theorem dX12_back_46 : decode cX12_back 46 = .ok (.invokevirtual 256, 3) := by decide +kernel
theorem dX12_back_49 : decode cX12_back 49 = .ok (.ireturn, 1) := by decide +kernel
theorem dX12_told_0 : decode cX12_told 0 = .ok (.aload_n 0, 1) := by decide +kernel
theorem dX12_told_1 : decode cX12_told 1 = .ok (.getfield 26, 3) := by decide +kernel
theorem dX12_told_4 : decode cX12_told 4 = .ok (.getfield 259, 3) := by decide +kernel
theorem dX12_told_7 : decode cX12_told 7 = .ok (.lreturn, 1) := by decide +kernel
theorem dX12_first_0 : decode cX12_first 0 = .ok (.aload_n 0, 1) := by decide +kernel
theorem dX12_first_1 : decode cX12_first 1 = .ok (.getfield 26, 3) := by decide +kernel
theorem dX12_first_4 : decode cX12_first 4 = .ok (.getfield 223, 3) := by decide +kernel
theorem dX12_first_7 : decode cX12_first 7 = .ok (.ireturn, 1) := by decide +kernel
theorem dX12_passed_0 : decode cX12_passed 0 = .ok (.aload_n 0, 1) := by decide +kernel
theorem dX12_passed_1 : decode cX12_passed 1 = .ok (.getfield 26, 3) := by decide +kernel
theorem dX12_passed_4 : decode cX12_passed 4 = .ok (.getfield 263, 3) := by decide +kernel
theorem dX12_passed_7 : decode cX12_passed 7 = .ok (.ireturn, 1) := by decide +kernel
theorem dX12_refusals_0 : decode cX12_refusals 0 = .ok (.iload_n 1, 1) := by decide +kernel
theorem dX12_refusals_1 : decode cX12_refusals 1 = .ok (.bipush (-10), 2) := by decide +kernel
theorem dX12_refusals_3 : decode cX12_refusals 3 = .ok (.if_icmp .lt 14, 3) := by decide +kernel
theorem dX12_refusals_6 : decode cX12_refusals 6 = .ok (.iload_n 1, 1) := by decide +kernel
theorem dX12_refusals_7 : decode cX12_refusals 7 = .ok (.iconst (-1), 1) := by decide +kernel
theorem dX12_refusals_8 : decode cX12_refusals 8 = .ok (.if_icmp .gt 9, 3) := by decide +kernel
theorem dX12_refusals_11 : decode cX12_refusals 11 = .ok (.iload_n 1, 1) := by decide +kernel
theorem dX12_refusals_12 : decode cX12_refusals 12 = .ok (.bipush (-9), 2) := by decide +kernel
theorem dX12_refusals_14 : decode cX12_refusals 14 = .ok (.if_icmp .ne 5, 3) := by decide +kernel
theorem dX12_refusals_17 : decode cX12_refusals 17 = .ok (.iconst (-1), 1) := by decide +kernel
theorem dX12_refusals_18 : decode cX12_refusals 18 = .ok (.ireturn, 1) := by decide +kernel
theorem dX12_refusals_19 : decode cX12_refusals 19 = .ok (.aload_n 0, 1) := by decide +kernel
theorem dX12_refusals_20 : decode cX12_refusals 20 = .ok (.getfield 83, 3) := by decide +kernel
theorem dX12_refusals_23 : decode cX12_refusals 23 = .ok (.iload_n 1, 1) := by decide +kernel
theorem dX12_refusals_24 : decode cX12_refusals 24 = .ok (.ineg, 1) := by decide +kernel
theorem dX12_refusals_25 : decode cX12_refusals 25 = .ok (.iaload, 1) := by decide +kernel
theorem dX12_refusals_26 : decode cX12_refusals 26 = .ok (.ireturn, 1) := by decide +kernel
theorem dX12_count_0 : decode cX12_count 0 = .ok (.iload_n 1, 1) := by decide +kernel
theorem dX12_count_1 : decode cX12_count 1 = .ok (.lookupswitch 40 #[(8, 27), (9, 35)], 27) := by decide +kernel
theorem dX12_count_28 : decode cX12_count 28 = .ok (.aload_n 0, 1) := by decide +kernel
theorem dX12_count_29 : decode cX12_count 29 = .ok (.getfield 70, 3) := by decide +kernel
theorem dX12_count_32 : decode cX12_count 32 = .ok (.getfield 266, 3) := by decide +kernel
theorem dX12_count_35 : decode cX12_count 35 = .ok (.ireturn, 1) := by decide +kernel
theorem dX12_count_36 : decode cX12_count 36 = .ok (.aload_n 0, 1) := by decide +kernel
theorem dX12_count_37 : decode cX12_count 37 = .ok (.invokevirtual 269, 3) := by decide +kernel
theorem dX12_count_40 : decode cX12_count 40 = .ok (.ireturn, 1) := by decide +kernel
theorem dX12_count_41 : decode cX12_count 41 = .ok (.iload_n 1, 1) := by decide +kernel
theorem dX12_count_42 : decode cX12_count 42 = .ok (.ifCond .lt 9, 3) := by decide +kernel
theorem dX12_count_45 : decode cX12_count 45 = .ok (.iload_n 1, 1) := by decide +kernel
theorem dX12_count_46 : decode cX12_count 46 = .ok (.bipush 9, 2) := by decide +kernel
theorem dX12_count_48 : decode cX12_count 48 = .ok (.if_icmp .le 7, 3) := by decide +kernel
theorem dX12_count_51 : decode cX12_count 51 = .ok (.iconst (-1), 1) := by decide +kernel
theorem dX12_count_52 : decode cX12_count 52 = .ok (.goto 11, 3) := by decide +kernel
theorem dX12_count_55 : decode cX12_count 55 = .ok (.aload_n 0, 1) := by decide +kernel
theorem dX12_count_56 : decode cX12_count 56 = .ok (.getfield 10, 3) := by decide +kernel
theorem dX12_count_59 : decode cX12_count 59 = .ok (.iload_n 1, 1) := by decide +kernel
theorem dX12_count_60 : decode cX12_count 60 = .ok (.invokevirtual 272, 3) := by decide +kernel
theorem dX12_count_63 : decode cX12_count 63 = .ok (.ireturn, 1) := by decide +kernel
theorem dX12_kinds_0 : decode cX12_kinds 0 = .ok (.iload_n 1, 1) := by decide +kernel
theorem dX12_kinds_1 : decode cX12_kinds 1 = .ok (.invokestatic 227, 3) := by decide +kernel
theorem dX12_kinds_4 : decode cX12_kinds 4 = .ok (.ifCond .eq 14, 3) := by decide +kernel
theorem dX12_kinds_7 : decode cX12_kinds 7 = .ok (.aload_n 0, 1) := by decide +kernel
theorem dX12_kinds_8 : decode cX12_kinds 8 = .ok (.getfield 10, 3) := by decide +kernel
theorem dX12_kinds_11 : decode cX12_kinds 11 = .ok (.iload_n 1, 1) := by decide +kernel
theorem dX12_kinds_12 : decode cX12_kinds 12 = .ok (.invokevirtual 275, 3) := by decide +kernel
theorem dX12_kinds_15 : decode cX12_kinds 15 = .ok (.goto 4, 3) := by decide +kernel
theorem dX12_kinds_18 : decode cX12_kinds 18 = .ok (.iconst (-1), 1) := by decide +kernel
theorem dX12_kinds_19 : decode cX12_kinds 19 = .ok (.ireturn, 1) := by decide +kernel
theorem dX12_digest_0 : decode cX12_digest 0 = .ok (.aload_n 0, 1) := by decide +kernel
theorem dX12_digest_1 : decode cX12_digest 1 = .ok (.getfield 10, 3) := by decide +kernel
theorem dX12_digest_4 : decode cX12_digest 4 = .ok (.invokevirtual 278, 3) := by decide +kernel
theorem dX12_digest_7 : decode cX12_digest 7 = .ok (.lreturn, 1) := by decide +kernel
theorem dX12_tally_0 : decode cX12_tally 0 = .ok (.iload_n 1, 1) := by decide +kernel
theorem dX12_tally_1 : decode cX12_tally 1 = .ok (.bipush (-10), 2) := by decide +kernel
theorem dX12_tally_3 : decode cX12_tally 3 = .ok (.if_icmp .lt 25, 3) := by decide +kernel
theorem dX12_tally_6 : decode cX12_tally 6 = .ok (.iload_n 1, 1) := by decide +kernel
theorem dX12_tally_7 : decode cX12_tally 7 = .ok (.iconst (-1), 1) := by decide +kernel
theorem dX12_tally_8 : decode cX12_tally 8 = .ok (.if_icmp .gt 20, 3) := by decide +kernel
theorem dX12_tally_11 : decode cX12_tally 11 = .ok (.iload_n 1, 1) := by decide +kernel
theorem dX12_tally_12 : decode cX12_tally 12 = .ok (.bipush (-9), 2) := by decide +kernel
theorem dX12_tally_14 : decode cX12_tally 14 = .ok (.if_icmp .eq 14, 3) := by decide +kernel
theorem dX12_tally_17 : decode cX12_tally 17 = .ok (.aload_n 0, 1) := by decide +kernel
theorem dX12_tally_18 : decode cX12_tally 18 = .ok (.getfield 83, 3) := by decide +kernel
theorem dX12_tally_21 : decode cX12_tally 21 = .ok (.iload_n 1, 1) := by decide +kernel
theorem dX12_tally_22 : decode cX12_tally 22 = .ok (.ineg, 1) := by decide +kernel
theorem dX12_tally_23 : decode cX12_tally 23 = .ok (.dup2, 1) := by decide +kernel
theorem dX12_tally_24 : decode cX12_tally 24 = .ok (.iaload, 1) := by decide +kernel
theorem dX12_tally_25 : decode cX12_tally 25 = .ok (.iconst 1, 1) := by decide +kernel
theorem dX12_tally_26 : decode cX12_tally 26 = .ok (.iadd, 1) := by decide +kernel
theorem dX12_tally_27 : decode cX12_tally 27 = .ok (.iastore, 1) := by decide +kernel
theorem dX12_tally_28 : decode cX12_tally 28 = .ok (.iload_n 1, 1) := by decide +kernel
theorem dX12_tally_29 : decode cX12_tally 29 = .ok (.ireturn, 1) := by decide +kernel
theorem dX12_keptImages_0 : decode cX12_keptImages 0 = .ok (.iconst 0, 1) := by decide +kernel
theorem dX12_keptImages_1 : decode cX12_keptImages 1 = .ok (.istore_n 1, 1) := by decide +kernel
theorem dX12_keptImages_2 : decode cX12_keptImages 2 = .ok (.iconst 0, 1) := by decide +kernel
theorem dX12_keptImages_3 : decode cX12_keptImages 3 = .ok (.istore_n 2, 1) := by decide +kernel
theorem dX12_keptImages_4 : decode cX12_keptImages 4 = .ok (.iload_n 2, 1) := by decide +kernel
theorem dX12_keptImages_5 : decode cX12_keptImages 5 = .ok (.iconst 2, 1) := by decide +kernel
theorem dX12_keptImages_6 : decode cX12_keptImages 6 = .ok (.if_icmp .ge 26, 3) := by decide +kernel
theorem dX12_keptImages_9 : decode cX12_keptImages 9 = .ok (.iload_n 1, 1) := by decide +kernel
theorem dX12_keptImages_10 : decode cX12_keptImages 10 = .ok (.aload_n 0, 1) := by decide +kernel
theorem dX12_keptImages_11 : decode cX12_keptImages 11 = .ok (.getfield 19, 3) := by decide +kernel
theorem dX12_keptImages_14 : decode cX12_keptImages 14 = .ok (.iload_n 2, 1) := by decide +kernel
theorem dX12_keptImages_15 : decode cX12_keptImages 15 = .ok (.aaload, 1) := by decide +kernel
theorem dX12_keptImages_16 : decode cX12_keptImages 16 = .ok (.ifnonnull 7, 3) := by decide +kernel
theorem dX12_keptImages_19 : decode cX12_keptImages 19 = .ok (.iconst 0, 1) := by decide +kernel
theorem dX12_keptImages_20 : decode cX12_keptImages 20 = .ok (.goto 4, 3) := by decide +kernel
theorem dX12_keptImages_23 : decode cX12_keptImages 23 = .ok (.iconst 1, 1) := by decide +kernel
theorem dX12_keptImages_24 : decode cX12_keptImages 24 = .ok (.iadd, 1) := by decide +kernel
theorem dX12_keptImages_25 : decode cX12_keptImages 25 = .ok (.istore_n 1, 1) := by decide +kernel
theorem dX12_keptImages_26 : decode cX12_keptImages 26 = .ok (.iinc 2 1, 3) := by decide +kernel
theorem dX12_keptImages_29 : decode cX12_keptImages 29 = .ok (.goto (-25), 3) := by decide +kernel
theorem dX12_keptImages_32 : decode cX12_keptImages 32 = .ok (.iload_n 1, 1) := by decide +kernel
theorem dX12_keptImages_33 : decode cX12_keptImages 33 = .ok (.ireturn, 1) := by decide +kernel
theorem dX12_carryOut_0 : decode cX12_carryOut 0 = .ok (.aload_n 0, 1) := by decide +kernel
theorem dX12_carryOut_1 : decode cX12_carryOut 1 = .ok (.getfield 70, 3) := by decide +kernel
theorem dX12_carryOut_4 : decode cX12_carryOut 4 = .ok (.iload_n 1, 1) := by decide +kernel
theorem dX12_carryOut_5 : decode cX12_carryOut 5 = .ok (.iconst 0, 1) := by decide +kernel
theorem dX12_carryOut_6 : decode cX12_carryOut 6 = .ok (.invokevirtual 282, 3) := by decide +kernel
theorem dX12_carryOut_9 : decode cX12_carryOut 9 = .ok (.istore_n 2, 1) := by decide +kernel
theorem dX12_carryOut_10 : decode cX12_carryOut 10 = .ok (.aload_n 0, 1) := by decide +kernel
theorem dX12_carryOut_11 : decode cX12_carryOut 11 = .ok (.getfield 70, 3) := by decide +kernel
theorem dX12_carryOut_14 : decode cX12_carryOut 14 = .ok (.iload_n 1, 1) := by decide +kernel
theorem dX12_carryOut_15 : decode cX12_carryOut 15 = .ok (.iconst 1, 1) := by decide +kernel
theorem dX12_carryOut_16 : decode cX12_carryOut 16 = .ok (.invokevirtual 282, 3) := by decide +kernel
theorem dX12_carryOut_19 : decode cX12_carryOut 19 = .ok (.istore_n 3, 1) := by decide +kernel
theorem dX12_carryOut_20 : decode cX12_carryOut 20 = .ok (.aload_n 0, 1) := by decide +kernel
theorem dX12_carryOut_21 : decode cX12_carryOut 21 = .ok (.getfield 70, 3) := by decide +kernel
theorem dX12_carryOut_24 : decode cX12_carryOut 24 = .ok (.iload_n 1, 1) := by decide +kernel
theorem dX12_carryOut_25 : decode cX12_carryOut 25 = .ok (.iconst 2, 1) := by decide +kernel
theorem dX12_carryOut_26 : decode cX12_carryOut 26 = .ok (.invokevirtual 282, 3) := by decide +kernel
theorem dX12_carryOut_29 : decode cX12_carryOut 29 = .ok (.istore 4, 2) := by decide +kernel
theorem dX12_carryOut_31 : decode cX12_carryOut 31 = .ok (.aload_n 0, 1) := by decide +kernel
theorem dX12_carryOut_32 : decode cX12_carryOut 32 = .ok (.getfield 70, 3) := by decide +kernel
theorem dX12_carryOut_35 : decode cX12_carryOut 35 = .ok (.iload_n 1, 1) := by decide +kernel
theorem dX12_carryOut_36 : decode cX12_carryOut 36 = .ok (.iconst 3, 1) := by decide +kernel
theorem dX12_carryOut_37 : decode cX12_carryOut 37 = .ok (.invokevirtual 282, 3) := by decide +kernel
theorem dX12_carryOut_40 : decode cX12_carryOut 40 = .ok (.istore 5, 2) := by decide +kernel
theorem dX12_carryOut_42 : decode cX12_carryOut 42 = .ok (.getstatic 285, 3) := by decide +kernel
theorem dX12_carryOut_45 : decode cX12_carryOut 45 = .ok (.aload_n 0, 1) := by decide +kernel
theorem dX12_carryOut_46 : decode cX12_carryOut 46 = .ok (.getfield 70, 3) := by decide +kernel
theorem dX12_carryOut_49 : decode cX12_carryOut 49 = .ok (.iload_n 1, 1) := by decide +kernel
theorem dX12_carryOut_50 : decode cX12_carryOut 50 = .ok (.invokevirtual 290, 3) := by decide +kernel
theorem dX12_carryOut_53 : decode cX12_carryOut 53 = .ok (.invokevirtual 294, 3) := by decide +kernel
theorem dX12_carryOut_56 : decode cX12_carryOut 56 = .ok (.iaload, 1) := by decide +kernel
theorem dX12_carryOut_57 : decode cX12_carryOut 57 = .ok (.tableswitch 237 1 13 #[67, 81, 90, 104, 118, 141, 153, 165, 175, 187, 197, 211, 223], 67) := by decide +kernel
theorem dX12_carryOut_124 : decode cX12_carryOut 124 = .ok (.aload_n 0, 1) := by decide +kernel
theorem dX12_carryOut_125 : decode cX12_carryOut 125 = .ok (.getfield 10, 3) := by decide +kernel
theorem dX12_carryOut_128 : decode cX12_carryOut 128 = .ok (.iload_n 2, 1) := by decide +kernel
theorem dX12_carryOut_129 : decode cX12_carryOut 129 = .ok (.iload_n 3, 1) := by decide +kernel
theorem dX12_carryOut_130 : decode cX12_carryOut 130 = .ok (.iload 4, 2) := by decide +kernel
theorem dX12_carryOut_132 : decode cX12_carryOut 132 = .ok (.iload 5, 2) := by decide +kernel
theorem dX12_carryOut_134 : decode cX12_carryOut 134 = .ok (.invokevirtual 98, 3) := by decide +kernel
theorem dX12_carryOut_137 : decode cX12_carryOut 137 = .ok (.ireturn, 1) := by decide +kernel
theorem dX12_carryOut_138 : decode cX12_carryOut 138 = .ok (.aload_n 0, 1) := by decide +kernel
theorem dX12_carryOut_139 : decode cX12_carryOut 139 = .ok (.getfield 10, 3) := by decide +kernel
theorem dX12_carryOut_142 : decode cX12_carryOut 142 = .ok (.iload_n 2, 1) := by decide +kernel
theorem dX12_carryOut_143 : decode cX12_carryOut 143 = .ok (.invokevirtual 95, 3) := by decide +kernel
theorem dX12_carryOut_146 : decode cX12_carryOut 146 = .ok (.ireturn, 1) := by decide +kernel
theorem dX12_carryOut_147 : decode cX12_carryOut 147 = .ok (.aload_n 0, 1) := by decide +kernel
theorem dX12_carryOut_148 : decode cX12_carryOut 148 = .ok (.getfield 10, 3) := by decide +kernel
theorem dX12_carryOut_151 : decode cX12_carryOut 151 = .ok (.iload_n 2, 1) := by decide +kernel
theorem dX12_carryOut_152 : decode cX12_carryOut 152 = .ok (.iload_n 3, 1) := by decide +kernel
theorem dX12_carryOut_153 : decode cX12_carryOut 153 = .ok (.iload 4, 2) := by decide +kernel
theorem dX12_carryOut_155 : decode cX12_carryOut 155 = .ok (.iload 5, 2) := by decide +kernel
theorem dX12_carryOut_157 : decode cX12_carryOut 157 = .ok (.invokevirtual 109, 3) := by decide +kernel
theorem dX12_carryOut_160 : decode cX12_carryOut 160 = .ok (.ireturn, 1) := by decide +kernel
theorem dX12_carryOut_161 : decode cX12_carryOut 161 = .ok (.aload_n 0, 1) := by decide +kernel
theorem dX12_carryOut_162 : decode cX12_carryOut 162 = .ok (.getfield 10, 3) := by decide +kernel
theorem dX12_carryOut_165 : decode cX12_carryOut 165 = .ok (.iload_n 2, 1) := by decide +kernel
theorem dX12_carryOut_166 : decode cX12_carryOut 166 = .ok (.iload_n 3, 1) := by decide +kernel
theorem dX12_carryOut_167 : decode cX12_carryOut 167 = .ok (.iload 4, 2) := by decide +kernel
theorem dX12_carryOut_169 : decode cX12_carryOut 169 = .ok (.iload 5, 2) := by decide +kernel
theorem dX12_carryOut_171 : decode cX12_carryOut 171 = .ok (.invokevirtual 106, 3) := by decide +kernel
theorem dX12_carryOut_174 : decode cX12_carryOut 174 = .ok (.ireturn, 1) := by decide +kernel
theorem dX12_carryOut_175 : decode cX12_carryOut 175 = .ok (.aload_n 0, 1) := by decide +kernel
theorem dX12_carryOut_176 : decode cX12_carryOut 176 = .ok (.getfield 35, 3) := by decide +kernel
theorem dX12_carryOut_179 : decode cX12_carryOut 179 = .ok (.iload_n 2, 1) := by decide +kernel
theorem dX12_carryOut_180 : decode cX12_carryOut 180 = .ok (.iload_n 3, 1) := by decide +kernel
theorem dX12_carryOut_181 : decode cX12_carryOut 181 = .ok (.iload 4, 2) := by decide +kernel
theorem dX12_carryOut_183 : decode cX12_carryOut 183 = .ok (.iload 5, 2) := by decide +kernel
theorem dX12_carryOut_185 : decode cX12_carryOut 185 = .ok (.aload_n 0, 1) := by decide +kernel
theorem dX12_carryOut_186 : decode cX12_carryOut 186 = .ok (.getfield 70, 3) := by decide +kernel
theorem dX12_carryOut_189 : decode cX12_carryOut 189 = .ok (.iload_n 1, 1) := by decide +kernel
theorem dX12_carryOut_190 : decode cX12_carryOut 190 = .ok (.iconst 4, 1) := by decide +kernel
theorem dX12_carryOut_191 : decode cX12_carryOut 191 = .ok (.invokevirtual 282, 3) := by decide +kernel
theorem dX12_carryOut_194 : decode cX12_carryOut 194 = .ok (.invokevirtual 138, 3) := by decide +kernel
theorem dX12_carryOut_197 : decode cX12_carryOut 197 = .ok (.ireturn, 1) := by decide +kernel
theorem dX12_carryOut_198 : decode cX12_carryOut 198 = .ok (.aload_n 0, 1) := by decide +kernel
theorem dX12_carryOut_199 : decode cX12_carryOut 199 = .ok (.getfield 35, 3) := by decide +kernel
theorem dX12_carryOut_202 : decode cX12_carryOut 202 = .ok (.iload_n 2, 1) := by decide +kernel
theorem dX12_carryOut_203 : decode cX12_carryOut 203 = .ok (.iload_n 3, 1) := by decide +kernel
theorem dX12_carryOut_204 : decode cX12_carryOut 204 = .ok (.iload 4, 2) := by decide +kernel
theorem dX12_carryOut_206 : decode cX12_carryOut 206 = .ok (.invokevirtual 142, 3) := by decide +kernel
theorem dX12_carryOut_209 : decode cX12_carryOut 209 = .ok (.ireturn, 1) := by decide +kernel
theorem dX12_carryOut_210 : decode cX12_carryOut 210 = .ok (.aload_n 0, 1) := by decide +kernel
theorem dX12_carryOut_211 : decode cX12_carryOut 211 = .ok (.getfield 35, 3) := by decide +kernel
theorem dX12_carryOut_214 : decode cX12_carryOut 214 = .ok (.iload_n 2, 1) := by decide +kernel
theorem dX12_carryOut_215 : decode cX12_carryOut 215 = .ok (.iload_n 3, 1) := by decide +kernel
theorem dX12_carryOut_216 : decode cX12_carryOut 216 = .ok (.iload 4, 2) := by decide +kernel
theorem dX12_carryOut_218 : decode cX12_carryOut 218 = .ok (.invokevirtual 148, 3) := by decide +kernel
theorem dX12_carryOut_221 : decode cX12_carryOut 221 = .ok (.ireturn, 1) := by decide +kernel
theorem dX12_carryOut_222 : decode cX12_carryOut 222 = .ok (.aload_n 0, 1) := by decide +kernel
theorem dX12_carryOut_223 : decode cX12_carryOut 223 = .ok (.getfield 35, 3) := by decide +kernel
theorem dX12_carryOut_226 : decode cX12_carryOut 226 = .ok (.iload_n 2, 1) := by decide +kernel
theorem dX12_carryOut_227 : decode cX12_carryOut 227 = .ok (.iload_n 3, 1) := by decide +kernel
theorem dX12_carryOut_228 : decode cX12_carryOut 228 = .ok (.invokevirtual 151, 3) := by decide +kernel
theorem dX12_carryOut_231 : decode cX12_carryOut 231 = .ok (.ireturn, 1) := by decide +kernel
theorem dX12_carryOut_232 : decode cX12_carryOut 232 = .ok (.aload_n 0, 1) := by decide +kernel
theorem dX12_carryOut_233 : decode cX12_carryOut 233 = .ok (.getfield 35, 3) := by decide +kernel
theorem dX12_carryOut_236 : decode cX12_carryOut 236 = .ok (.iload_n 2, 1) := by decide +kernel
theorem dX12_carryOut_237 : decode cX12_carryOut 237 = .ok (.iload_n 3, 1) := by decide +kernel
theorem dX12_carryOut_238 : decode cX12_carryOut 238 = .ok (.iload 4, 2) := by decide +kernel
theorem dX12_carryOut_240 : decode cX12_carryOut 240 = .ok (.invokevirtual 154, 3) := by decide +kernel
theorem dX12_carryOut_243 : decode cX12_carryOut 243 = .ok (.ireturn, 1) := by decide +kernel
theorem dX12_carryOut_244 : decode cX12_carryOut 244 = .ok (.aload_n 0, 1) := by decide +kernel
theorem dX12_carryOut_245 : decode cX12_carryOut 245 = .ok (.getfield 35, 3) := by decide +kernel
theorem dX12_carryOut_248 : decode cX12_carryOut 248 = .ok (.iload_n 2, 1) := by decide +kernel
theorem dX12_carryOut_249 : decode cX12_carryOut 249 = .ok (.iload_n 3, 1) := by decide +kernel
theorem dX12_carryOut_250 : decode cX12_carryOut 250 = .ok (.invokevirtual 157, 3) := by decide +kernel
theorem dX12_carryOut_253 : decode cX12_carryOut 253 = .ok (.ireturn, 1) := by decide +kernel
theorem dX12_carryOut_254 : decode cX12_carryOut 254 = .ok (.aload_n 0, 1) := by decide +kernel
theorem dX12_carryOut_255 : decode cX12_carryOut 255 = .ok (.getfield 35, 3) := by decide +kernel
theorem dX12_carryOut_258 : decode cX12_carryOut 258 = .ok (.iload_n 2, 1) := by decide +kernel
theorem dX12_carryOut_259 : decode cX12_carryOut 259 = .ok (.iload_n 3, 1) := by decide +kernel
theorem dX12_carryOut_260 : decode cX12_carryOut 260 = .ok (.iload 4, 2) := by decide +kernel
theorem dX12_carryOut_262 : decode cX12_carryOut 262 = .ok (.iload 5, 2) := by decide +kernel
theorem dX12_carryOut_264 : decode cX12_carryOut 264 = .ok (.invokevirtual 160, 3) := by decide +kernel
theorem dX12_carryOut_267 : decode cX12_carryOut 267 = .ok (.ireturn, 1) := by decide +kernel
theorem dX12_carryOut_268 : decode cX12_carryOut 268 = .ok (.aload_n 0, 1) := by decide +kernel
theorem dX12_carryOut_269 : decode cX12_carryOut 269 = .ok (.getfield 42, 3) := by decide +kernel
theorem dX12_carryOut_272 : decode cX12_carryOut 272 = .ok (.iload_n 2, 1) := by decide +kernel
theorem dX12_carryOut_273 : decode cX12_carryOut 273 = .ok (.iload_n 3, 1) := by decide +kernel
theorem dX12_carryOut_274 : decode cX12_carryOut 274 = .ok (.iload 4, 2) := by decide +kernel
theorem dX12_carryOut_276 : decode cX12_carryOut 276 = .ok (.invokevirtual 170, 3) := by decide +kernel
theorem dX12_carryOut_279 : decode cX12_carryOut 279 = .ok (.ireturn, 1) := by decide +kernel
theorem dX12_carryOut_280 : decode cX12_carryOut 280 = .ok (.aload_n 0, 1) := by decide +kernel
theorem dX12_carryOut_281 : decode cX12_carryOut 281 = .ok (.getfield 42, 3) := by decide +kernel
theorem dX12_carryOut_284 : decode cX12_carryOut 284 = .ok (.iload_n 2, 1) := by decide +kernel
theorem dX12_carryOut_285 : decode cX12_carryOut 285 = .ok (.iload_n 3, 1) := by decide +kernel
theorem dX12_carryOut_286 : decode cX12_carryOut 286 = .ok (.iload 4, 2) := by decide +kernel
theorem dX12_carryOut_288 : decode cX12_carryOut 288 = .ok (.iload 5, 2) := by decide +kernel
theorem dX12_carryOut_290 : decode cX12_carryOut 290 = .ok (.invokevirtual 173, 3) := by decide +kernel
theorem dX12_carryOut_293 : decode cX12_carryOut 293 = .ok (.ireturn, 1) := by decide +kernel
theorem dX12_carryOut_294 : decode cX12_carryOut 294 = .ok (.aload_n 0, 1) := by decide +kernel
theorem dX12_carryOut_295 : decode cX12_carryOut 295 = .ok (.getfield 42, 3) := by decide +kernel
theorem dX12_carryOut_298 : decode cX12_carryOut 298 = .ok (.iload_n 2, 1) := by decide +kernel
theorem dX12_carryOut_299 : decode cX12_carryOut 299 = .ok (.iload_n 3, 1) := by decide +kernel
theorem dX12_carryOut_300 : decode cX12_carryOut 300 = .ok (.invokevirtual 176, 3) := by decide +kernel
theorem dX12_carryOut_303 : decode cX12_carryOut 303 = .ok (.ireturn, 1) := by decide +kernel
theorem dX12_isGrid_0 : decode cX12_isGrid 0 = .ok (.iload_n 0, 1) := by decide +kernel
theorem dX12_isGrid_1 : decode cX12_isGrid 1 = .ok (.ifCond .lt 12, 3) := by decide +kernel
theorem dX12_isGrid_4 : decode cX12_isGrid 4 = .ok (.iload_n 0, 1) := by decide +kernel
theorem dX12_isGrid_5 : decode cX12_isGrid 5 = .ok (.iconst 4, 1) := by decide +kernel
theorem dX12_isGrid_6 : decode cX12_isGrid 6 = .ok (.if_icmp .ge 7, 3) := by decide +kernel
theorem dX12_isGrid_9 : decode cX12_isGrid 9 = .ok (.iconst 1, 1) := by decide +kernel
theorem dX12_isGrid_10 : decode cX12_isGrid 10 = .ok (.goto 4, 3) := by decide +kernel
theorem dX12_isGrid_13 : decode cX12_isGrid 13 = .ok (.iconst 0, 1) := by decide +kernel
theorem dX12_isGrid_14 : decode cX12_isGrid 14 = .ok (.ireturn, 1) := by decide +kernel
theorem dX12_isKind_0 : decode cX12_isKind 0 = .ok (.iload_n 0, 1) := by decide +kernel
theorem dX12_isKind_1 : decode cX12_isKind 1 = .ok (.ifCond .lt 13, 3) := by decide +kernel
theorem dX12_isKind_4 : decode cX12_isKind 4 = .ok (.iload_n 0, 1) := by decide +kernel
theorem dX12_isKind_5 : decode cX12_isKind 5 = .ok (.bipush 12, 2) := by decide +kernel
theorem dX12_isKind_7 : decode cX12_isKind 7 = .ok (.if_icmp .ge 7, 3) := by decide +kernel
theorem dX12_isKind_10 : decode cX12_isKind 10 = .ok (.iconst 1, 1) := by decide +kernel
theorem dX12_isKind_11 : decode cX12_isKind 11 = .ok (.goto 4, 3) := by decide +kernel
theorem dX12_isKind_14 : decode cX12_isKind 14 = .ok (.iconst 0, 1) := by decide +kernel
theorem dX12_isKind_15 : decode cX12_isKind 15 = .ok (.ireturn, 1) := by decide +kernel
theorem dX12_isPlain_0 : decode cX12_isPlain 0 = .ok (.iload_n 0, 1) := by decide +kernel
theorem dX12_isPlain_1 : decode cX12_isPlain 1 = .ok (.ifCond .lt 13, 3) := by decide +kernel
theorem dX12_isPlain_4 : decode cX12_isPlain 4 = .ok (.iload_n 0, 1) := by decide +kernel
theorem dX12_isPlain_5 : decode cX12_isPlain 5 = .ok (.bipush 8, 2) := by decide +kernel
theorem dX12_isPlain_7 : decode cX12_isPlain 7 = .ok (.if_icmp .ge 7, 3) := by decide +kernel
theorem dX12_isPlain_10 : decode cX12_isPlain 10 = .ok (.iconst 1, 1) := by decide +kernel
theorem dX12_isPlain_11 : decode cX12_isPlain 11 = .ok (.goto 4, 3) := by decide +kernel
theorem dX12_isPlain_14 : decode cX12_isPlain 14 = .ok (.iconst 0, 1) := by decide +kernel
theorem dX12_isPlain_15 : decode cX12_isPlain 15 = .ok (.ireturn, 1) := by decide +kernel
theorem dX12_isSort_0 : decode cX12_isSort 0 = .ok (.iload_n 0, 1) := by decide +kernel
theorem dX12_isSort_1 : decode cX12_isSort 1 = .ok (.ifCond .lt 13, 3) := by decide +kernel
theorem dX12_isSort_4 : decode cX12_isSort 4 = .ok (.iload_n 0, 1) := by decide +kernel
theorem dX12_isSort_5 : decode cX12_isSort 5 = .ok (.bipush 12, 2) := by decide +kernel
theorem dX12_isSort_7 : decode cX12_isSort 7 = .ok (.if_icmp .ge 7, 3) := by decide +kernel
theorem dX12_isSort_10 : decode cX12_isSort 10 = .ok (.iconst 1, 1) := by decide +kernel
theorem dX12_isSort_11 : decode cX12_isSort 11 = .ok (.goto 4, 3) := by decide +kernel
theorem dX12_isSort_14 : decode cX12_isSort 14 = .ok (.iconst 0, 1) := by decide +kernel
theorem dX12_isSort_15 : decode cX12_isSort 15 = .ok (.ireturn, 1) := by decide +kernel
theorem dX12_isNumber_0 : decode cX12_isNumber 0 = .ok (.iload_n 0, 1) := by decide +kernel
theorem dX12_isNumber_1 : decode cX12_isNumber 1 = .ok (.iconst 1, 1) := by decide +kernel
theorem dX12_isNumber_2 : decode cX12_isNumber 2 = .ok (.if_icmp .lt 13, 3) := by decide +kernel
theorem dX12_isNumber_5 : decode cX12_isNumber 5 = .ok (.iload_n 0, 1) := by decide +kernel
theorem dX12_isNumber_6 : decode cX12_isNumber 6 = .ok (.bipush 7, 2) := by decide +kernel
theorem dX12_isNumber_8 : decode cX12_isNumber 8 = .ok (.if_icmp .gt 7, 3) := by decide +kernel
theorem dX12_isNumber_11 : decode cX12_isNumber 11 = .ok (.iconst 1, 1) := by decide +kernel
theorem dX12_isNumber_12 : decode cX12_isNumber 12 = .ok (.goto 4, 3) := by decide +kernel
theorem dX12_isNumber_15 : decode cX12_isNumber 15 = .ok (.iconst 0, 1) := by decide +kernel
theorem dX12_isNumber_16 : decode cX12_isNumber 16 = .ok (.ireturn, 1) := by decide +kernel
theorem dX12_isReal_0 : decode cX12_isReal 0 = .ok (.iload_n 0, 1) := by decide +kernel
theorem dX12_isReal_1 : decode cX12_isReal 1 = .ok (.bipush 6, 2) := by decide +kernel
theorem dX12_isReal_3 : decode cX12_isReal 3 = .ok (.if_icmp .eq 9, 3) := by decide +kernel
theorem dX12_isReal_6 : decode cX12_isReal 6 = .ok (.iload_n 0, 1) := by decide +kernel
theorem dX12_isReal_7 : decode cX12_isReal 7 = .ok (.bipush 7, 2) := by decide +kernel
theorem dX12_isReal_9 : decode cX12_isReal 9 = .ok (.if_icmp .ne 7, 3) := by decide +kernel
theorem dX12_isReal_12 : decode cX12_isReal 12 = .ok (.iconst 1, 1) := by decide +kernel
theorem dX12_isReal_13 : decode cX12_isReal 13 = .ok (.goto 4, 3) := by decide +kernel
theorem dX12_isReal_16 : decode cX12_isReal 16 = .ok (.iconst 0, 1) := by decide +kernel
theorem dX12_isReal_17 : decode cX12_isReal 17 = .ok (.ireturn, 1) := by decide +kernel
theorem dX12_isAct_0 : decode cX12_isAct 0 = .ok (.iload_n 0, 1) := by decide +kernel
theorem dX12_isAct_1 : decode cX12_isAct 1 = .ok (.ifCond .lt 13, 3) := by decide +kernel
theorem dX12_isAct_4 : decode cX12_isAct 4 = .ok (.iload_n 0, 1) := by decide +kernel
theorem dX12_isAct_5 : decode cX12_isAct 5 = .ok (.bipush 28, 2) := by decide +kernel
theorem dX12_isAct_7 : decode cX12_isAct 7 = .ok (.if_icmp .ge 7, 3) := by decide +kernel
theorem dX12_isAct_10 : decode cX12_isAct 10 = .ok (.iconst 1, 1) := by decide +kernel
theorem dX12_isAct_11 : decode cX12_isAct 11 = .ok (.goto 4, 3) := by decide +kernel
theorem dX12_isAct_14 : decode cX12_isAct 14 = .ok (.iconst 0, 1) := by decide +kernel
theorem dX12_isAct_15 : decode cX12_isAct 15 = .ok (.ireturn, 1) := by decide +kernel
theorem dX12_isImage_0 : decode cX12_isImage 0 = .ok (.iload_n 0, 1) := by decide +kernel
theorem dX12_isImage_1 : decode cX12_isImage 1 = .ok (.ifCond .lt 12, 3) := by decide +kernel
theorem dX12_isImage_4 : decode cX12_isImage 4 = .ok (.iload_n 0, 1) := by decide +kernel
theorem dX12_isImage_5 : decode cX12_isImage 5 = .ok (.iconst 2, 1) := by decide +kernel
theorem dX12_isImage_6 : decode cX12_isImage 6 = .ok (.if_icmp .ge 7, 3) := by decide +kernel
theorem dX12_isImage_9 : decode cX12_isImage 9 = .ok (.iconst 1, 1) := by decide +kernel
theorem dX12_isImage_10 : decode cX12_isImage 10 = .ok (.goto 4, 3) := by decide +kernel
theorem dX12_isImage_13 : decode cX12_isImage 13 = .ok (.iconst 0, 1) := by decide +kernel
theorem dX12_isImage_14 : decode cX12_isImage 14 = .ok (.ireturn, 1) := by decide +kernel
theorem dX12_takes_0 : decode cX12_takes 0 = .ok (.iload_n 0, 1) := by decide +kernel
theorem dX12_takes_1 : decode cX12_takes 1 = .ok (.ifCond .lt 36, 3) := by decide +kernel
theorem dX12_takes_4 : decode cX12_takes 4 = .ok (.iload_n 0, 1) := by decide +kernel
theorem dX12_takes_5 : decode cX12_takes 5 = .ok (.bipush 12, 2) := by decide +kernel
theorem dX12_takes_7 : decode cX12_takes 7 = .ok (.if_icmp .ge 30, 3) := by decide +kernel
theorem dX12_takes_10 : decode cX12_takes 10 = .ok (.iload_n 1, 1) := by decide +kernel
theorem dX12_takes_11 : decode cX12_takes 11 = .ok (.ifCond .lt 26, 3) := by decide +kernel
theorem dX12_takes_14 : decode cX12_takes 14 = .ok (.iload_n 1, 1) := by decide +kernel
theorem dX12_takes_15 : decode cX12_takes 15 = .ok (.bipush 12, 2) := by decide +kernel
theorem dX12_takes_17 : decode cX12_takes 17 = .ok (.if_icmp .ge 20, 3) := by decide +kernel
theorem dX12_takes_20 : decode cX12_takes 20 = .ok (.getstatic 299, 3) := by decide +kernel
theorem dX12_takes_23 : decode cX12_takes 23 = .ok (.iload_n 0, 1) := by decide +kernel
theorem dX12_takes_24 : decode cX12_takes 24 = .ok (.iaload, 1) := by decide +kernel
theorem dX12_takes_25 : decode cX12_takes 25 = .ok (.iload_n 1, 1) := by decide +kernel
theorem dX12_takes_26 : decode cX12_takes 26 = .ok (.ishr, 1) := by decide +kernel
theorem dX12_takes_27 : decode cX12_takes 27 = .ok (.iconst 1, 1) := by decide +kernel
theorem dX12_takes_28 : decode cX12_takes 28 = .ok (.iand, 1) := by decide +kernel
theorem dX12_takes_29 : decode cX12_takes 29 = .ok (.iconst 1, 1) := by decide +kernel
theorem dX12_takes_30 : decode cX12_takes 30 = .ok (.if_icmp .ne 7, 3) := by decide +kernel
theorem dX12_takes_33 : decode cX12_takes 33 = .ok (.iconst 1, 1) := by decide +kernel
theorem dX12_takes_34 : decode cX12_takes 34 = .ok (.goto 4, 3) := by decide +kernel
theorem dX12_takes_37 : decode cX12_takes 37 = .ok (.iconst 0, 1) := by decide +kernel
theorem dX12_takes_38 : decode cX12_takes 38 = .ok (.ireturn, 1) := by decide +kernel
theorem dX12_readsAs_0 : decode cX12_readsAs 0 = .ok (.iload_n 0, 1) := by decide +kernel
theorem dX12_readsAs_1 : decode cX12_readsAs 1 = .ok (.invokestatic 302, 3) := by decide +kernel
theorem dX12_readsAs_4 : decode cX12_readsAs 4 = .ok (.ifCond .eq 22, 3) := by decide +kernel
theorem dX12_readsAs_7 : decode cX12_readsAs 7 = .ok (.iload_n 1, 1) := by decide +kernel
theorem dX12_readsAs_8 : decode cX12_readsAs 8 = .ok (.invokestatic 302, 3) := by decide +kernel
theorem dX12_readsAs_11 : decode cX12_readsAs 11 = .ok (.ifCond .eq 15, 3) := by decide +kernel
theorem dX12_readsAs_14 : decode cX12_readsAs 14 = .ok (.iload_n 1, 1) := by decide +kernel
theorem dX12_readsAs_15 : decode cX12_readsAs 15 = .ok (.iload_n 0, 1) := by decide +kernel
theorem dX12_readsAs_16 : decode cX12_readsAs 16 = .ok (.invokestatic 305, 3) := by decide +kernel
theorem dX12_readsAs_19 : decode cX12_readsAs 19 = .ok (.ifCond .eq 7, 3) := by decide +kernel
theorem dX12_readsAs_22 : decode cX12_readsAs 22 = .ok (.iconst 1, 1) := by decide +kernel
theorem dX12_readsAs_23 : decode cX12_readsAs 23 = .ok (.goto 4, 3) := by decide +kernel
theorem dX12_readsAs_26 : decode cX12_readsAs 26 = .ok (.iconst 0, 1) := by decide +kernel
theorem dX12_readsAs_27 : decode cX12_readsAs 27 = .ok (.ireturn, 1) := by decide +kernel
theorem dX12_allows_0 : decode cX12_allows 0 = .ok (.iload_n 0, 1) := by decide +kernel
theorem dX12_allows_1 : decode cX12_allows 1 = .ok (.bipush 8, 2) := by decide +kernel
theorem dX12_allows_3 : decode cX12_allows 3 = .ok (.if_icmp .ge 9, 3) := by decide +kernel
theorem dX12_allows_6 : decode cX12_allows 6 = .ok (.iload_n 1, 1) := by decide +kernel
theorem dX12_allows_7 : decode cX12_allows 7 = .ok (.iload_n 0, 1) := by decide +kernel
theorem dX12_allows_8 : decode cX12_allows 8 = .ok (.invokestatic 308, 3) := by decide +kernel
theorem dX12_allows_11 : decode cX12_allows 11 = .ok (.ireturn, 1) := by decide +kernel
theorem dX12_allows_12 : decode cX12_allows 12 = .ok (.iload_n 0, 1) := by decide +kernel
theorem dX12_allows_13 : decode cX12_allows 13 = .ok (.bipush 16, 2) := by decide +kernel
theorem dX12_allows_15 : decode cX12_allows 15 = .ok (.if_icmp .ge 27, 3) := by decide +kernel
theorem dX12_allows_18 : decode cX12_allows 18 = .ok (.iload_n 1, 1) := by decide +kernel
theorem dX12_allows_19 : decode cX12_allows 19 = .ok (.invokestatic 302, 3) := by decide +kernel
theorem dX12_allows_22 : decode cX12_allows 22 = .ok (.ifCond .eq 18, 3) := by decide +kernel
theorem dX12_allows_25 : decode cX12_allows 25 = .ok (.iload_n 1, 1) := by decide +kernel
theorem dX12_allows_26 : decode cX12_allows 26 = .ok (.iload_n 0, 1) := by decide +kernel
theorem dX12_allows_27 : decode cX12_allows 27 = .ok (.bipush 8, 2) := by decide +kernel
theorem dX12_allows_29 : decode cX12_allows 29 = .ok (.isub, 1) := by decide +kernel
theorem dX12_allows_30 : decode cX12_allows 30 = .ok (.invokestatic 305, 3) := by decide +kernel
theorem dX12_allows_33 : decode cX12_allows 33 = .ok (.ifCond .eq 7, 3) := by decide +kernel
theorem dX12_allows_36 : decode cX12_allows 36 = .ok (.iconst 1, 1) := by decide +kernel
theorem dX12_allows_37 : decode cX12_allows 37 = .ok (.goto 4, 3) := by decide +kernel
theorem dX12_allows_40 : decode cX12_allows 40 = .ok (.iconst 0, 1) := by decide +kernel
theorem dX12_allows_41 : decode cX12_allows 41 = .ok (.ireturn, 1) := by decide +kernel
theorem dX12_allows_42 : decode cX12_allows 42 = .ok (.iload_n 1, 1) := by decide +kernel
theorem dX12_allows_43 : decode cX12_allows 43 = .ok (.iload_n 0, 1) := by decide +kernel
theorem dX12_allows_44 : decode cX12_allows 44 = .ok (.bipush 16, 2) := by decide +kernel
theorem dX12_allows_46 : decode cX12_allows 46 = .ok (.isub, 1) := by decide +kernel
theorem dX12_allows_47 : decode cX12_allows 47 = .ok (.invokestatic 305, 3) := by decide +kernel
theorem dX12_allows_50 : decode cX12_allows 50 = .ok (.ireturn, 1) := by decide +kernel
theorem dX12_leastKind_0 : decode cX12_leastKind 0 = .ok (.iconst 0, 1) := by decide +kernel
theorem dX12_leastKind_1 : decode cX12_leastKind 1 = .ok (.istore_n 1, 1) := by decide +kernel
theorem dX12_leastKind_2 : decode cX12_leastKind 2 = .ok (.iload_n 1, 1) := by decide +kernel
theorem dX12_leastKind_3 : decode cX12_leastKind 3 = .ok (.bipush 12, 2) := by decide +kernel
theorem dX12_leastKind_5 : decode cX12_leastKind 5 = .ok (.if_icmp .ge 18, 3) := by decide +kernel
theorem dX12_leastKind_8 : decode cX12_leastKind 8 = .ok (.iload_n 0, 1) := by decide +kernel
theorem dX12_leastKind_9 : decode cX12_leastKind 9 = .ok (.iconst 1, 1) := by decide +kernel
theorem dX12_leastKind_10 : decode cX12_leastKind 10 = .ok (.iload_n 1, 1) := by decide +kernel
theorem dX12_leastKind_11 : decode cX12_leastKind 11 = .ok (.ishl, 1) := by decide +kernel
theorem dX12_leastKind_12 : decode cX12_leastKind 12 = .ok (.if_icmp .ne 5, 3) := by decide +kernel
theorem dX12_leastKind_15 : decode cX12_leastKind 15 = .ok (.iload_n 1, 1) := by decide +kernel
theorem dX12_leastKind_16 : decode cX12_leastKind 16 = .ok (.ireturn, 1) := by decide +kernel
theorem dX12_leastKind_17 : decode cX12_leastKind 17 = .ok (.iinc 1 1, 3) := by decide +kernel
theorem dX12_leastKind_20 : decode cX12_leastKind 20 = .ok (.goto (-18), 3) := by decide +kernel
theorem dX12_leastKind_23 : decode cX12_leastKind 23 = .ok (.iload_n 0, 1) := by decide +kernel
theorem dX12_leastKind_24 : decode cX12_leastKind 24 = .ok (.ifCond .ne 6, 3) := by decide +kernel
theorem dX12_leastKind_27 : decode cX12_leastKind 27 = .ok (.bipush 8, 2) := by decide +kernel
theorem dX12_leastKind_29 : decode cX12_leastKind 29 = .ok (.ireturn, 1) := by decide +kernel
theorem dX12_leastKind_30 : decode cX12_leastKind 30 = .ok (.iconst 0, 1) := by decide +kernel
theorem dX12_leastKind_31 : decode cX12_leastKind 31 = .ok (.istore_n 1, 1) := by decide +kernel
theorem dX12_leastKind_32 : decode cX12_leastKind 32 = .ok (.iload_n 1, 1) := by decide +kernel
theorem dX12_leastKind_33 : decode cX12_leastKind 33 = .ok (.bipush 8, 2) := by decide +kernel
theorem dX12_leastKind_35 : decode cX12_leastKind 35 = .ok (.if_icmp .ge 22, 3) := by decide +kernel
theorem dX12_leastKind_38 : decode cX12_leastKind 38 = .ok (.getstatic 299, 3) := by decide +kernel
theorem dX12_leastKind_41 : decode cX12_leastKind 41 = .ok (.iload_n 1, 1) := by decide +kernel
theorem dX12_leastKind_42 : decode cX12_leastKind 42 = .ok (.iaload, 1) := by decide +kernel
theorem dX12_leastKind_43 : decode cX12_leastKind 43 = .ok (.iload_n 0, 1) := by decide +kernel
theorem dX12_leastKind_44 : decode cX12_leastKind 44 = .ok (.iand, 1) := by decide +kernel
theorem dX12_leastKind_45 : decode cX12_leastKind 45 = .ok (.iload_n 0, 1) := by decide +kernel
theorem dX12_leastKind_46 : decode cX12_leastKind 46 = .ok (.if_icmp .ne 5, 3) := by decide +kernel
theorem dX12_leastKind_49 : decode cX12_leastKind 49 = .ok (.iload_n 1, 1) := by decide +kernel
theorem dX12_leastKind_50 : decode cX12_leastKind 50 = .ok (.ireturn, 1) := by decide +kernel
theorem dX12_leastKind_51 : decode cX12_leastKind 51 = .ok (.iinc 1 1, 3) := by decide +kernel
theorem dX12_leastKind_54 : decode cX12_leastKind 54 = .ok (.goto (-22), 3) := by decide +kernel
theorem dX12_leastKind_57 : decode cX12_leastKind 57 = .ok (.bipush 8, 2) := by decide +kernel
theorem dX12_leastKind_59 : decode cX12_leastKind 59 = .ok (.ireturn, 1) := by decide +kernel
theorem dX12_narrowed_0 : decode cX12_narrowed 0 = .ok (.iload_n 0, 1) := by decide +kernel
theorem dX12_narrowed_1 : decode cX12_narrowed 1 = .ok (.tableswitch 58 0 4 #[35, 39, 44, 49, 54], 35) := by decide +kernel
theorem dX12_narrowed_36 : decode cX12_narrowed 36 = .ok (.lload_n 1, 1) := by decide +kernel
theorem dX12_narrowed_37 : decode cX12_narrowed 37 = .ok (.lconst 1, 1) := by decide +kernel
theorem dX12_narrowed_38 : decode cX12_narrowed 38 = .ok (.land, 1) := by decide +kernel
theorem dX12_narrowed_39 : decode cX12_narrowed 39 = .ok (.lreturn, 1) := by decide +kernel
theorem dX12_narrowed_40 : decode cX12_narrowed 40 = .ok (.lload_n 1, 1) := by decide +kernel
theorem dX12_narrowed_41 : decode cX12_narrowed 41 = .ok (.l2i, 1) := by decide +kernel
theorem dX12_narrowed_42 : decode cX12_narrowed 42 = .ok (.i2b, 1) := by decide +kernel
theorem dX12_narrowed_43 : decode cX12_narrowed 43 = .ok (.i2l, 1) := by decide +kernel
theorem dX12_narrowed_44 : decode cX12_narrowed 44 = .ok (.lreturn, 1) := by decide +kernel
theorem dX12_narrowed_45 : decode cX12_narrowed 45 = .ok (.lload_n 1, 1) := by decide +kernel
theorem dX12_narrowed_46 : decode cX12_narrowed 46 = .ok (.l2i, 1) := by decide +kernel
theorem dX12_narrowed_47 : decode cX12_narrowed 47 = .ok (.i2c, 1) := by decide +kernel
theorem dX12_narrowed_48 : decode cX12_narrowed 48 = .ok (.i2l, 1) := by decide +kernel
theorem dX12_narrowed_49 : decode cX12_narrowed 49 = .ok (.lreturn, 1) := by decide +kernel
theorem dX12_narrowed_50 : decode cX12_narrowed 50 = .ok (.lload_n 1, 1) := by decide +kernel
theorem dX12_narrowed_51 : decode cX12_narrowed 51 = .ok (.l2i, 1) := by decide +kernel
theorem dX12_narrowed_52 : decode cX12_narrowed 52 = .ok (.i2s, 1) := by decide +kernel
theorem dX12_narrowed_53 : decode cX12_narrowed 53 = .ok (.i2l, 1) := by decide +kernel
theorem dX12_narrowed_54 : decode cX12_narrowed 54 = .ok (.lreturn, 1) := by decide +kernel
theorem dX12_narrowed_55 : decode cX12_narrowed 55 = .ok (.lload_n 1, 1) := by decide +kernel
theorem dX12_narrowed_56 : decode cX12_narrowed 56 = .ok (.l2i, 1) := by decide +kernel
theorem dX12_narrowed_57 : decode cX12_narrowed 57 = .ok (.i2l, 1) := by decide +kernel
theorem dX12_narrowed_58 : decode cX12_narrowed 58 = .ok (.lreturn, 1) := by decide +kernel
theorem dX12_narrowed_59 : decode cX12_narrowed 59 = .ok (.lload_n 1, 1) := by decide +kernel
theorem dX12_narrowed_60 : decode cX12_narrowed 60 = .ok (.lreturn, 1) := by decide +kernel
theorem dX12_codeOfReal_0 : decode cX12_codeOfReal 0 = .ok (.ldc2_w 311, 3) := by decide +kernel
theorem dX12_codeOfReal_3 : decode cX12_codeOfReal 3 = .ok (.dload_n 0, 1) := by decide +kernel
theorem dX12_codeOfReal_4 : decode cX12_codeOfReal 4 = .ok (.dmul, 1) := by decide +kernel
theorem dX12_codeOfReal_5 : decode cX12_codeOfReal 5 = .ok (.d2l, 1) := by decide +kernel
theorem dX12_codeOfReal_6 : decode cX12_codeOfReal 6 = .ok (.lreturn, 1) := by decide +kernel
theorem dX13_init_0 : decode cX13_init 0 = .ok (.aload_n 0, 1) := by decide +kernel
theorem dX13_init_1 : decode cX13_init 1 = .ok (.invokespecial 1, 3) := by decide +kernel
theorem dX13_init_4 : decode cX13_init 4 = .ok (.aload_n 0, 1) := by decide +kernel
theorem dX13_init_5 : decode cX13_init 5 = .ok (.bipush 11, 2) := by decide +kernel
theorem dX13_init_7 : decode cX13_init 7 = .ok (.newarray .int, 2) := by decide +kernel
theorem dX13_init_9 : decode cX13_init 9 = .ok (.putfield 7, 3) := by decide +kernel
theorem dX13_init_12 : decode cX13_init 12 = .ok (.aload_n 0, 1) := by decide +kernel
theorem dX13_init_13 : decode cX13_init 13 = .ok (.bipush (-9), 2) := by decide +kernel
theorem dX13_init_15 : decode cX13_init 15 = .ok (.putfield 13, 3) := by decide +kernel
theorem dX13_init_18 : decode cX13_init 18 = .ok (.aload_n 0, 1) := by decide +kernel
theorem dX13_init_19 : decode cX13_init 19 = .ok (.iconst 4, 1) := by decide +kernel
theorem dX13_init_20 : decode cX13_init 20 = .ok (.newarray .int, 2) := by decide +kernel
theorem dX13_init_22 : decode cX13_init 22 = .ok (.dup, 1) := by decide +kernel
theorem dX13_init_23 : decode cX13_init 23 = .ok (.iconst 0, 1) := by decide +kernel
theorem dX13_init_24 : decode cX13_init 24 = .ok (.iconst (-1), 1) := by decide +kernel
theorem dX13_init_25 : decode cX13_init 25 = .ok (.iastore, 1) := by decide +kernel
theorem dX13_init_26 : decode cX13_init 26 = .ok (.dup, 1) := by decide +kernel
theorem dX13_init_27 : decode cX13_init 27 = .ok (.iconst 1, 1) := by decide +kernel
theorem dX13_init_28 : decode cX13_init 28 = .ok (.iconst (-1), 1) := by decide +kernel
theorem dX13_init_29 : decode cX13_init 29 = .ok (.iastore, 1) := by decide +kernel
theorem dX13_init_30 : decode cX13_init 30 = .ok (.dup, 1) := by decide +kernel
theorem dX13_init_31 : decode cX13_init 31 = .ok (.iconst 2, 1) := by decide +kernel
theorem dX13_init_32 : decode cX13_init 32 = .ok (.iconst (-1), 1) := by decide +kernel
theorem dX13_init_33 : decode cX13_init 33 = .ok (.iastore, 1) := by decide +kernel
theorem dX13_init_34 : decode cX13_init 34 = .ok (.dup, 1) := by decide +kernel
theorem dX13_init_35 : decode cX13_init 35 = .ok (.iconst 3, 1) := by decide +kernel
theorem dX13_init_36 : decode cX13_init 36 = .ok (.iconst (-1), 1) := by decide +kernel
theorem dX13_init_37 : decode cX13_init 37 = .ok (.iastore, 1) := by decide +kernel
theorem dX13_init_38 : decode cX13_init 38 = .ok (.putfield 17, 3) := by decide +kernel
theorem dX13_init_41 : decode cX13_init 41 = .ok (.aload_n 0, 1) := by decide +kernel
theorem dX13_init_42 : decode cX13_init 42 = .ok (.bipush 24, 2) := by decide +kernel
theorem dX13_init_44 : decode cX13_init 44 = .ok (.newarray .int, 2) := by decide +kernel
theorem dX13_init_46 : decode cX13_init 46 = .ok (.dup, 1) := by decide +kernel
theorem dX13_init_47 : decode cX13_init 47 = .ok (.iconst 0, 1) := by decide +kernel
theorem dX13_init_48 : decode cX13_init 48 = .ok (.iconst (-1), 1) := by decide +kernel
theorem dX13_init_49 : decode cX13_init 49 = .ok (.iastore, 1) := by decide +kernel
theorem dX13_init_50 : decode cX13_init 50 = .ok (.dup, 1) := by decide +kernel
theorem dX13_init_51 : decode cX13_init 51 = .ok (.iconst 1, 1) := by decide +kernel
theorem dX13_init_52 : decode cX13_init 52 = .ok (.iconst (-1), 1) := by decide +kernel
theorem dX13_init_53 : decode cX13_init 53 = .ok (.iastore, 1) := by decide +kernel
theorem dX13_init_54 : decode cX13_init 54 = .ok (.dup, 1) := by decide +kernel
theorem dX13_init_55 : decode cX13_init 55 = .ok (.iconst 2, 1) := by decide +kernel
theorem dX13_init_56 : decode cX13_init 56 = .ok (.iconst (-1), 1) := by decide +kernel
theorem dX13_init_57 : decode cX13_init 57 = .ok (.iastore, 1) := by decide +kernel
theorem dX13_init_58 : decode cX13_init 58 = .ok (.dup, 1) := by decide +kernel
theorem dX13_init_59 : decode cX13_init 59 = .ok (.iconst 3, 1) := by decide +kernel
theorem dX13_init_60 : decode cX13_init 60 = .ok (.iconst (-1), 1) := by decide +kernel
theorem dX13_init_61 : decode cX13_init 61 = .ok (.iastore, 1) := by decide +kernel
theorem dX13_init_62 : decode cX13_init 62 = .ok (.dup, 1) := by decide +kernel
theorem dX13_init_63 : decode cX13_init 63 = .ok (.iconst 4, 1) := by decide +kernel
theorem dX13_init_64 : decode cX13_init 64 = .ok (.iconst (-1), 1) := by decide +kernel
theorem dX13_init_65 : decode cX13_init 65 = .ok (.iastore, 1) := by decide +kernel
theorem dX13_init_66 : decode cX13_init 66 = .ok (.dup, 1) := by decide +kernel
theorem dX13_init_67 : decode cX13_init 67 = .ok (.iconst 5, 1) := by decide +kernel
theorem dX13_init_68 : decode cX13_init 68 = .ok (.iconst (-1), 1) := by decide +kernel
theorem dX13_init_69 : decode cX13_init 69 = .ok (.iastore, 1) := by decide +kernel
theorem dX13_init_70 : decode cX13_init 70 = .ok (.dup, 1) := by decide +kernel
theorem dX13_init_71 : decode cX13_init 71 = .ok (.bipush 6, 2) := by decide +kernel
theorem dX13_init_73 : decode cX13_init 73 = .ok (.iconst (-1), 1) := by decide +kernel
theorem dX13_init_74 : decode cX13_init 74 = .ok (.iastore, 1) := by decide +kernel
theorem dX13_init_75 : decode cX13_init 75 = .ok (.dup, 1) := by decide +kernel
theorem dX13_init_76 : decode cX13_init 76 = .ok (.bipush 7, 2) := by decide +kernel
theorem dX13_init_78 : decode cX13_init 78 = .ok (.iconst (-1), 1) := by decide +kernel
theorem dX13_init_79 : decode cX13_init 79 = .ok (.iastore, 1) := by decide +kernel
theorem dX13_init_80 : decode cX13_init 80 = .ok (.dup, 1) := by decide +kernel
theorem dX13_init_81 : decode cX13_init 81 = .ok (.bipush 8, 2) := by decide +kernel
theorem dX13_init_83 : decode cX13_init 83 = .ok (.iconst (-1), 1) := by decide +kernel
theorem dX13_init_84 : decode cX13_init 84 = .ok (.iastore, 1) := by decide +kernel
theorem dX13_init_85 : decode cX13_init 85 = .ok (.dup, 1) := by decide +kernel
theorem dX13_init_86 : decode cX13_init 86 = .ok (.bipush 9, 2) := by decide +kernel
theorem dX13_init_88 : decode cX13_init 88 = .ok (.iconst (-1), 1) := by decide +kernel
theorem dX13_init_89 : decode cX13_init 89 = .ok (.iastore, 1) := by decide +kernel
theorem dX13_init_90 : decode cX13_init 90 = .ok (.dup, 1) := by decide +kernel
theorem dX13_init_91 : decode cX13_init 91 = .ok (.bipush 10, 2) := by decide +kernel
theorem dX13_init_93 : decode cX13_init 93 = .ok (.iconst (-1), 1) := by decide +kernel
theorem dX13_init_94 : decode cX13_init 94 = .ok (.iastore, 1) := by decide +kernel
theorem dX13_init_95 : decode cX13_init 95 = .ok (.dup, 1) := by decide +kernel
theorem dX13_init_96 : decode cX13_init 96 = .ok (.bipush 11, 2) := by decide +kernel
theorem dX13_init_98 : decode cX13_init 98 = .ok (.iconst (-1), 1) := by decide +kernel
theorem dX13_init_99 : decode cX13_init 99 = .ok (.iastore, 1) := by decide +kernel
theorem dX13_init_100 : decode cX13_init 100 = .ok (.dup, 1) := by decide +kernel
theorem dX13_init_101 : decode cX13_init 101 = .ok (.bipush 12, 2) := by decide +kernel
theorem dX13_init_103 : decode cX13_init 103 = .ok (.iconst (-1), 1) := by decide +kernel
theorem dX13_init_104 : decode cX13_init 104 = .ok (.iastore, 1) := by decide +kernel
theorem dX13_init_105 : decode cX13_init 105 = .ok (.dup, 1) := by decide +kernel
theorem dX13_init_106 : decode cX13_init 106 = .ok (.bipush 13, 2) := by decide +kernel
theorem dX13_init_108 : decode cX13_init 108 = .ok (.iconst (-1), 1) := by decide +kernel
theorem dX13_init_109 : decode cX13_init 109 = .ok (.iastore, 1) := by decide +kernel
theorem dX13_init_110 : decode cX13_init 110 = .ok (.dup, 1) := by decide +kernel
theorem dX13_init_111 : decode cX13_init 111 = .ok (.bipush 14, 2) := by decide +kernel
theorem dX13_init_113 : decode cX13_init 113 = .ok (.iconst (-1), 1) := by decide +kernel
theorem dX13_init_114 : decode cX13_init 114 = .ok (.iastore, 1) := by decide +kernel
theorem dX13_init_115 : decode cX13_init 115 = .ok (.dup, 1) := by decide +kernel
theorem dX13_init_116 : decode cX13_init 116 = .ok (.bipush 15, 2) := by decide +kernel
theorem dX13_init_118 : decode cX13_init 118 = .ok (.iconst (-1), 1) := by decide +kernel
theorem dX13_init_119 : decode cX13_init 119 = .ok (.iastore, 1) := by decide +kernel
theorem dX13_init_120 : decode cX13_init 120 = .ok (.dup, 1) := by decide +kernel
theorem dX13_init_121 : decode cX13_init 121 = .ok (.bipush 16, 2) := by decide +kernel
theorem dX13_init_123 : decode cX13_init 123 = .ok (.iconst (-1), 1) := by decide +kernel
theorem dX13_init_124 : decode cX13_init 124 = .ok (.iastore, 1) := by decide +kernel
theorem dX13_init_125 : decode cX13_init 125 = .ok (.dup, 1) := by decide +kernel
theorem dX13_init_126 : decode cX13_init 126 = .ok (.bipush 17, 2) := by decide +kernel
theorem dX13_init_128 : decode cX13_init 128 = .ok (.iconst (-1), 1) := by decide +kernel
theorem dX13_init_129 : decode cX13_init 129 = .ok (.iastore, 1) := by decide +kernel
theorem dX13_init_130 : decode cX13_init 130 = .ok (.dup, 1) := by decide +kernel
theorem dX13_init_131 : decode cX13_init 131 = .ok (.bipush 18, 2) := by decide +kernel
theorem dX13_init_133 : decode cX13_init 133 = .ok (.iconst (-1), 1) := by decide +kernel
theorem dX13_init_134 : decode cX13_init 134 = .ok (.iastore, 1) := by decide +kernel
theorem dX13_init_135 : decode cX13_init 135 = .ok (.dup, 1) := by decide +kernel
theorem dX13_init_136 : decode cX13_init 136 = .ok (.bipush 19, 2) := by decide +kernel
theorem dX13_init_138 : decode cX13_init 138 = .ok (.iconst (-1), 1) := by decide +kernel
theorem dX13_init_139 : decode cX13_init 139 = .ok (.iastore, 1) := by decide +kernel
theorem dX13_init_140 : decode cX13_init 140 = .ok (.dup, 1) := by decide +kernel
theorem dX13_init_141 : decode cX13_init 141 = .ok (.bipush 20, 2) := by decide +kernel
theorem dX13_init_143 : decode cX13_init 143 = .ok (.iconst (-1), 1) := by decide +kernel
theorem dX13_init_144 : decode cX13_init 144 = .ok (.iastore, 1) := by decide +kernel
theorem dX13_init_145 : decode cX13_init 145 = .ok (.dup, 1) := by decide +kernel
theorem dX13_init_146 : decode cX13_init 146 = .ok (.bipush 21, 2) := by decide +kernel
theorem dX13_init_148 : decode cX13_init 148 = .ok (.iconst (-1), 1) := by decide +kernel
theorem dX13_init_149 : decode cX13_init 149 = .ok (.iastore, 1) := by decide +kernel
theorem dX13_init_150 : decode cX13_init 150 = .ok (.dup, 1) := by decide +kernel
theorem dX13_init_151 : decode cX13_init 151 = .ok (.bipush 22, 2) := by decide +kernel
theorem dX13_init_153 : decode cX13_init 153 = .ok (.iconst (-1), 1) := by decide +kernel
theorem dX13_init_154 : decode cX13_init 154 = .ok (.iastore, 1) := by decide +kernel
theorem dX13_init_155 : decode cX13_init 155 = .ok (.dup, 1) := by decide +kernel
theorem dX13_init_156 : decode cX13_init 156 = .ok (.bipush 23, 2) := by decide +kernel
theorem dX13_init_158 : decode cX13_init 158 = .ok (.iconst (-1), 1) := by decide +kernel
theorem dX13_init_159 : decode cX13_init 159 = .ok (.iastore, 1) := by decide +kernel
theorem dX13_init_160 : decode cX13_init 160 = .ok (.putfield 20, 3) := by decide +kernel
theorem dX13_init_163 : decode cX13_init 163 = .ok (.aload_n 0, 1) := by decide +kernel
theorem dX13_init_164 : decode cX13_init 164 = .ok (.bipush 32, 2) := by decide +kernel
theorem dX13_init_166 : decode cX13_init 166 = .ok (.newarray .int, 2) := by decide +kernel
theorem dX13_init_168 : decode cX13_init 168 = .ok (.putfield 23, 3) := by decide +kernel
theorem dX13_init_171 : decode cX13_init 171 = .ok (.aload_n 0, 1) := by decide +kernel
theorem dX13_init_172 : decode cX13_init 172 = .ok (.bipush 32, 2) := by decide +kernel
theorem dX13_init_174 : decode cX13_init 174 = .ok (.newarray .int, 2) := by decide +kernel
theorem dX13_init_176 : decode cX13_init 176 = .ok (.putfield 26, 3) := by decide +kernel
theorem dX13_init_179 : decode cX13_init 179 = .ok (.aload_n 0, 1) := by decide +kernel
theorem dX13_init_180 : decode cX13_init 180 = .ok (.bipush 32, 2) := by decide +kernel
theorem dX13_init_182 : decode cX13_init 182 = .ok (.newarray .int, 2) := by decide +kernel
theorem dX13_init_184 : decode cX13_init 184 = .ok (.putfield 29, 3) := by decide +kernel
theorem dX13_init_187 : decode cX13_init 187 = .ok (.aload_n 0, 1) := by decide +kernel
theorem dX13_init_188 : decode cX13_init 188 = .ok (.sipush 384, 3) := by decide +kernel
theorem dX13_init_191 : decode cX13_init 191 = .ok (.newarray .int, 2) := by decide +kernel
theorem dX13_init_193 : decode cX13_init 193 = .ok (.putfield 32, 3) := by decide +kernel
theorem dX13_init_196 : decode cX13_init 196 = .ok (.aload_n 0, 1) := by decide +kernel
theorem dX13_init_197 : decode cX13_init 197 = .ok (.sipush 384, 3) := by decide +kernel
theorem dX13_init_200 : decode cX13_init 200 = .ok (.newarray .long, 2) := by decide +kernel
theorem dX13_init_202 : decode cX13_init 202 = .ok (.putfield 35, 3) := by decide +kernel
theorem dX13_init_205 : decode cX13_init 205 = .ok (.aload_n 0, 1) := by decide +kernel
theorem dX13_init_206 : decode cX13_init 206 = .ok (.sipush 384, 3) := by decide +kernel
theorem dX13_init_209 : decode cX13_init 209 = .ok (.newarray .double, 2) := by decide +kernel
theorem dX13_init_211 : decode cX13_init 211 = .ok (.putfield 39, 3) := by decide +kernel
theorem dX13_init_214 : decode cX13_init 214 = .ok (.aload_n 0, 1) := by decide +kernel
theorem dX13_init_215 : decode cX13_init 215 = .ok (.bipush 12, 2) := by decide +kernel
theorem dX13_init_217 : decode cX13_init 217 = .ok (.newarray .int, 2) := by decide +kernel
theorem dX13_init_219 : decode cX13_init 219 = .ok (.putfield 43, 3) := by decide +kernel
theorem dX13_init_222 : decode cX13_init 222 = .ok (.aload_n 0, 1) := by decide +kernel
theorem dX13_init_223 : decode cX13_init 223 = .ok (.bipush 12, 2) := by decide +kernel
theorem dX13_init_225 : decode cX13_init 225 = .ok (.newarray .long, 2) := by decide +kernel
theorem dX13_init_227 : decode cX13_init 227 = .ok (.putfield 46, 3) := by decide +kernel
theorem dX13_init_230 : decode cX13_init 230 = .ok (.aload_n 0, 1) := by decide +kernel
theorem dX13_init_231 : decode cX13_init 231 = .ok (.bipush 12, 2) := by decide +kernel
theorem dX13_init_233 : decode cX13_init 233 = .ok (.newarray .double, 2) := by decide +kernel
theorem dX13_init_235 : decode cX13_init 235 = .ok (.putfield 49, 3) := by decide +kernel
theorem dX13_init_238 : decode cX13_init 238 = .ok (.aload_n 0, 1) := by decide +kernel
theorem dX13_init_239 : decode cX13_init 239 = .ok (.bipush 6, 2) := by decide +kernel
theorem dX13_init_241 : decode cX13_init 241 = .ok (.newarray .int, 2) := by decide +kernel
theorem dX13_init_243 : decode cX13_init 243 = .ok (.putfield 52, 3) := by decide +kernel
theorem dX13_init_246 : decode cX13_init 246 = .ok (.aload_n 0, 1) := by decide +kernel
theorem dX13_init_247 : decode cX13_init 247 = .ok (.bipush 12, 2) := by decide +kernel
theorem dX13_init_249 : decode cX13_init 249 = .ok (.newarray .long, 2) := by decide +kernel
theorem dX13_init_251 : decode cX13_init 251 = .ok (.putfield 55, 3) := by decide +kernel
theorem dX13_init_254 : decode cX13_init 254 = .ok (.aload_n 0, 1) := by decide +kernel
theorem dX13_init_255 : decode cX13_init 255 = .ok (.bipush 12, 2) := by decide +kernel
theorem dX13_init_257 : decode cX13_init 257 = .ok (.newarray .int, 2) := by decide +kernel
theorem dX13_init_259 : decode cX13_init 259 = .ok (.putfield 58, 3) := by decide +kernel
theorem dX13_init_262 : decode cX13_init 262 = .ok (.aload_n 0, 1) := by decide +kernel
theorem dX13_init_263 : decode cX13_init 263 = .ok (.bipush 12, 2) := by decide +kernel
theorem dX13_init_265 : decode cX13_init 265 = .ok (.newarray .long, 2) := by decide +kernel
theorem dX13_init_267 : decode cX13_init 267 = .ok (.putfield 61, 3) := by decide +kernel
theorem dX13_init_270 : decode cX13_init 270 = .ok (.aload_n 0, 1) := by decide +kernel
theorem dX13_init_271 : decode cX13_init 271 = .ok (.bipush 12, 2) := by decide +kernel
theorem dX13_init_273 : decode cX13_init 273 = .ok (.newarray .int, 2) := by decide +kernel
theorem dX13_init_275 : decode cX13_init 275 = .ok (.putfield 64, 3) := by decide +kernel
theorem dX13_init_278 : decode cX13_init 278 = .ok (.aload_n 0, 1) := by decide +kernel
theorem dX13_init_279 : decode cX13_init 279 = .ok (.bipush 72, 2) := by decide +kernel
theorem dX13_init_281 : decode cX13_init 281 = .ok (.newarray .int, 2) := by decide +kernel
theorem dX13_init_283 : decode cX13_init 283 = .ok (.putfield 67, 3) := by decide +kernel
theorem dX13_init_286 : decode cX13_init 286 = .ok (.aload_n 0, 1) := by decide +kernel
theorem dX13_init_287 : decode cX13_init 287 = .ok (.iconst 3, 1) := by decide +kernel
theorem dX13_init_288 : decode cX13_init 288 = .ok (.newarray .int, 2) := by decide +kernel
theorem dX13_init_290 : decode cX13_init 290 = .ok (.putfield 70, 3) := by decide +kernel
theorem dX13_init_293 : decode cX13_init 293 = .ok (.aload_n 0, 1) := by decide +kernel
theorem dX13_init_294 : decode cX13_init 294 = .ok (.bipush 12, 2) := by decide +kernel
theorem dX13_init_296 : decode cX13_init 296 = .ok (.newarray .int, 2) := by decide +kernel
theorem dX13_init_298 : decode cX13_init 298 = .ok (.putfield 73, 3) := by decide +kernel
theorem dX13_init_301 : decode cX13_init 301 = .ok (.aload_n 0, 1) := by decide +kernel
theorem dX13_init_302 : decode cX13_init 302 = .ok (.bipush 72, 2) := by decide +kernel
theorem dX13_init_304 : decode cX13_init 304 = .ok (.newarray .int, 2) := by decide +kernel
theorem dX13_init_306 : decode cX13_init 306 = .ok (.putfield 76, 3) := by decide +kernel
theorem dX13_init_309 : decode cX13_init 309 = .ok (.aload_n 0, 1) := by decide +kernel
theorem dX13_init_310 : decode cX13_init 310 = .ok (.bipush 96, 2) := by decide +kernel
theorem dX13_init_312 : decode cX13_init 312 = .ok (.newarray .int, 2) := by decide +kernel
theorem dX13_init_314 : decode cX13_init 314 = .ok (.putfield 79, 3) := by decide +kernel
theorem dX13_init_317 : decode cX13_init 317 = .ok (.aload_n 0, 1) := by decide +kernel
theorem dX13_init_318 : decode cX13_init 318 = .ok (.bipush 96, 2) := by decide +kernel
theorem dX13_init_320 : decode cX13_init 320 = .ok (.newarray .int, 2) := by decide +kernel
theorem dX13_init_322 : decode cX13_init 322 = .ok (.putfield 82, 3) := by decide +kernel
theorem dX13_init_325 : decode cX13_init 325 = .ok (.aload_n 0, 1) := by decide +kernel
theorem dX13_init_326 : decode cX13_init 326 = .ok (.sipush 1152, 3) := by decide +kernel
theorem dX13_init_329 : decode cX13_init 329 = .ok (.newarray .int, 2) := by decide +kernel
theorem dX13_init_331 : decode cX13_init 331 = .ok (.putfield 85, 3) := by decide +kernel
theorem dX13_init_334 : decode cX13_init 334 = .ok (.aload_n 0, 1) := by decide +kernel
theorem dX13_init_335 : decode cX13_init 335 = .ok (.sipush 1152, 3) := by decide +kernel
theorem dX13_init_338 : decode cX13_init 338 = .ok (.newarray .long, 2) := by decide +kernel
theorem dX13_init_340 : decode cX13_init 340 = .ok (.putfield 88, 3) := by decide +kernel
theorem dX13_init_343 : decode cX13_init 343 = .ok (.aload_n 0, 1) := by decide +kernel
theorem dX13_init_344 : decode cX13_init 344 = .ok (.sipush 1152, 3) := by decide +kernel
theorem dX13_init_347 : decode cX13_init 347 = .ok (.newarray .double, 2) := by decide +kernel
theorem dX13_init_349 : decode cX13_init 349 = .ok (.putfield 91, 3) := by decide +kernel
theorem dX13_init_352 : decode cX13_init 352 = .ok (.aload_n 0, 1) := by decide +kernel
theorem dX13_init_353 : decode cX13_init 353 = .ok (.bipush 80, 2) := by decide +kernel
theorem dX13_init_355 : decode cX13_init 355 = .ok (.newarray .int, 2) := by decide +kernel
theorem dX13_init_357 : decode cX13_init 357 = .ok (.putfield 94, 3) := by decide +kernel
theorem dX13_init_360 : decode cX13_init 360 = .ok (.aload_n 0, 1) := by decide +kernel
theorem dX13_init_361 : decode cX13_init 361 = .ok (.bipush 8, 2) := by decide +kernel
theorem dX13_init_363 : decode cX13_init 363 = .ok (.newarray .int, 2) := by decide +kernel
theorem dX13_init_365 : decode cX13_init 365 = .ok (.putfield 97, 3) := by decide +kernel
theorem dX13_init_368 : decode cX13_init 368 = .ok (.aload_n 0, 1) := by decide +kernel
theorem dX13_init_369 : decode cX13_init 369 = .ok (.bipush 40, 2) := by decide +kernel
theorem dX13_init_371 : decode cX13_init 371 = .ok (.newarray .int, 2) := by decide +kernel
theorem dX13_init_373 : decode cX13_init 373 = .ok (.putfield 100, 3) := by decide +kernel
theorem dX13_init_376 : decode cX13_init 376 = .ok (.aload_n 0, 1) := by decide +kernel
theorem dX13_init_377 : decode cX13_init 377 = .ok (.bipush 6, 2) := by decide +kernel
theorem dX13_init_379 : decode cX13_init 379 = .ok (.newarray .int, 2) := by decide +kernel
theorem dX13_init_381 : decode cX13_init 381 = .ok (.putfield 103, 3) := by decide +kernel
theorem dX13_init_384 : decode cX13_init 384 = .ok (.aload_n 0, 1) := by decide +kernel
theorem dX13_init_385 : decode cX13_init 385 = .ok (.bipush 6, 2) := by decide +kernel
theorem dX13_init_387 : decode cX13_init 387 = .ok (.newarray .int, 2) := by decide +kernel
theorem dX13_init_389 : decode cX13_init 389 = .ok (.putfield 106, 3) := by decide +kernel
theorem dX13_init_392 : decode cX13_init 392 = .ok (.return_, 1) := by decide +kernel
theorem dX13_in_0 : decode cX13_in 0 = .ok (.iload_n 0, 1) := by decide +kernel
theorem dX13_in_1 : decode cX13_in 1 = .ok (.iload_n 1, 1) := by decide +kernel
theorem dX13_in_2 : decode cX13_in 2 = .ok (.if_icmp .lt 12, 3) := by decide +kernel
theorem dX13_in_5 : decode cX13_in 5 = .ok (.iload_n 0, 1) := by decide +kernel
theorem dX13_in_6 : decode cX13_in 6 = .ok (.iload_n 2, 1) := by decide +kernel
theorem dX13_in_7 : decode cX13_in 7 = .ok (.if_icmp .gt 7, 3) := by decide +kernel
theorem dX13_in_10 : decode cX13_in 10 = .ok (.iconst 1, 1) := by decide +kernel
theorem dX13_in_11 : decode cX13_in 11 = .ok (.goto 4, 3) := by decide +kernel
theorem dX13_in_14 : decode cX13_in 14 = .ok (.iconst 0, 1) := by decide +kernel
theorem dX13_in_15 : decode cX13_in 15 = .ok (.ireturn, 1) := by decide +kernel
theorem dX13_said_0 : decode cX13_said 0 = .ok (.iload_n 1, 1) := by decide +kernel
theorem dX13_said_1 : decode cX13_said 1 = .ok (.bipush (-8), 2) := by decide +kernel
theorem dX13_said_3 : decode cX13_said 3 = .ok (.iconst (-1), 1) := by decide +kernel
theorem dX13_said_4 : decode cX13_said 4 = .ok (.invokestatic 109, 3) := by decide +kernel
theorem dX13_said_7 : decode cX13_said 7 = .ok (.ifCond .ne 9, 3) := by decide +kernel
theorem dX13_said_10 : decode cX13_said 10 = .ok (.iload_n 1, 1) := by decide +kernel
theorem dX13_said_11 : decode cX13_said 11 = .ok (.bipush (-10), 2) := by decide +kernel
theorem dX13_said_13 : decode cX13_said 13 = .ok (.if_icmp .ne 14, 3) := by decide +kernel
theorem dX13_said_16 : decode cX13_said 16 = .ok (.aload_n 0, 1) := by decide +kernel
theorem dX13_said_17 : decode cX13_said 17 = .ok (.getfield 7, 3) := by decide +kernel
theorem dX13_said_20 : decode cX13_said 20 = .ok (.iload_n 1, 1) := by decide +kernel
theorem dX13_said_21 : decode cX13_said 21 = .ok (.ineg, 1) := by decide +kernel
theorem dX13_said_22 : decode cX13_said 22 = .ok (.dup2, 1) := by decide +kernel
theorem dX13_said_23 : decode cX13_said 23 = .ok (.iaload, 1) := by decide +kernel
theorem dX13_said_24 : decode cX13_said 24 = .ok (.iconst 1, 1) := by decide +kernel
theorem dX13_said_25 : decode cX13_said 25 = .ok (.iadd, 1) := by decide +kernel
theorem dX13_said_26 : decode cX13_said 26 = .ok (.iastore, 1) := by decide +kernel
theorem dX13_said_27 : decode cX13_said 27 = .ok (.aload_n 0, 1) := by decide +kernel
theorem dX13_said_28 : decode cX13_said 28 = .ok (.invokevirtual 113, 3) := by decide +kernel
theorem dX13_said_31 : decode cX13_said 31 = .ok (.iload_n 1, 1) := by decide +kernel
theorem dX13_said_32 : decode cX13_said 32 = .ok (.ireturn, 1) := by decide +kernel
theorem dX13_tells_0 : decode cX13_tells 0 = .ok (.aload_n 0, 1) := by decide +kernel
theorem dX13_tells_1 : decode cX13_tells 1 = .ok (.lload_n 1, 1) := by decide +kernel
theorem dX13_tells_2 : decode cX13_tells 2 = .ok (.putfield 116, 3) := by decide +kernel
theorem dX13_tells_5 : decode cX13_tells 5 = .ok (.iload_n 3, 1) := by decide +kernel
theorem dX13_tells_6 : decode cX13_tells 6 = .ok (.ireturn, 1) := by decide +kernel
theorem dX13_ends_0 : decode cX13_ends 0 = .ok (.iconst 0, 1) := by decide +kernel
theorem dX13_ends_1 : decode cX13_ends 1 = .ok (.istore_n 1, 1) := by decide +kernel
theorem dX13_ends_2 : decode cX13_ends 2 = .ok (.iload_n 1, 1) := by decide +kernel
theorem dX13_ends_3 : decode cX13_ends 3 = .ok (.bipush 32, 2) := by decide +kernel
theorem dX13_ends_5 : decode cX13_ends 5 = .ok (.if_icmp .ge 16, 3) := by decide +kernel
theorem dX13_ends_8 : decode cX13_ends 8 = .ok (.aload_n 0, 1) := by decide +kernel
theorem dX13_ends_9 : decode cX13_ends 9 = .ok (.getfield 29, 3) := by decide +kernel
theorem dX13_ends_12 : decode cX13_ends 12 = .ok (.iload_n 1, 1) := by decide +kernel
theorem dX13_ends_13 : decode cX13_ends 13 = .ok (.iconst 0, 1) := by decide +kernel
theorem dX13_ends_14 : decode cX13_ends 14 = .ok (.iastore, 1) := by decide +kernel
theorem dX13_ends_15 : decode cX13_ends 15 = .ok (.iinc 1 1, 3) := by decide +kernel
theorem dX13_ends_18 : decode cX13_ends 18 = .ok (.goto (-16), 3) := by decide +kernel
theorem dX13_ends_21 : decode cX13_ends 21 = .ok (.return_, 1) := by decide +kernel
theorem dX13_isHeld_0 : decode cX13_isHeld 0 = .ok (.aload_n 0, 1) := by decide +kernel
theorem dX13_isHeld_1 : decode cX13_isHeld 1 = .ok (.getfield 29, 3) := by decide +kernel
theorem dX13_isHeld_4 : decode cX13_isHeld 4 = .ok (.iload_n 1, 1) := by decide +kernel
theorem dX13_isHeld_5 : decode cX13_isHeld 5 = .ok (.iaload, 1) := by decide +kernel
theorem dX13_isHeld_6 : decode cX13_isHeld 6 = .ok (.iconst 1, 1) := by decide +kernel
theorem dX13_isHeld_7 : decode cX13_isHeld 7 = .ok (.if_icmp .ne 7, 3) := by decide +kernel
theorem dX13_isHeld_10 : decode cX13_isHeld 10 = .ok (.iconst 1, 1) := by decide +kernel
theorem dX13_isHeld_11 : decode cX13_isHeld 11 = .ok (.goto 4, 3) := by decide +kernel
theorem dX13_isHeld_14 : decode cX13_isHeld 14 = .ok (.iconst 0, 1) := by decide +kernel
theorem dX13_isHeld_15 : decode cX13_isHeld 15 = .ok (.istore_n 2, 1) := by decide +kernel
theorem dX13_isHeld_16 : decode cX13_isHeld 16 = .ok (.iconst 0, 1) := by decide +kernel
theorem dX13_isHeld_17 : decode cX13_isHeld 17 = .ok (.istore_n 3, 1) := by decide +kernel
theorem dX13_isHeld_18 : decode cX13_isHeld 18 = .ok (.iload_n 3, 1) := by decide +kernel
theorem dX13_isHeld_19 : decode cX13_isHeld 19 = .ok (.bipush 24, 2) := by decide +kernel
theorem dX13_isHeld_21 : decode cX13_isHeld 21 = .ok (.if_icmp .ge 29, 3) := by decide +kernel
theorem dX13_isHeld_24 : decode cX13_isHeld 24 = .ok (.iload_n 2, 1) := by decide +kernel
theorem dX13_isHeld_25 : decode cX13_isHeld 25 = .ok (.ifCond .ne 13, 3) := by decide +kernel
theorem dX13_isHeld_28 : decode cX13_isHeld 28 = .ok (.aload_n 0, 1) := by decide +kernel
theorem dX13_isHeld_29 : decode cX13_isHeld 29 = .ok (.getfield 20, 3) := by decide +kernel
theorem dX13_isHeld_32 : decode cX13_isHeld 32 = .ok (.iload_n 3, 1) := by decide +kernel
theorem dX13_isHeld_33 : decode cX13_isHeld 33 = .ok (.iaload, 1) := by decide +kernel
theorem dX13_isHeld_34 : decode cX13_isHeld 34 = .ok (.iload_n 1, 1) := by decide +kernel
theorem dX13_isHeld_35 : decode cX13_isHeld 35 = .ok (.if_icmp .ne 7, 3) := by decide +kernel
theorem dX13_isHeld_38 : decode cX13_isHeld 38 = .ok (.iconst 1, 1) := by decide +kernel
theorem dX13_isHeld_39 : decode cX13_isHeld 39 = .ok (.goto 4, 3) := by decide +kernel
theorem dX13_isHeld_42 : decode cX13_isHeld 42 = .ok (.iconst 0, 1) := by decide +kernel
theorem dX13_isHeld_43 : decode cX13_isHeld 43 = .ok (.istore_n 2, 1) := by decide +kernel
theorem dX13_isHeld_44 : decode cX13_isHeld 44 = .ok (.iinc 3 1, 3) := by decide +kernel
theorem dX13_isHeld_47 : decode cX13_isHeld 47 = .ok (.goto (-29), 3) := by decide +kernel
theorem dX13_isHeld_50 : decode cX13_isHeld 50 = .ok (.iload_n 2, 1) := by decide +kernel
theorem dX13_isHeld_51 : decode cX13_isHeld 51 = .ok (.ireturn, 1) := by decide +kernel
theorem dX13_newRow_0 : decode cX13_newRow 0 = .ok (.iconst 0, 1) := by decide +kernel
theorem dX13_newRow_1 : decode cX13_newRow 1 = .ok (.istore_n 3, 1) := by decide +kernel
theorem dX13_newRow_2 : decode cX13_newRow 2 = .ok (.iload_n 3, 1) := by decide +kernel
theorem dX13_newRow_3 : decode cX13_newRow 3 = .ok (.bipush 31, 2) := by decide +kernel
theorem dX13_newRow_5 : decode cX13_newRow 5 = .ok (.if_icmp .ge 17, 3) := by decide +kernel
theorem dX13_newRow_8 : decode cX13_newRow 8 = .ok (.aload_n 0, 1) := by decide +kernel
theorem dX13_newRow_9 : decode cX13_newRow 9 = .ok (.iload_n 3, 1) := by decide +kernel
theorem dX13_newRow_10 : decode cX13_newRow 10 = .ok (.invokevirtual 120, 3) := by decide +kernel
theorem dX13_newRow_13 : decode cX13_newRow 13 = .ok (.ifCond .eq 9, 3) := by decide +kernel
theorem dX13_newRow_16 : decode cX13_newRow 16 = .ok (.iinc 3 1, 3) := by decide +kernel
theorem dX13_newRow_19 : decode cX13_newRow 19 = .ok (.goto (-17), 3) := by decide +kernel
theorem dX13_newRow_22 : decode cX13_newRow 22 = .ok (.aload_n 0, 1) := by decide +kernel
theorem dX13_newRow_23 : decode cX13_newRow 23 = .ok (.getfield 29, 3) := by decide +kernel
theorem dX13_newRow_26 : decode cX13_newRow 26 = .ok (.iload_n 3, 1) := by decide +kernel
theorem dX13_newRow_27 : decode cX13_newRow 27 = .ok (.iconst 1, 1) := by decide +kernel
theorem dX13_newRow_28 : decode cX13_newRow 28 = .ok (.iastore, 1) := by decide +kernel
theorem dX13_newRow_29 : decode cX13_newRow 29 = .ok (.aload_n 0, 1) := by decide +kernel
theorem dX13_newRow_30 : decode cX13_newRow 30 = .ok (.getfield 23, 3) := by decide +kernel
theorem dX13_newRow_33 : decode cX13_newRow 33 = .ok (.iload_n 3, 1) := by decide +kernel
theorem dX13_newRow_34 : decode cX13_newRow 34 = .ok (.iload_n 1, 1) := by decide +kernel
theorem dX13_newRow_35 : decode cX13_newRow 35 = .ok (.iastore, 1) := by decide +kernel
theorem dX13_newRow_36 : decode cX13_newRow 36 = .ok (.aload_n 0, 1) := by decide +kernel
theorem dX13_newRow_37 : decode cX13_newRow 37 = .ok (.getfield 26, 3) := by decide +kernel
theorem dX13_newRow_40 : decode cX13_newRow 40 = .ok (.iload_n 3, 1) := by decide +kernel
theorem dX13_newRow_41 : decode cX13_newRow 41 = .ok (.iload_n 2, 1) := by decide +kernel
theorem dX13_newRow_42 : decode cX13_newRow 42 = .ok (.iastore, 1) := by decide +kernel
theorem dX13_newRow_43 : decode cX13_newRow 43 = .ok (.iconst 0, 1) := by decide +kernel
theorem dX13_newRow_44 : decode cX13_newRow 44 = .ok (.istore 4, 2) := by decide +kernel
theorem dX13_newRow_46 : decode cX13_newRow 46 = .ok (.iload 4, 2) := by decide +kernel
theorem dX13_newRow_48 : decode cX13_newRow 48 = .ok (.bipush 12, 2) := by decide +kernel
theorem dX13_newRow_50 : decode cX13_newRow 50 = .ok (.if_icmp .ge 59, 3) := by decide +kernel
theorem dX13_newRow_53 : decode cX13_newRow 53 = .ok (.aload_n 0, 1) := by decide +kernel
theorem dX13_newRow_54 : decode cX13_newRow 54 = .ok (.getfield 32, 3) := by decide +kernel
theorem dX13_newRow_57 : decode cX13_newRow 57 = .ok (.bipush 12, 2) := by decide +kernel
theorem dX13_newRow_59 : decode cX13_newRow 59 = .ok (.iload_n 3, 1) := by decide +kernel
theorem dX13_newRow_60 : decode cX13_newRow 60 = .ok (.imul, 1) := by decide +kernel
theorem dX13_newRow_61 : decode cX13_newRow 61 = .ok (.iload 4, 2) := by decide +kernel
theorem dX13_newRow_63 : decode cX13_newRow 63 = .ok (.iadd, 1) := by decide +kernel
theorem dX13_newRow_64 : decode cX13_newRow 64 = .ok (.iload_n 1, 1) := by decide +kernel
theorem dX13_newRow_65 : decode cX13_newRow 65 = .ok (.bipush 8, 2) := by decide +kernel
theorem dX13_newRow_67 : decode cX13_newRow 67 = .ok (.if_icmp .ge 7, 3) := by decide +kernel
theorem dX13_newRow_70 : decode cX13_newRow 70 = .ok (.iload_n 1, 1) := by decide +kernel
theorem dX13_newRow_71 : decode cX13_newRow 71 = .ok (.goto 5, 3) := by decide +kernel
theorem dX13_newRow_74 : decode cX13_newRow 74 = .ok (.bipush 11, 2) := by decide +kernel
theorem dX13_newRow_76 : decode cX13_newRow 76 = .ok (.iastore, 1) := by decide +kernel
theorem dX13_newRow_77 : decode cX13_newRow 77 = .ok (.aload_n 0, 1) := by decide +kernel
theorem dX13_newRow_78 : decode cX13_newRow 78 = .ok (.getfield 35, 3) := by decide +kernel
theorem dX13_newRow_81 : decode cX13_newRow 81 = .ok (.bipush 12, 2) := by decide +kernel
theorem dX13_newRow_83 : decode cX13_newRow 83 = .ok (.iload_n 3, 1) := by decide +kernel
theorem dX13_newRow_84 : decode cX13_newRow 84 = .ok (.imul, 1) := by decide +kernel
theorem dX13_newRow_85 : decode cX13_newRow 85 = .ok (.iload 4, 2) := by decide +kernel
theorem dX13_newRow_87 : decode cX13_newRow 87 = .ok (.iadd, 1) := by decide +kernel
theorem dX13_newRow_88 : decode cX13_newRow 88 = .ok (.lconst 0, 1) := by decide +kernel
theorem dX13_newRow_89 : decode cX13_newRow 89 = .ok (.lastore, 1) := by decide +kernel
theorem dX13_newRow_90 : decode cX13_newRow 90 = .ok (.aload_n 0, 1) := by decide +kernel
theorem dX13_newRow_91 : decode cX13_newRow 91 = .ok (.getfield 39, 3) := by decide +kernel
theorem dX13_newRow_94 : decode cX13_newRow 94 = .ok (.bipush 12, 2) := by decide +kernel
theorem dX13_newRow_96 : decode cX13_newRow 96 = .ok (.iload_n 3, 1) := by decide +kernel
theorem dX13_newRow_97 : decode cX13_newRow 97 = .ok (.imul, 1) := by decide +kernel
theorem dX13_newRow_98 : decode cX13_newRow 98 = .ok (.iload 4, 2) := by decide +kernel
theorem dX13_newRow_100 : decode cX13_newRow 100 = .ok (.iadd, 1) := by decide +kernel
theorem dX13_newRow_101 : decode cX13_newRow 101 = .ok (.dconst 0, 1) := by decide +kernel
theorem dX13_newRow_102 : decode cX13_newRow 102 = .ok (.dastore, 1) := by decide +kernel
theorem dX13_newRow_103 : decode cX13_newRow 103 = .ok (.iinc 4 1, 3) := by decide +kernel
theorem dX13_newRow_106 : decode cX13_newRow 106 = .ok (.goto (-60), 3) := by decide +kernel
theorem dX13_newRow_109 : decode cX13_newRow 109 = .ok (.iload_n 3, 1) := by decide +kernel
theorem dX13_newRow_110 : decode cX13_newRow 110 = .ok (.ireturn, 1) := by decide +kernel
theorem dX13_isGrid_0 : decode cX13_isGrid 0 = .ok (.iload_n 0, 1) := by decide +kernel
theorem dX13_isGrid_1 : decode cX13_isGrid 1 = .ok (.iconst 0, 1) := by decide +kernel
theorem dX13_isGrid_2 : decode cX13_isGrid 2 = .ok (.iconst 3, 1) := by decide +kernel
theorem dX13_isGrid_3 : decode cX13_isGrid 3 = .ok (.invokestatic 109, 3) := by decide +kernel
theorem dX13_isGrid_6 : decode cX13_isGrid 6 = .ok (.ireturn, 1) := by decide +kernel
theorem dX13_isKind_0 : decode cX13_isKind 0 = .ok (.iload_n 0, 1) := by decide +kernel
theorem dX13_isKind_1 : decode cX13_isKind 1 = .ok (.iconst 0, 1) := by decide +kernel
theorem dX13_isKind_2 : decode cX13_isKind 2 = .ok (.bipush 11, 2) := by decide +kernel
theorem dX13_isKind_4 : decode cX13_isKind 4 = .ok (.invokestatic 109, 3) := by decide +kernel
theorem dX13_isKind_7 : decode cX13_isKind 7 = .ok (.ireturn, 1) := by decide +kernel
theorem dX13_isPlain_0 : decode cX13_isPlain 0 = .ok (.iload_n 0, 1) := by decide +kernel
theorem dX13_isPlain_1 : decode cX13_isPlain 1 = .ok (.iconst 0, 1) := by decide +kernel
theorem dX13_isPlain_2 : decode cX13_isPlain 2 = .ok (.bipush 7, 2) := by decide +kernel
theorem dX13_isPlain_4 : decode cX13_isPlain 4 = .ok (.invokestatic 109, 3) := by decide +kernel
theorem dX13_isPlain_7 : decode cX13_isPlain 7 = .ok (.ireturn, 1) := by decide +kernel
theorem dX13_isSort_0 : decode cX13_isSort 0 = .ok (.iload_n 0, 1) := by decide +kernel
theorem dX13_isSort_1 : decode cX13_isSort 1 = .ok (.iconst 0, 1) := by decide +kernel
theorem dX13_isSort_2 : decode cX13_isSort 2 = .ok (.bipush 11, 2) := by decide +kernel
theorem dX13_isSort_4 : decode cX13_isSort 4 = .ok (.invokestatic 109, 3) := by decide +kernel
theorem dX13_isSort_7 : decode cX13_isSort 7 = .ok (.ireturn, 1) := by decide +kernel
theorem dX13_held_0 : decode cX13_held 0 = .ok (.aload_n 0, 1) := by decide +kernel
theorem dX13_held_1 : decode cX13_held 1 = .ok (.getfield 20, 3) := by decide +kernel
theorem dX13_held_4 : decode cX13_held 4 = .ok (.bipush 6, 2) := by decide +kernel
theorem dX13_held_6 : decode cX13_held 6 = .ok (.iload_n 1, 1) := by decide +kernel
theorem dX13_held_7 : decode cX13_held 7 = .ok (.imul, 1) := by decide +kernel
theorem dX13_held_8 : decode cX13_held 8 = .ok (.iload_n 2, 1) := by decide +kernel
theorem dX13_held_9 : decode cX13_held 9 = .ok (.iadd, 1) := by decide +kernel
theorem dX13_held_10 : decode cX13_held 10 = .ok (.iaload, 1) := by decide +kernel
theorem dX13_held_11 : decode cX13_held 11 = .ok (.ireturn, 1) := by decide +kernel
theorem dX13_holdsNow_0 : decode cX13_holdsNow 0 = .ok (.aload_n 0, 1) := by decide +kernel
theorem dX13_holdsNow_1 : decode cX13_holdsNow 1 = .ok (.getfield 20, 3) := by decide +kernel
theorem dX13_holdsNow_4 : decode cX13_holdsNow 4 = .ok (.bipush 6, 2) := by decide +kernel
theorem dX13_holdsNow_6 : decode cX13_holdsNow 6 = .ok (.iload_n 1, 1) := by decide +kernel
theorem dX13_holdsNow_7 : decode cX13_holdsNow 7 = .ok (.imul, 1) := by decide +kernel
theorem dX13_holdsNow_8 : decode cX13_holdsNow 8 = .ok (.iload_n 2, 1) := by decide +kernel
theorem dX13_holdsNow_9 : decode cX13_holdsNow 9 = .ok (.iadd, 1) := by decide +kernel
theorem dX13_holdsNow_10 : decode cX13_holdsNow 10 = .ok (.iload_n 3, 1) := by decide +kernel
theorem dX13_holdsNow_11 : decode cX13_holdsNow 11 = .ok (.iastore, 1) := by decide +kernel
theorem dX13_holdsNow_12 : decode cX13_holdsNow 12 = .ok (.return_, 1) := by decide +kernel
theorem dX13_placeFault_0 : decode cX13_placeFault 0 = .ok (.aload_n 0, 1) := by decide +kernel
theorem dX13_placeFault_1 : decode cX13_placeFault 1 = .ok (.getfield 17, 3) := by decide +kernel
theorem dX13_placeFault_4 : decode cX13_placeFault 4 = .ok (.iload_n 1, 1) := by decide +kernel
theorem dX13_placeFault_5 : decode cX13_placeFault 5 = .ok (.iaload, 1) := by decide +kernel
theorem dX13_placeFault_6 : decode cX13_placeFault 6 = .ok (.ifCond .ge 8, 3) := by decide +kernel
theorem dX13_placeFault_9 : decode cX13_placeFault 9 = .ok (.bipush (-2), 2) := by decide +kernel
theorem dX13_placeFault_11 : decode cX13_placeFault 11 = .ok (.goto 25, 3) := by decide +kernel
theorem dX13_placeFault_14 : decode cX13_placeFault 14 = .ok (.iload_n 2, 1) := by decide +kernel
theorem dX13_placeFault_15 : decode cX13_placeFault 15 = .ok (.iconst 0, 1) := by decide +kernel
theorem dX13_placeFault_16 : decode cX13_placeFault 16 = .ok (.aload_n 0, 1) := by decide +kernel
theorem dX13_placeFault_17 : decode cX13_placeFault 17 = .ok (.getfield 17, 3) := by decide +kernel
theorem dX13_placeFault_20 : decode cX13_placeFault 20 = .ok (.iload_n 1, 1) := by decide +kernel
theorem dX13_placeFault_21 : decode cX13_placeFault 21 = .ok (.iaload, 1) := by decide +kernel
theorem dX13_placeFault_22 : decode cX13_placeFault 22 = .ok (.iconst 1, 1) := by decide +kernel
theorem dX13_placeFault_23 : decode cX13_placeFault 23 = .ok (.isub, 1) := by decide +kernel
theorem dX13_placeFault_24 : decode cX13_placeFault 24 = .ok (.invokestatic 109, 3) := by decide +kernel
theorem dX13_placeFault_27 : decode cX13_placeFault 27 = .ok (.ifCond .eq 7, 3) := by decide +kernel
theorem dX13_placeFault_30 : decode cX13_placeFault 30 = .ok (.iconst 0, 1) := by decide +kernel
theorem dX13_placeFault_31 : decode cX13_placeFault 31 = .ok (.goto 5, 3) := by decide +kernel
theorem dX13_placeFault_34 : decode cX13_placeFault 34 = .ok (.bipush (-3), 2) := by decide +kernel
theorem dX13_placeFault_36 : decode cX13_placeFault 36 = .ok (.ireturn, 1) := by decide +kernel
theorem dX13_rowFault_0 : decode cX13_rowFault 0 = .ok (.aload_n 0, 1) := by decide +kernel
theorem dX13_rowFault_1 : decode cX13_rowFault 1 = .ok (.iload_n 1, 1) := by decide +kernel
theorem dX13_rowFault_2 : decode cX13_rowFault 2 = .ok (.iload_n 2, 1) := by decide +kernel
theorem dX13_rowFault_3 : decode cX13_rowFault 3 = .ok (.invokevirtual 124, 3) := by decide +kernel
theorem dX13_rowFault_6 : decode cX13_rowFault 6 = .ok (.istore_n 3, 1) := by decide +kernel
theorem dX13_rowFault_7 : decode cX13_rowFault 7 = .ok (.iload_n 3, 1) := by decide +kernel
theorem dX13_rowFault_8 : decode cX13_rowFault 8 = .ok (.ifCond .eq 5, 3) := by decide +kernel
theorem dX13_rowFault_11 : decode cX13_rowFault 11 = .ok (.iload_n 3, 1) := by decide +kernel
theorem dX13_rowFault_12 : decode cX13_rowFault 12 = .ok (.ireturn, 1) := by decide +kernel
theorem dX13_rowFault_13 : decode cX13_rowFault 13 = .ok (.aload_n 0, 1) := by decide +kernel
theorem dX13_rowFault_14 : decode cX13_rowFault 14 = .ok (.iload_n 1, 1) := by decide +kernel
theorem dX13_rowFault_15 : decode cX13_rowFault 15 = .ok (.iload_n 2, 1) := by decide +kernel
theorem dX13_rowFault_16 : decode cX13_rowFault 16 = .ok (.invokevirtual 128, 3) := by decide +kernel
theorem dX13_rowFault_19 : decode cX13_rowFault 19 = .ok (.istore 4, 2) := by decide +kernel
theorem dX13_rowFault_21 : decode cX13_rowFault 21 = .ok (.iload 4, 2) := by decide +kernel
theorem dX13_rowFault_23 : decode cX13_rowFault 23 = .ok (.iconst (-1), 1) := by decide +kernel
theorem dX13_rowFault_24 : decode cX13_rowFault 24 = .ok (.if_icmp .ne 8, 3) := by decide +kernel
theorem dX13_rowFault_27 : decode cX13_rowFault 27 = .ok (.bipush (-4), 2) := by decide +kernel
theorem dX13_rowFault_29 : decode cX13_rowFault 29 = .ok (.goto 14, 3) := by decide +kernel
theorem dX13_rowFault_32 : decode cX13_rowFault 32 = .ok (.iload 4, 2) := by decide +kernel
theorem dX13_rowFault_34 : decode cX13_rowFault 34 = .ok (.ifCond .ge 8, 3) := by decide +kernel
theorem dX13_rowFault_37 : decode cX13_rowFault 37 = .ok (.bipush (-5), 2) := by decide +kernel
theorem dX13_rowFault_39 : decode cX13_rowFault 39 = .ok (.goto 4, 3) := by decide +kernel
theorem dX13_rowFault_42 : decode cX13_rowFault 42 = .ok (.iconst 0, 1) := by decide +kernel
theorem dX13_rowFault_43 : decode cX13_rowFault 43 = .ok (.ireturn, 1) := by decide +kernel
theorem dX13_twoRows_0 : decode cX13_twoRows 0 = .ok (.aload_n 0, 1) := by decide +kernel
theorem dX13_twoRows_1 : decode cX13_twoRows 1 = .ok (.iload_n 1, 1) := by decide +kernel
theorem dX13_twoRows_2 : decode cX13_twoRows 2 = .ok (.iload_n 2, 1) := by decide +kernel
theorem dX13_twoRows_3 : decode cX13_twoRows 3 = .ok (.invokevirtual 131, 3) := by decide +kernel
theorem dX13_twoRows_6 : decode cX13_twoRows 6 = .ok (.istore 5, 2) := by decide +kernel
theorem dX13_twoRows_8 : decode cX13_twoRows 8 = .ok (.iload 5, 2) := by decide +kernel
theorem dX13_twoRows_10 : decode cX13_twoRows 10 = .ok (.ifCond .eq 8, 3) := by decide +kernel
theorem dX13_twoRows_13 : decode cX13_twoRows 13 = .ok (.iload 5, 2) := by decide +kernel
theorem dX13_twoRows_15 : decode cX13_twoRows 15 = .ok (.goto 10, 3) := by decide +kernel
theorem dX13_twoRows_18 : decode cX13_twoRows 18 = .ok (.aload_n 0, 1) := by decide +kernel
theorem dX13_twoRows_19 : decode cX13_twoRows 19 = .ok (.iload_n 3, 1) := by decide +kernel
theorem dX13_twoRows_20 : decode cX13_twoRows 20 = .ok (.iload 4, 2) := by decide +kernel
theorem dX13_twoRows_22 : decode cX13_twoRows 22 = .ok (.invokevirtual 131, 3) := by decide +kernel
theorem dX13_twoRows_25 : decode cX13_twoRows 25 = .ok (.ireturn, 1) := by decide +kernel
theorem dX13_twoPlaces_0 : decode cX13_twoPlaces 0 = .ok (.aload_n 0, 1) := by decide +kernel
theorem dX13_twoPlaces_1 : decode cX13_twoPlaces 1 = .ok (.iload_n 1, 1) := by decide +kernel
theorem dX13_twoPlaces_2 : decode cX13_twoPlaces 2 = .ok (.iload_n 2, 1) := by decide +kernel
theorem dX13_twoPlaces_3 : decode cX13_twoPlaces 3 = .ok (.invokevirtual 124, 3) := by decide +kernel
theorem dX13_twoPlaces_6 : decode cX13_twoPlaces 6 = .ok (.istore 5, 2) := by decide +kernel
theorem dX13_twoPlaces_8 : decode cX13_twoPlaces 8 = .ok (.iload 5, 2) := by decide +kernel
theorem dX13_twoPlaces_10 : decode cX13_twoPlaces 10 = .ok (.ifCond .eq 8, 3) := by decide +kernel
theorem dX13_twoPlaces_13 : decode cX13_twoPlaces 13 = .ok (.iload 5, 2) := by decide +kernel
theorem dX13_twoPlaces_15 : decode cX13_twoPlaces 15 = .ok (.goto 10, 3) := by decide +kernel
theorem dX13_twoPlaces_18 : decode cX13_twoPlaces 18 = .ok (.aload_n 0, 1) := by decide +kernel
theorem dX13_twoPlaces_19 : decode cX13_twoPlaces 19 = .ok (.iload_n 3, 1) := by decide +kernel
theorem dX13_twoPlaces_20 : decode cX13_twoPlaces 20 = .ok (.iload 4, 2) := by decide +kernel
theorem dX13_twoPlaces_22 : decode cX13_twoPlaces 22 = .ok (.invokevirtual 124, 3) := by decide +kernel
theorem dX13_twoPlaces_25 : decode cX13_twoPlaces 25 = .ok (.ireturn, 1) := by decide +kernel
theorem dX13_holdsOf_0 : decode cX13_holdsOf 0 = .ok (.aload_n 0, 1) := by decide +kernel
theorem dX13_holdsOf_1 : decode cX13_holdsOf 1 = .ok (.iload_n 1, 1) := by decide +kernel
theorem dX13_holdsOf_2 : decode cX13_holdsOf 2 = .ok (.iload_n 2, 1) := by decide +kernel
theorem dX13_holdsOf_3 : decode cX13_holdsOf 3 = .ok (.invokevirtual 128, 3) := by decide +kernel
theorem dX13_holdsOf_6 : decode cX13_holdsOf 6 = .ok (.istore_n 3, 1) := by decide +kernel
theorem dX13_holdsOf_7 : decode cX13_holdsOf 7 = .ok (.iload_n 3, 1) := by decide +kernel
theorem dX13_holdsOf_8 : decode cX13_holdsOf 8 = .ok (.ifCond .lt 12, 3) := by decide +kernel
theorem dX13_holdsOf_11 : decode cX13_holdsOf 11 = .ok (.aload_n 0, 1) := by decide +kernel
theorem dX13_holdsOf_12 : decode cX13_holdsOf 12 = .ok (.getfield 23, 3) := by decide +kernel
theorem dX13_holdsOf_15 : decode cX13_holdsOf 15 = .ok (.iload_n 3, 1) := by decide +kernel
theorem dX13_holdsOf_16 : decode cX13_holdsOf 16 = .ok (.iaload, 1) := by decide +kernel
theorem dX13_holdsOf_17 : decode cX13_holdsOf 17 = .ok (.goto 27, 3) := by decide +kernel
theorem dX13_holdsOf_20 : decode cX13_holdsOf 20 = .ok (.iload_n 3, 1) := by decide +kernel
theorem dX13_holdsOf_21 : decode cX13_holdsOf 21 = .ok (.bipush (-2), 2) := by decide +kernel
theorem dX13_holdsOf_23 : decode cX13_holdsOf 23 = .ok (.if_icmp .ne 8, 3) := by decide +kernel
theorem dX13_holdsOf_26 : decode cX13_holdsOf 26 = .ok (.bipush 12, 2) := by decide +kernel
theorem dX13_holdsOf_28 : decode cX13_holdsOf 28 = .ok (.goto 16, 3) := by decide +kernel
theorem dX13_holdsOf_31 : decode cX13_holdsOf 31 = .ok (.iload_n 3, 1) := by decide +kernel
theorem dX13_holdsOf_32 : decode cX13_holdsOf 32 = .ok (.bipush (-3), 2) := by decide +kernel
theorem dX13_holdsOf_34 : decode cX13_holdsOf 34 = .ok (.if_icmp .ne 8, 3) := by decide +kernel
theorem dX13_holdsOf_37 : decode cX13_holdsOf 37 = .ok (.bipush 13, 2) := by decide +kernel
theorem dX13_holdsOf_39 : decode cX13_holdsOf 39 = .ok (.goto 5, 3) := by decide +kernel
theorem dX13_holdsOf_42 : decode cX13_holdsOf 42 = .ok (.bipush 14, 2) := by decide +kernel
theorem dX13_holdsOf_44 : decode cX13_holdsOf 44 = .ok (.ireturn, 1) := by decide +kernel
theorem dX13_grid_0 : decode cX13_grid 0 = .ok (.iload_n 1, 1) := by decide +kernel
theorem dX13_grid_1 : decode cX13_grid 1 = .ok (.invokestatic 134, 3) := by decide +kernel
theorem dX13_grid_4 : decode cX13_grid 4 = .ok (.ifCond .eq 9, 3) := by decide +kernel
theorem dX13_grid_7 : decode cX13_grid 7 = .ok (.iload_n 2, 1) := by decide +kernel
theorem dX13_grid_8 : decode cX13_grid 8 = .ok (.bipush 6, 2) := by decide +kernel
theorem dX13_grid_10 : decode cX13_grid 10 = .ok (.if_icmp .le 9, 3) := by decide +kernel
theorem dX13_grid_13 : decode cX13_grid 13 = .ok (.aload_n 0, 1) := by decide +kernel
theorem dX13_grid_14 : decode cX13_grid 14 = .ok (.iconst (-1), 1) := by decide +kernel
theorem dX13_grid_15 : decode cX13_grid 15 = .ok (.invokevirtual 137, 3) := by decide +kernel
theorem dX13_grid_18 : decode cX13_grid 18 = .ok (.ireturn, 1) := by decide +kernel
theorem dX13_grid_19 : decode cX13_grid 19 = .ok (.iload_n 2, 1) := by decide +kernel
theorem dX13_grid_20 : decode cX13_grid 20 = .ok (.ifCond .ge 10, 3) := by decide +kernel
theorem dX13_grid_23 : decode cX13_grid 23 = .ok (.aload_n 0, 1) := by decide +kernel
theorem dX13_grid_24 : decode cX13_grid 24 = .ok (.bipush (-8), 2) := by decide +kernel
theorem dX13_grid_26 : decode cX13_grid 26 = .ok (.invokevirtual 137, 3) := by decide +kernel
theorem dX13_grid_29 : decode cX13_grid 29 = .ok (.ireturn, 1) := by decide +kernel
theorem dX13_grid_30 : decode cX13_grid 30 = .ok (.aload_n 0, 1) := by decide +kernel
theorem dX13_grid_31 : decode cX13_grid 31 = .ok (.iload_n 1, 1) := by decide +kernel
theorem dX13_grid_32 : decode cX13_grid 32 = .ok (.iload_n 2, 1) := by decide +kernel
theorem dX13_grid_33 : decode cX13_grid 33 = .ok (.invokevirtual 141, 3) := by decide +kernel
theorem dX13_grid_36 : decode cX13_grid 36 = .ok (.iload_n 2, 1) := by decide +kernel
theorem dX13_grid_37 : decode cX13_grid 37 = .ok (.ireturn, 1) := by decide +kernel
theorem dX13_anew_0 : decode cX13_anew 0 = .ok (.aload_n 0, 1) := by decide +kernel
theorem dX13_anew_1 : decode cX13_anew 1 = .ok (.getfield 17, 3) := by decide +kernel
theorem dX13_anew_4 : decode cX13_anew 4 = .ok (.iload_n 1, 1) := by decide +kernel
theorem dX13_anew_5 : decode cX13_anew 5 = .ok (.iload_n 2, 1) := by decide +kernel
theorem dX13_anew_6 : decode cX13_anew 6 = .ok (.iastore, 1) := by decide +kernel
theorem dX13_anew_7 : decode cX13_anew 7 = .ok (.iconst 0, 1) := by decide +kernel
theorem dX13_anew_8 : decode cX13_anew 8 = .ok (.istore_n 3, 1) := by decide +kernel
theorem dX13_anew_9 : decode cX13_anew 9 = .ok (.iload_n 3, 1) := by decide +kernel
theorem dX13_anew_10 : decode cX13_anew 10 = .ok (.bipush 6, 2) := by decide +kernel
theorem dX13_anew_12 : decode cX13_anew 12 = .ok (.if_icmp .ge 16, 3) := by decide +kernel
theorem dX13_anew_15 : decode cX13_anew 15 = .ok (.aload_n 0, 1) := by decide +kernel
theorem dX13_anew_16 : decode cX13_anew 16 = .ok (.iload_n 1, 1) := by decide +kernel
theorem dX13_anew_17 : decode cX13_anew 17 = .ok (.iload_n 3, 1) := by decide +kernel
theorem dX13_anew_18 : decode cX13_anew 18 = .ok (.iconst (-1), 1) := by decide +kernel
theorem dX13_anew_19 : decode cX13_anew 19 = .ok (.invokevirtual 145, 3) := by decide +kernel
theorem dX13_anew_22 : decode cX13_anew 22 = .ok (.iinc 3 1, 3) := by decide +kernel
theorem dX13_anew_25 : decode cX13_anew 25 = .ok (.goto (-16), 3) := by decide +kernel
theorem dX13_anew_28 : decode cX13_anew 28 = .ok (.return_, 1) := by decide +kernel
theorem dX13_dropDeed_0 : decode cX13_dropDeed 0 = .ok (.iload_n 1, 1) := by decide +kernel
theorem dX13_dropDeed_1 : decode cX13_dropDeed 1 = .ok (.invokestatic 134, 3) := by decide +kernel
theorem dX13_dropDeed_4 : decode cX13_dropDeed 4 = .ok (.ifCond .ne 5, 3) := by decide +kernel
theorem dX13_dropDeed_7 : decode cX13_dropDeed 7 = .ok (.iconst (-1), 1) := by decide +kernel
theorem dX13_dropDeed_8 : decode cX13_dropDeed 8 = .ok (.ireturn, 1) := by decide +kernel
theorem dX13_dropDeed_9 : decode cX13_dropDeed 9 = .ok (.aload_n 0, 1) := by decide +kernel
theorem dX13_dropDeed_10 : decode cX13_dropDeed 10 = .ok (.getfield 17, 3) := by decide +kernel
theorem dX13_dropDeed_13 : decode cX13_dropDeed 13 = .ok (.iload_n 1, 1) := by decide +kernel
theorem dX13_dropDeed_14 : decode cX13_dropDeed 14 = .ok (.iaload, 1) := by decide +kernel
theorem dX13_dropDeed_15 : decode cX13_dropDeed 15 = .ok (.istore_n 2, 1) := by decide +kernel
theorem dX13_dropDeed_16 : decode cX13_dropDeed 16 = .ok (.iload_n 2, 1) := by decide +kernel
theorem dX13_dropDeed_17 : decode cX13_dropDeed 17 = .ok (.ifCond .ge 6, 3) := by decide +kernel
theorem dX13_dropDeed_20 : decode cX13_dropDeed 20 = .ok (.bipush (-2), 2) := by decide +kernel
theorem dX13_dropDeed_22 : decode cX13_dropDeed 22 = .ok (.ireturn, 1) := by decide +kernel
theorem dX13_dropDeed_23 : decode cX13_dropDeed 23 = .ok (.aload_n 0, 1) := by decide +kernel
theorem dX13_dropDeed_24 : decode cX13_dropDeed 24 = .ok (.iload_n 1, 1) := by decide +kernel
theorem dX13_dropDeed_25 : decode cX13_dropDeed 25 = .ok (.iconst (-1), 1) := by decide +kernel
theorem dX13_dropDeed_26 : decode cX13_dropDeed 26 = .ok (.invokevirtual 141, 3) := by decide +kernel
theorem dX13_dropDeed_29 : decode cX13_dropDeed 29 = .ok (.iload_n 2, 1) := by decide +kernel
theorem dX13_dropDeed_30 : decode cX13_dropDeed 30 = .ok (.ireturn, 1) := by decide +kernel
theorem dX13_drop_0 : decode cX13_drop 0 = .ok (.aload_n 0, 1) := by decide +kernel
theorem dX13_drop_1 : decode cX13_drop 1 = .ok (.aload_n 0, 1) := by decide +kernel
theorem dX13_drop_2 : decode cX13_drop 2 = .ok (.iload_n 1, 1) := by decide +kernel
theorem dX13_drop_3 : decode cX13_drop 3 = .ok (.invokevirtual 149, 3) := by decide +kernel
theorem dX13_drop_6 : decode cX13_drop 6 = .ok (.invokevirtual 137, 3) := by decide +kernel
theorem dX13_drop_9 : decode cX13_drop 9 = .ok (.ireturn, 1) := by decide +kernel
theorem dX13_rowDeed_0 : decode cX13_rowDeed 0 = .ok (.iload_n 1, 1) := by decide +kernel
theorem dX13_rowDeed_1 : decode cX13_rowDeed 1 = .ok (.invokestatic 134, 3) := by decide +kernel
theorem dX13_rowDeed_4 : decode cX13_rowDeed 4 = .ok (.ifCond .eq 17, 3) := by decide +kernel
theorem dX13_rowDeed_7 : decode cX13_rowDeed 7 = .ok (.iload_n 3, 1) := by decide +kernel
theorem dX13_rowDeed_8 : decode cX13_rowDeed 8 = .ok (.invokestatic 152, 3) := by decide +kernel
theorem dX13_rowDeed_11 : decode cX13_rowDeed 11 = .ok (.ifCond .eq 10, 3) := by decide +kernel
theorem dX13_rowDeed_14 : decode cX13_rowDeed 14 = .ok (.iload 4, 2) := by decide +kernel
theorem dX13_rowDeed_16 : decode cX13_rowDeed 16 = .ok (.bipush 12, 2) := by decide +kernel
theorem dX13_rowDeed_18 : decode cX13_rowDeed 18 = .ok (.if_icmp .le 5, 3) := by decide +kernel
theorem dX13_rowDeed_21 : decode cX13_rowDeed 21 = .ok (.iconst (-1), 1) := by decide +kernel
theorem dX13_rowDeed_22 : decode cX13_rowDeed 22 = .ok (.ireturn, 1) := by decide +kernel
theorem dX13_rowDeed_23 : decode cX13_rowDeed 23 = .ok (.aload_n 0, 1) := by decide +kernel
theorem dX13_rowDeed_24 : decode cX13_rowDeed 24 = .ok (.iload_n 1, 1) := by decide +kernel
theorem dX13_rowDeed_25 : decode cX13_rowDeed 25 = .ok (.iload_n 2, 1) := by decide +kernel
theorem dX13_rowDeed_26 : decode cX13_rowDeed 26 = .ok (.invokevirtual 124, 3) := by decide +kernel
theorem dX13_rowDeed_29 : decode cX13_rowDeed 29 = .ok (.istore 5, 2) := by decide +kernel
theorem dX13_rowDeed_31 : decode cX13_rowDeed 31 = .ok (.iload 5, 2) := by decide +kernel
theorem dX13_rowDeed_33 : decode cX13_rowDeed 33 = .ok (.ifCond .eq 6, 3) := by decide +kernel
theorem dX13_rowDeed_36 : decode cX13_rowDeed 36 = .ok (.iload 5, 2) := by decide +kernel
theorem dX13_rowDeed_38 : decode cX13_rowDeed 38 = .ok (.ireturn, 1) := by decide +kernel
theorem dX13_rowDeed_39 : decode cX13_rowDeed 39 = .ok (.iload 4, 2) := by decide +kernel
theorem dX13_rowDeed_41 : decode cX13_rowDeed 41 = .ok (.ifCond .ge 6, 3) := by decide +kernel
theorem dX13_rowDeed_44 : decode cX13_rowDeed 44 = .ok (.bipush (-8), 2) := by decide +kernel
theorem dX13_rowDeed_46 : decode cX13_rowDeed 46 = .ok (.ireturn, 1) := by decide +kernel
theorem dX13_rowDeed_47 : decode cX13_rowDeed 47 = .ok (.aload_n 0, 1) := by decide +kernel
theorem dX13_rowDeed_48 : decode cX13_rowDeed 48 = .ok (.iload_n 1, 1) := by decide +kernel
theorem dX13_rowDeed_49 : decode cX13_rowDeed 49 = .ok (.iload_n 2, 1) := by decide +kernel
theorem dX13_rowDeed_50 : decode cX13_rowDeed 50 = .ok (.aload_n 0, 1) := by decide +kernel
theorem dX13_rowDeed_51 : decode cX13_rowDeed 51 = .ok (.iload_n 3, 1) := by decide +kernel
theorem dX13_rowDeed_52 : decode cX13_rowDeed 52 = .ok (.iload 4, 2) := by decide +kernel
