theorem dL_feed_0 : decode cL_feed 0 = .ok (.aload 6, 2) := by decide +kernel
theorem dL_feed_2 : decode cL_feed 2 = .ok (.iconst 0, 1) := by decide +kernel
theorem dL_feed_3 : decode cL_feed 3 = .ok (.aload_n 0, 1) := by decide +kernel
theorem dL_feed_4 : decode cL_feed 4 = .ok (.iload_n 1, 1) := by decide +kernel
theorem dL_feed_5 : decode cL_feed 5 = .ok (.iload_n 2, 1) := by decide +kernel
theorem dL_feed_6 : decode cL_feed 6 = .ok (.iload_n 3, 1) := by decide +kernel
theorem dL_feed_7 : decode cL_feed 7 = .ok (.iload 4, 2) := by decide +kernel
theorem dL_feed_9 : decode cL_feed 9 = .ok (.iload 5, 2) := by decide +kernel
theorem dL_feed_11 : decode cL_feed 11 = .ok (.invokevirtual 7, 3) := by decide +kernel
theorem dL_feed_14 : decode cL_feed 14 = .ok (.i2l, 1) := by decide +kernel
theorem dL_feed_15 : decode cL_feed 15 = .ok (.lastore, 1) := by decide +kernel
theorem dL_feed_16 : decode cL_feed 16 = .ok (.goto 7, 3) := by decide +kernel
theorem dL_feed_19 : decode cL_feed 19 = .ok (.astore 7, 2) := by decide +kernel
theorem dL_feed_21 : decode cL_feed 21 = .ok (.iconst 1, 1) := by decide +kernel
theorem dL_feed_22 : decode cL_feed 22 = .ok (.ireturn, 1) := by decide +kernel
theorem dL_feed_23 : decode cL_feed 23 = .ok (.iconst 0, 1) := by decide +kernel
theorem dL_feed_24 : decode cL_feed 24 = .ok (.ireturn, 1) := by decide +kernel
theorem dL_end_0 : decode cL_end 0 = .ok (.aload_n 0, 1) := by decide +kernel
theorem dL_end_1 : decode cL_end 1 = .ok (.iload_n 1, 1) := by decide +kernel
theorem dL_end_2 : decode cL_end 2 = .ok (.invokevirtual 15, 3) := by decide +kernel
theorem dL_end_5 : decode cL_end 5 = .ok (.goto 6, 3) := by decide +kernel
theorem dL_end_8 : decode cL_end 8 = .ok (.astore_n 2, 1) := by decide +kernel
theorem dL_end_9 : decode cL_end 9 = .ok (.iconst 1, 1) := by decide +kernel
theorem dL_end_10 : decode cL_end 10 = .ok (.ireturn, 1) := by decide +kernel
theorem dL_end_11 : decode cL_end 11 = .ok (.iconst 0, 1) := by decide +kernel
theorem dL_end_12 : decode cL_end 12 = .ok (.ireturn, 1) := by decide +kernel
theorem dL_turn_0 : decode cL_turn 0 = .ok (.aload_n 2, 1) := by decide +kernel
theorem dL_turn_1 : decode cL_turn 1 = .ok (.iconst 0, 1) := by decide +kernel
theorem dL_turn_2 : decode cL_turn 2 = .ok (.aload_n 0, 1) := by decide +kernel
theorem dL_turn_3 : decode cL_turn 3 = .ok (.iload_n 1, 1) := by decide +kernel
theorem dL_turn_4 : decode cL_turn 4 = .ok (.invokevirtual 21, 3) := by decide +kernel
theorem dL_turn_7 : decode cL_turn 7 = .ok (.i2l, 1) := by decide +kernel
theorem dL_turn_8 : decode cL_turn 8 = .ok (.lastore, 1) := by decide +kernel
theorem dL_turn_9 : decode cL_turn 9 = .ok (.goto 6, 3) := by decide +kernel
theorem dL_turn_12 : decode cL_turn 12 = .ok (.astore_n 3, 1) := by decide +kernel
theorem dL_turn_13 : decode cL_turn 13 = .ok (.iconst 1, 1) := by decide +kernel
theorem dL_turn_14 : decode cL_turn 14 = .ok (.ireturn, 1) := by decide +kernel
theorem dL_turn_15 : decode cL_turn 15 = .ok (.iconst 0, 1) := by decide +kernel
theorem dL_turn_16 : decode cL_turn 16 = .ok (.ireturn, 1) := by decide +kernel
theorem dL_block_0 : decode cL_block 0 = .ok (.aload_n 0, 1) := by decide +kernel
theorem dL_block_1 : decode cL_block 1 = .ok (.iload_n 1, 1) := by decide +kernel
theorem dL_block_2 : decode cL_block 2 = .ok (.iload_n 2, 1) := by decide +kernel
theorem dL_block_3 : decode cL_block 3 = .ok (.invokevirtual 25, 3) := by decide +kernel
theorem dL_block_6 : decode cL_block 6 = .ok (.goto 6, 3) := by decide +kernel
theorem dL_block_9 : decode cL_block 9 = .ok (.astore_n 3, 1) := by decide +kernel
theorem dL_block_10 : decode cL_block 10 = .ok (.iconst 1, 1) := by decide +kernel
theorem dL_block_11 : decode cL_block 11 = .ok (.ireturn, 1) := by decide +kernel
theorem dL_block_12 : decode cL_block 12 = .ok (.iconst 0, 1) := by decide +kernel
theorem dL_block_13 : decode cL_block 13 = .ok (.ireturn, 1) := by decide +kernel
theorem dL_byteAt_0 : decode cL_byteAt 0 = .ok (.aload_n 3, 1) := by decide +kernel
theorem dL_byteAt_1 : decode cL_byteAt 1 = .ok (.iconst 0, 1) := by decide +kernel
theorem dL_byteAt_2 : decode cL_byteAt 2 = .ok (.aload_n 0, 1) := by decide +kernel
theorem dL_byteAt_3 : decode cL_byteAt 3 = .ok (.iload_n 1, 1) := by decide +kernel
theorem dL_byteAt_4 : decode cL_byteAt 4 = .ok (.iload_n 2, 1) := by decide +kernel
theorem dL_byteAt_5 : decode cL_byteAt 5 = .ok (.invokevirtual 29, 3) := by decide +kernel
theorem dL_byteAt_8 : decode cL_byteAt 8 = .ok (.i2l, 1) := by decide +kernel
theorem dL_byteAt_9 : decode cL_byteAt 9 = .ok (.lastore, 1) := by decide +kernel
theorem dL_byteAt_10 : decode cL_byteAt 10 = .ok (.goto 11, 3) := by decide +kernel
theorem dL_byteAt_13 : decode cL_byteAt 13 = .ok (.astore 4, 2) := by decide +kernel
theorem dL_byteAt_15 : decode cL_byteAt 15 = .ok (.iconst 1, 1) := by decide +kernel
theorem dL_byteAt_16 : decode cL_byteAt 16 = .ok (.ireturn, 1) := by decide +kernel
theorem dL_byteAt_17 : decode cL_byteAt 17 = .ok (.astore 4, 2) := by decide +kernel
theorem dL_byteAt_19 : decode cL_byteAt 19 = .ok (.iconst 2, 1) := by decide +kernel
theorem dL_byteAt_20 : decode cL_byteAt 20 = .ok (.ireturn, 1) := by decide +kernel
theorem dL_byteAt_21 : decode cL_byteAt 21 = .ok (.iconst 0, 1) := by decide +kernel
theorem dL_byteAt_22 : decode cL_byteAt 22 = .ok (.ireturn, 1) := by decide +kernel
theorem dL_row_0 : decode cL_row 0 = .ok (.aload 4, 2) := by decide +kernel
theorem dL_row_2 : decode cL_row 2 = .ok (.iconst 0, 1) := by decide +kernel
theorem dL_row_3 : decode cL_row 3 = .ok (.aload_n 0, 1) := by decide +kernel
theorem dL_row_4 : decode cL_row 4 = .ok (.iload_n 1, 1) := by decide +kernel
theorem dL_row_5 : decode cL_row 5 = .ok (.iload_n 2, 1) := by decide +kernel
theorem dL_row_6 : decode cL_row 6 = .ok (.iload_n 3, 1) := by decide +kernel
theorem dL_row_7 : decode cL_row 7 = .ok (.invokevirtual 37, 3) := by decide +kernel
theorem dL_row_10 : decode cL_row 10 = .ok (.i2l, 1) := by decide +kernel
theorem dL_row_11 : decode cL_row 11 = .ok (.lastore, 1) := by decide +kernel
theorem dL_row_12 : decode cL_row 12 = .ok (.goto 11, 3) := by decide +kernel
theorem dL_row_15 : decode cL_row 15 = .ok (.astore 5, 2) := by decide +kernel
theorem dL_row_17 : decode cL_row 17 = .ok (.iconst 1, 1) := by decide +kernel
theorem dL_row_18 : decode cL_row 18 = .ok (.ireturn, 1) := by decide +kernel
theorem dL_row_19 : decode cL_row 19 = .ok (.astore 5, 2) := by decide +kernel
theorem dL_row_21 : decode cL_row 21 = .ok (.iconst 2, 1) := by decide +kernel
theorem dL_row_22 : decode cL_row 22 = .ok (.ireturn, 1) := by decide +kernel
theorem dL_row_23 : decode cL_row 23 = .ok (.iconst 0, 1) := by decide +kernel
theorem dL_row_24 : decode cL_row 24 = .ok (.ireturn, 1) := by decide +kernel
theorem dL_open_0 : decode cL_open 0 = .ok (.aload_n 0, 1) := by decide +kernel
theorem dL_open_1 : decode cL_open 1 = .ok (.iload_n 1, 1) := by decide +kernel
theorem dL_open_2 : decode cL_open 2 = .ok (.iload_n 2, 1) := by decide +kernel
theorem dL_open_3 : decode cL_open 3 = .ok (.invokevirtual 41, 3) := by decide +kernel
theorem dL_open_6 : decode cL_open 6 = .ok (.goto 6, 3) := by decide +kernel
theorem dL_open_9 : decode cL_open 9 = .ok (.astore_n 3, 1) := by decide +kernel
theorem dL_open_10 : decode cL_open 10 = .ok (.iconst 1, 1) := by decide +kernel
theorem dL_open_11 : decode cL_open 11 = .ok (.ireturn, 1) := by decide +kernel
theorem dL_open_12 : decode cL_open 12 = .ok (.iconst 0, 1) := by decide +kernel
theorem dL_open_13 : decode cL_open 13 = .ok (.ireturn, 1) := by decide +kernel
theorem dL_take_0 : decode cL_take 0 = .ok (.aload_n 2, 1) := by decide +kernel
theorem dL_take_1 : decode cL_take 1 = .ok (.iconst 0, 1) := by decide +kernel
theorem dL_take_2 : decode cL_take 2 = .ok (.aload_n 0, 1) := by decide +kernel
theorem dL_take_3 : decode cL_take 3 = .ok (.iload_n 1, 1) := by decide +kernel
theorem dL_take_4 : decode cL_take 4 = .ok (.invokevirtual 44, 3) := by decide +kernel
theorem dL_take_7 : decode cL_take 7 = .ok (.ifCond .eq 7, 3) := by decide +kernel
theorem dL_take_10 : decode cL_take 10 = .ok (.lconst 1, 1) := by decide +kernel
theorem dL_take_11 : decode cL_take 11 = .ok (.goto 4, 3) := by decide +kernel
theorem dL_take_14 : decode cL_take 14 = .ok (.lconst 0, 1) := by decide +kernel
theorem dL_take_15 : decode cL_take 15 = .ok (.lastore, 1) := by decide +kernel
theorem dL_take_16 : decode cL_take 16 = .ok (.goto 12, 3) := by decide +kernel
theorem dL_take_19 : decode cL_take 19 = .ok (.astore_n 3, 1) := by decide +kernel
theorem dL_take_20 : decode cL_take 20 = .ok (.iconst 1, 1) := by decide +kernel
theorem dL_take_21 : decode cL_take 21 = .ok (.ireturn, 1) := by decide +kernel
theorem dL_take_22 : decode cL_take 22 = .ok (.astore_n 3, 1) := by decide +kernel
theorem dL_take_23 : decode cL_take 23 = .ok (.iconst 2, 1) := by decide +kernel
theorem dL_take_24 : decode cL_take 24 = .ok (.ireturn, 1) := by decide +kernel
theorem dL_take_25 : decode cL_take 25 = .ok (.astore_n 3, 1) := by decide +kernel
theorem dL_take_26 : decode cL_take 26 = .ok (.iconst 3, 1) := by decide +kernel
theorem dL_take_27 : decode cL_take 27 = .ok (.ireturn, 1) := by decide +kernel
theorem dL_take_28 : decode cL_take 28 = .ok (.iconst 0, 1) := by decide +kernel
theorem dL_take_29 : decode cL_take 29 = .ok (.ireturn, 1) := by decide +kernel
theorem dL_takeAll_0 : decode cL_takeAll 0 = .ok (.aload 4, 2) := by decide +kernel
theorem dL_takeAll_2 : decode cL_takeAll 2 = .ok (.iconst 0, 1) := by decide +kernel
theorem dL_takeAll_3 : decode cL_takeAll 3 = .ok (.aload_n 0, 1) := by decide +kernel
theorem dL_takeAll_4 : decode cL_takeAll 4 = .ok (.iload_n 1, 1) := by decide +kernel
theorem dL_takeAll_5 : decode cL_takeAll 5 = .ok (.iload_n 2, 1) := by decide +kernel
theorem dL_takeAll_6 : decode cL_takeAll 6 = .ok (.iload_n 3, 1) := by decide +kernel
theorem dL_takeAll_7 : decode cL_takeAll 7 = .ok (.invokevirtual 48, 3) := by decide +kernel
theorem dL_takeAll_10 : decode cL_takeAll 10 = .ok (.i2l, 1) := by decide +kernel
theorem dL_takeAll_11 : decode cL_takeAll 11 = .ok (.lastore, 1) := by decide +kernel
theorem dL_takeAll_12 : decode cL_takeAll 12 = .ok (.goto 15, 3) := by decide +kernel
theorem dL_takeAll_15 : decode cL_takeAll 15 = .ok (.astore 5, 2) := by decide +kernel
theorem dL_takeAll_17 : decode cL_takeAll 17 = .ok (.iconst 1, 1) := by decide +kernel
theorem dL_takeAll_18 : decode cL_takeAll 18 = .ok (.ireturn, 1) := by decide +kernel
theorem dL_takeAll_19 : decode cL_takeAll 19 = .ok (.astore 5, 2) := by decide +kernel
theorem dL_takeAll_21 : decode cL_takeAll 21 = .ok (.iconst 2, 1) := by decide +kernel
theorem dL_takeAll_22 : decode cL_takeAll 22 = .ok (.ireturn, 1) := by decide +kernel
theorem dL_takeAll_23 : decode cL_takeAll 23 = .ok (.astore 5, 2) := by decide +kernel
theorem dL_takeAll_25 : decode cL_takeAll 25 = .ok (.iconst 3, 1) := by decide +kernel
theorem dL_takeAll_26 : decode cL_takeAll 26 = .ok (.ireturn, 1) := by decide +kernel
theorem dL_takeAll_27 : decode cL_takeAll 27 = .ok (.iconst 0, 1) := by decide +kernel
theorem dL_takeAll_28 : decode cL_takeAll 28 = .ok (.ireturn, 1) := by decide +kernel
theorem dL_give_0 : decode cL_give 0 = .ok (.aload_n 2, 1) := by decide +kernel
theorem dL_give_1 : decode cL_give 1 = .ok (.iconst 0, 1) := by decide +kernel
theorem dL_give_2 : decode cL_give 2 = .ok (.aload_n 0, 1) := by decide +kernel
theorem dL_give_3 : decode cL_give 3 = .ok (.iload_n 1, 1) := by decide +kernel
theorem dL_give_4 : decode cL_give 4 = .ok (.invokevirtual 52, 3) := by decide +kernel
theorem dL_give_7 : decode cL_give 7 = .ok (.ifCond .eq 7, 3) := by decide +kernel
theorem dL_give_10 : decode cL_give 10 = .ok (.lconst 1, 1) := by decide +kernel
theorem dL_give_11 : decode cL_give 11 = .ok (.goto 4, 3) := by decide +kernel
theorem dL_give_14 : decode cL_give 14 = .ok (.lconst 0, 1) := by decide +kernel
theorem dL_give_15 : decode cL_give 15 = .ok (.lastore, 1) := by decide +kernel
theorem dL_give_16 : decode cL_give 16 = .ok (.goto 15, 3) := by decide +kernel
theorem dL_give_19 : decode cL_give 19 = .ok (.astore_n 3, 1) := by decide +kernel
theorem dL_give_20 : decode cL_give 20 = .ok (.iconst 1, 1) := by decide +kernel
theorem dL_give_21 : decode cL_give 21 = .ok (.ireturn, 1) := by decide +kernel
theorem dL_give_22 : decode cL_give 22 = .ok (.astore_n 3, 1) := by decide +kernel
theorem dL_give_23 : decode cL_give 23 = .ok (.iconst 2, 1) := by decide +kernel
theorem dL_give_24 : decode cL_give 24 = .ok (.ireturn, 1) := by decide +kernel
theorem dL_give_25 : decode cL_give 25 = .ok (.astore_n 3, 1) := by decide +kernel
theorem dL_give_26 : decode cL_give 26 = .ok (.iconst 3, 1) := by decide +kernel
theorem dL_give_27 : decode cL_give 27 = .ok (.ireturn, 1) := by decide +kernel
theorem dL_give_28 : decode cL_give 28 = .ok (.astore_n 3, 1) := by decide +kernel
theorem dL_give_29 : decode cL_give 29 = .ok (.iconst 4, 1) := by decide +kernel
theorem dL_give_30 : decode cL_give 30 = .ok (.ireturn, 1) := by decide +kernel
theorem dL_give_31 : decode cL_give 31 = .ok (.iconst 0, 1) := by decide +kernel
theorem dL_give_32 : decode cL_give 32 = .ok (.ireturn, 1) := by decide +kernel
theorem dL_rank_0 : decode cL_rank 0 = .ok (.aload_n 1, 1) := by decide +kernel
theorem dL_rank_1 : decode cL_rank 1 = .ok (.iconst 0, 1) := by decide +kernel
theorem dL_rank_2 : decode cL_rank 2 = .ok (.aload_n 0, 1) := by decide +kernel
theorem dL_rank_3 : decode cL_rank 3 = .ok (.invokevirtual 55, 3) := by decide +kernel
theorem dL_rank_6 : decode cL_rank 6 = .ok (.i2l, 1) := by decide +kernel
theorem dL_rank_7 : decode cL_rank 7 = .ok (.lastore, 1) := by decide +kernel
theorem dL_rank_8 : decode cL_rank 8 = .ok (.goto 6, 3) := by decide +kernel
theorem dL_rank_11 : decode cL_rank 11 = .ok (.astore_n 2, 1) := by decide +kernel
theorem dL_rank_12 : decode cL_rank 12 = .ok (.iconst 1, 1) := by decide +kernel
theorem dL_rank_13 : decode cL_rank 13 = .ok (.ireturn, 1) := by decide +kernel
theorem dL_rank_14 : decode cL_rank 14 = .ok (.iconst 0, 1) := by decide +kernel
theorem dL_rank_15 : decode cL_rank 15 = .ok (.ireturn, 1) := by decide +kernel
theorem dL_follows_0 : decode cL_follows 0 = .ok (.aload_n 2, 1) := by decide +kernel
theorem dL_follows_1 : decode cL_follows 1 = .ok (.iconst 0, 1) := by decide +kernel
theorem dL_follows_2 : decode cL_follows 2 = .ok (.aload_n 0, 1) := by decide +kernel
theorem dL_follows_3 : decode cL_follows 3 = .ok (.iload_n 1, 1) := by decide +kernel
theorem dL_follows_4 : decode cL_follows 4 = .ok (.invokevirtual 59, 3) := by decide +kernel
theorem dL_follows_7 : decode cL_follows 7 = .ok (.ifCond .eq 7, 3) := by decide +kernel
theorem dL_follows_10 : decode cL_follows 10 = .ok (.lconst 1, 1) := by decide +kernel
theorem dL_follows_11 : decode cL_follows 11 = .ok (.goto 4, 3) := by decide +kernel
theorem dL_follows_14 : decode cL_follows 14 = .ok (.lconst 0, 1) := by decide +kernel
theorem dL_follows_15 : decode cL_follows 15 = .ok (.lastore, 1) := by decide +kernel
theorem dL_follows_16 : decode cL_follows 16 = .ok (.goto 9, 3) := by decide +kernel
theorem dL_follows_19 : decode cL_follows 19 = .ok (.astore_n 3, 1) := by decide +kernel
theorem dL_follows_20 : decode cL_follows 20 = .ok (.iconst 1, 1) := by decide +kernel
theorem dL_follows_21 : decode cL_follows 21 = .ok (.ireturn, 1) := by decide +kernel
theorem dL_follows_22 : decode cL_follows 22 = .ok (.astore_n 3, 1) := by decide +kernel
theorem dL_follows_23 : decode cL_follows 23 = .ok (.iconst 2, 1) := by decide +kernel
theorem dL_follows_24 : decode cL_follows 24 = .ok (.ireturn, 1) := by decide +kernel
theorem dL_follows_25 : decode cL_follows 25 = .ok (.iconst 0, 1) := by decide +kernel
theorem dL_follows_26 : decode cL_follows 26 = .ok (.ireturn, 1) := by decide +kernel
theorem dL_known_0 : decode cL_known 0 = .ok (.aload_n 3, 1) := by decide +kernel
theorem dL_known_1 : decode cL_known 1 = .ok (.iconst 0, 1) := by decide +kernel
theorem dL_known_2 : decode cL_known 2 = .ok (.aload_n 0, 1) := by decide +kernel
theorem dL_known_3 : decode cL_known 3 = .ok (.iload_n 1, 1) := by decide +kernel
theorem dL_known_4 : decode cL_known 4 = .ok (.iload_n 2, 1) := by decide +kernel
theorem dL_known_5 : decode cL_known 5 = .ok (.invokevirtual 62, 3) := by decide +kernel
theorem dL_known_8 : decode cL_known 8 = .ok (.i2l, 1) := by decide +kernel
theorem dL_known_9 : decode cL_known 9 = .ok (.lastore, 1) := by decide +kernel
theorem dL_known_10 : decode cL_known 10 = .ok (.goto 11, 3) := by decide +kernel
theorem dL_known_13 : decode cL_known 13 = .ok (.astore 4, 2) := by decide +kernel
theorem dL_known_15 : decode cL_known 15 = .ok (.iconst 1, 1) := by decide +kernel
theorem dL_known_16 : decode cL_known 16 = .ok (.ireturn, 1) := by decide +kernel
theorem dL_known_17 : decode cL_known 17 = .ok (.astore 4, 2) := by decide +kernel
theorem dL_known_19 : decode cL_known 19 = .ok (.iconst 2, 1) := by decide +kernel
theorem dL_known_20 : decode cL_known 20 = .ok (.ireturn, 1) := by decide +kernel
theorem dL_known_21 : decode cL_known 21 = .ok (.iconst 0, 1) := by decide +kernel
theorem dL_known_22 : decode cL_known 22 = .ok (.ireturn, 1) := by decide +kernel
theorem dL_count_0 : decode cL_count 0 = .ok (.aload_n 2, 1) := by decide +kernel
theorem dL_count_1 : decode cL_count 1 = .ok (.iconst 0, 1) := by decide +kernel
theorem dL_count_2 : decode cL_count 2 = .ok (.aload_n 0, 1) := by decide +kernel
theorem dL_count_3 : decode cL_count 3 = .ok (.iload_n 1, 1) := by decide +kernel
theorem dL_count_4 : decode cL_count 4 = .ok (.invokevirtual 65, 3) := by decide +kernel
theorem dL_count_7 : decode cL_count 7 = .ok (.i2l, 1) := by decide +kernel
theorem dL_count_8 : decode cL_count 8 = .ok (.lastore, 1) := by decide +kernel
theorem dL_count_9 : decode cL_count 9 = .ok (.goto 6, 3) := by decide +kernel
theorem dL_count_12 : decode cL_count 12 = .ok (.astore_n 3, 1) := by decide +kernel
theorem dL_count_13 : decode cL_count 13 = .ok (.iconst 1, 1) := by decide +kernel
theorem dL_count_14 : decode cL_count 14 = .ok (.ireturn, 1) := by decide +kernel
theorem dL_count_15 : decode cL_count 15 = .ok (.iconst 0, 1) := by decide +kernel
theorem dL_count_16 : decode cL_count 16 = .ok (.ireturn, 1) := by decide +kernel
