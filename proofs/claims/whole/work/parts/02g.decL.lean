theorem dL_feed_0 : decode cL_feed 0 = .ok (.aload 6, 2) := by decide +kernel
theorem dL_feed_2 : decode cL_feed 2 = .ok (.iconst 0, 1) := by decide +kernel
theorem dL_feed_3 : decode cL_feed 3 = .ok (.aload_n 0, 1) := by decide +kernel
theorem dL_feed_4 : decode cL_feed 4 = .ok (.iload_n 1, 1) := by decide +kernel
theorem dL_feed_5 : decode cL_feed 5 = .ok (.iload_n 2, 1) := by decide +kernel
theorem dL_feed_6 : decode cL_feed 6 = .ok (.iload_n 3, 1) := by decide +kernel
theorem dL_feed_7 : decode cL_feed 7 = .ok (.iload 4, 2) := by decide +kernel
theorem dL_feed_9 : decode cL_feed 9 = .ok (.iload 5, 2) := by decide +kernel
theorem dL_feed_11 : decode cL_feed 11 = .ok (.invokevirtual 7, 3) := by decide +kernel
theorem dL_feed_14 : decode cL_feed 14 = .ok (.i2l, 1) := by decide +kernel
theorem dL_feed_15 : decode cL_feed 15 = .ok (.lastore, 1) := by decide +kernel
theorem dL_feed_16 : decode cL_feed 16 = .ok (.goto 7, 3) := by decide +kernel
theorem dL_feed_19 : decode cL_feed 19 = .ok (.astore 7, 2) := by decide +kernel
theorem dL_feed_21 : decode cL_feed 21 = .ok (.iconst 1, 1) := by decide +kernel
theorem dL_feed_22 : decode cL_feed 22 = .ok (.ireturn, 1) := by decide +kernel
theorem dL_feed_23 : decode cL_feed 23 = .ok (.iconst 0, 1) := by decide +kernel
theorem dL_feed_24 : decode cL_feed 24 = .ok (.ireturn, 1) := by decide +kernel
theorem dL_load_0 : decode cL_load 0 = .ok (.aload_n 2, 1) := by decide +kernel
theorem dL_load_1 : decode cL_load 1 = .ok (.iconst 0, 1) := by decide +kernel
theorem dL_load_2 : decode cL_load 2 = .ok (.aload_n 0, 1) := by decide +kernel
theorem dL_load_3 : decode cL_load 3 = .ok (.iload_n 1, 1) := by decide +kernel
theorem dL_load_4 : decode cL_load 4 = .ok (.invokevirtual 15, 3) := by decide +kernel
theorem dL_load_7 : decode cL_load 7 = .ok (.i2l, 1) := by decide +kernel
theorem dL_load_8 : decode cL_load 8 = .ok (.lastore, 1) := by decide +kernel
theorem dL_load_9 : decode cL_load 9 = .ok (.goto 9, 3) := by decide +kernel
theorem dL_load_12 : decode cL_load 12 = .ok (.astore_n 3, 1) := by decide +kernel
theorem dL_load_13 : decode cL_load 13 = .ok (.iconst 1, 1) := by decide +kernel
theorem dL_load_14 : decode cL_load 14 = .ok (.ireturn, 1) := by decide +kernel
theorem dL_load_15 : decode cL_load 15 = .ok (.astore_n 3, 1) := by decide +kernel
theorem dL_load_16 : decode cL_load 16 = .ok (.iconst 2, 1) := by decide +kernel
theorem dL_load_17 : decode cL_load 17 = .ok (.ireturn, 1) := by decide +kernel
theorem dL_load_18 : decode cL_load 18 = .ok (.iconst 0, 1) := by decide +kernel
theorem dL_load_19 : decode cL_load 19 = .ok (.ireturn, 1) := by decide +kernel
theorem dL_size_0 : decode cL_size 0 = .ok (.aload_n 2, 1) := by decide +kernel
theorem dL_size_1 : decode cL_size 1 = .ok (.iconst 0, 1) := by decide +kernel
theorem dL_size_2 : decode cL_size 2 = .ok (.aload_n 0, 1) := by decide +kernel
theorem dL_size_3 : decode cL_size 3 = .ok (.iload_n 1, 1) := by decide +kernel
theorem dL_size_4 : decode cL_size 4 = .ok (.invokevirtual 21, 3) := by decide +kernel
theorem dL_size_7 : decode cL_size 7 = .ok (.i2l, 1) := by decide +kernel
theorem dL_size_8 : decode cL_size 8 = .ok (.lastore, 1) := by decide +kernel
theorem dL_size_9 : decode cL_size 9 = .ok (.goto 6, 3) := by decide +kernel
theorem dL_size_12 : decode cL_size 12 = .ok (.astore_n 3, 1) := by decide +kernel
theorem dL_size_13 : decode cL_size 13 = .ok (.iconst 1, 1) := by decide +kernel
theorem dL_size_14 : decode cL_size 14 = .ok (.ireturn, 1) := by decide +kernel
theorem dL_size_15 : decode cL_size 15 = .ok (.iconst 0, 1) := by decide +kernel
theorem dL_size_16 : decode cL_size 16 = .ok (.ireturn, 1) := by decide +kernel
theorem dL_place_0 : decode cL_place 0 = .ok (.aload_n 3, 1) := by decide +kernel
theorem dL_place_1 : decode cL_place 1 = .ok (.iconst 0, 1) := by decide +kernel
theorem dL_place_2 : decode cL_place 2 = .ok (.aload_n 0, 1) := by decide +kernel
theorem dL_place_3 : decode cL_place 3 = .ok (.iload_n 1, 1) := by decide +kernel
theorem dL_place_4 : decode cL_place 4 = .ok (.iload_n 2, 1) := by decide +kernel
theorem dL_place_5 : decode cL_place 5 = .ok (.invokevirtual 24, 3) := by decide +kernel
theorem dL_place_8 : decode cL_place 8 = .ok (.i2l, 1) := by decide +kernel
theorem dL_place_9 : decode cL_place 9 = .ok (.lastore, 1) := by decide +kernel
theorem dL_place_10 : decode cL_place 10 = .ok (.goto 11, 3) := by decide +kernel
theorem dL_place_13 : decode cL_place 13 = .ok (.astore 4, 2) := by decide +kernel
theorem dL_place_15 : decode cL_place 15 = .ok (.iconst 1, 1) := by decide +kernel
theorem dL_place_16 : decode cL_place 16 = .ok (.ireturn, 1) := by decide +kernel
theorem dL_place_17 : decode cL_place 17 = .ok (.astore 4, 2) := by decide +kernel
theorem dL_place_19 : decode cL_place 19 = .ok (.iconst 2, 1) := by decide +kernel
theorem dL_place_20 : decode cL_place 20 = .ok (.ireturn, 1) := by decide +kernel
theorem dL_place_21 : decode cL_place 21 = .ok (.iconst 0, 1) := by decide +kernel
theorem dL_place_22 : decode cL_place 22 = .ok (.ireturn, 1) := by decide +kernel
theorem dL_move_0 : decode cL_move 0 = .ok (.aload_n 3, 1) := by decide +kernel
theorem dL_move_1 : decode cL_move 1 = .ok (.iconst 0, 1) := by decide +kernel
theorem dL_move_2 : decode cL_move 2 = .ok (.aload_n 0, 1) := by decide +kernel
theorem dL_move_3 : decode cL_move 3 = .ok (.iload_n 1, 1) := by decide +kernel
theorem dL_move_4 : decode cL_move 4 = .ok (.iload_n 2, 1) := by decide +kernel
theorem dL_move_5 : decode cL_move 5 = .ok (.invokevirtual 30, 3) := by decide +kernel
theorem dL_move_8 : decode cL_move 8 = .ok (.i2l, 1) := by decide +kernel
theorem dL_move_9 : decode cL_move 9 = .ok (.lastore, 1) := by decide +kernel
theorem dL_move_10 : decode cL_move 10 = .ok (.goto 11, 3) := by decide +kernel
theorem dL_move_13 : decode cL_move 13 = .ok (.astore 4, 2) := by decide +kernel
theorem dL_move_15 : decode cL_move 15 = .ok (.iconst 1, 1) := by decide +kernel
theorem dL_move_16 : decode cL_move 16 = .ok (.ireturn, 1) := by decide +kernel
theorem dL_move_17 : decode cL_move 17 = .ok (.astore 4, 2) := by decide +kernel
theorem dL_move_19 : decode cL_move 19 = .ok (.iconst 2, 1) := by decide +kernel
theorem dL_move_20 : decode cL_move 20 = .ok (.ireturn, 1) := by decide +kernel
theorem dL_move_21 : decode cL_move 21 = .ok (.iconst 0, 1) := by decide +kernel
theorem dL_move_22 : decode cL_move 22 = .ok (.ireturn, 1) := by decide +kernel
theorem dL_moveBetween_0 : decode cL_moveBetween 0 = .ok (.aload_n 3, 1) := by decide +kernel
theorem dL_moveBetween_1 : decode cL_moveBetween 1 = .ok (.iconst 0, 1) := by decide +kernel
theorem dL_moveBetween_2 : decode cL_moveBetween 2 = .ok (.aload_n 0, 1) := by decide +kernel
theorem dL_moveBetween_3 : decode cL_moveBetween 3 = .ok (.iload_n 1, 1) := by decide +kernel
theorem dL_moveBetween_4 : decode cL_moveBetween 4 = .ok (.iload_n 2, 1) := by decide +kernel
theorem dL_moveBetween_5 : decode cL_moveBetween 5 = .ok (.invokevirtual 33, 3) := by decide +kernel
theorem dL_moveBetween_8 : decode cL_moveBetween 8 = .ok (.i2l, 1) := by decide +kernel
theorem dL_moveBetween_9 : decode cL_moveBetween 9 = .ok (.lastore, 1) := by decide +kernel
theorem dL_moveBetween_10 : decode cL_moveBetween 10 = .ok (.goto 7, 3) := by decide +kernel
theorem dL_moveBetween_13 : decode cL_moveBetween 13 = .ok (.astore 4, 2) := by decide +kernel
theorem dL_moveBetween_15 : decode cL_moveBetween 15 = .ok (.iconst 1, 1) := by decide +kernel
theorem dL_moveBetween_16 : decode cL_moveBetween 16 = .ok (.ireturn, 1) := by decide +kernel
theorem dL_moveBetween_17 : decode cL_moveBetween 17 = .ok (.iconst 0, 1) := by decide +kernel
theorem dL_moveBetween_18 : decode cL_moveBetween 18 = .ok (.ireturn, 1) := by decide +kernel
theorem dL_heard_0 : decode cL_heard 0 = .ok (.aload_n 2, 1) := by decide +kernel
theorem dL_heard_1 : decode cL_heard 1 = .ok (.iconst 0, 1) := by decide +kernel
theorem dL_heard_2 : decode cL_heard 2 = .ok (.aload_n 0, 1) := by decide +kernel
theorem dL_heard_3 : decode cL_heard 3 = .ok (.iload_n 1, 1) := by decide +kernel
theorem dL_heard_4 : decode cL_heard 4 = .ok (.invokevirtual 36, 3) := by decide +kernel
theorem dL_heard_7 : decode cL_heard 7 = .ok (.i2l, 1) := by decide +kernel
theorem dL_heard_8 : decode cL_heard 8 = .ok (.lastore, 1) := by decide +kernel
theorem dL_heard_9 : decode cL_heard 9 = .ok (.goto 6, 3) := by decide +kernel
theorem dL_heard_12 : decode cL_heard 12 = .ok (.astore_n 3, 1) := by decide +kernel
theorem dL_heard_13 : decode cL_heard 13 = .ok (.iconst 1, 1) := by decide +kernel
theorem dL_heard_14 : decode cL_heard 14 = .ok (.ireturn, 1) := by decide +kernel
theorem dL_heard_15 : decode cL_heard 15 = .ok (.iconst 0, 1) := by decide +kernel
theorem dL_heard_16 : decode cL_heard 16 = .ok (.ireturn, 1) := by decide +kernel
theorem dL_won_0 : decode cL_won 0 = .ok (.aload_n 2, 1) := by decide +kernel
theorem dL_won_1 : decode cL_won 1 = .ok (.iconst 0, 1) := by decide +kernel
theorem dL_won_2 : decode cL_won 2 = .ok (.aload_n 0, 1) := by decide +kernel
theorem dL_won_3 : decode cL_won 3 = .ok (.iload_n 1, 1) := by decide +kernel
theorem dL_won_4 : decode cL_won 4 = .ok (.invokevirtual 39, 3) := by decide +kernel
theorem dL_won_7 : decode cL_won 7 = .ok (.i2l, 1) := by decide +kernel
theorem dL_won_8 : decode cL_won 8 = .ok (.lastore, 1) := by decide +kernel
theorem dL_won_9 : decode cL_won 9 = .ok (.goto 6, 3) := by decide +kernel
theorem dL_won_12 : decode cL_won 12 = .ok (.astore_n 3, 1) := by decide +kernel
theorem dL_won_13 : decode cL_won 13 = .ok (.iconst 1, 1) := by decide +kernel
theorem dL_won_14 : decode cL_won 14 = .ok (.ireturn, 1) := by decide +kernel
theorem dL_won_15 : decode cL_won 15 = .ok (.iconst 0, 1) := by decide +kernel
theorem dL_won_16 : decode cL_won 16 = .ok (.ireturn, 1) := by decide +kernel
theorem dL_wonShare_0 : decode cL_wonShare 0 = .ok (.aload_n 2, 1) := by decide +kernel
theorem dL_wonShare_1 : decode cL_wonShare 1 = .ok (.iconst 0, 1) := by decide +kernel
theorem dL_wonShare_2 : decode cL_wonShare 2 = .ok (.aload_n 0, 1) := by decide +kernel
theorem dL_wonShare_3 : decode cL_wonShare 3 = .ok (.iload_n 1, 1) := by decide +kernel
theorem dL_wonShare_4 : decode cL_wonShare 4 = .ok (.invokevirtual 42, 3) := by decide +kernel
theorem dL_wonShare_7 : decode cL_wonShare 7 = .ok (.f2d, 1) := by decide +kernel
theorem dL_wonShare_8 : decode cL_wonShare 8 = .ok (.dastore, 1) := by decide +kernel
theorem dL_wonShare_9 : decode cL_wonShare 9 = .ok (.goto 6, 3) := by decide +kernel
theorem dL_wonShare_12 : decode cL_wonShare 12 = .ok (.astore_n 3, 1) := by decide +kernel
theorem dL_wonShare_13 : decode cL_wonShare 13 = .ok (.iconst 1, 1) := by decide +kernel
theorem dL_wonShare_14 : decode cL_wonShare 14 = .ok (.ireturn, 1) := by decide +kernel
theorem dL_wonShare_15 : decode cL_wonShare 15 = .ok (.iconst 0, 1) := by decide +kernel
theorem dL_wonShare_16 : decode cL_wonShare 16 = .ok (.ireturn, 1) := by decide +kernel
theorem dL_wonBits_0 : decode cL_wonBits 0 = .ok (.aload_n 2, 1) := by decide +kernel
theorem dL_wonBits_1 : decode cL_wonBits 1 = .ok (.iconst 0, 1) := by decide +kernel
theorem dL_wonBits_2 : decode cL_wonBits 2 = .ok (.aload_n 0, 1) := by decide +kernel
theorem dL_wonBits_3 : decode cL_wonBits 3 = .ok (.iload_n 1, 1) := by decide +kernel
theorem dL_wonBits_4 : decode cL_wonBits 4 = .ok (.invokevirtual 46, 3) := by decide +kernel
theorem dL_wonBits_7 : decode cL_wonBits 7 = .ok (.i2l, 1) := by decide +kernel
theorem dL_wonBits_8 : decode cL_wonBits 8 = .ok (.lastore, 1) := by decide +kernel
theorem dL_wonBits_9 : decode cL_wonBits 9 = .ok (.goto 6, 3) := by decide +kernel
theorem dL_wonBits_12 : decode cL_wonBits 12 = .ok (.astore_n 3, 1) := by decide +kernel
theorem dL_wonBits_13 : decode cL_wonBits 13 = .ok (.iconst 1, 1) := by decide +kernel
theorem dL_wonBits_14 : decode cL_wonBits 14 = .ok (.ireturn, 1) := by decide +kernel
theorem dL_wonBits_15 : decode cL_wonBits 15 = .ok (.iconst 0, 1) := by decide +kernel
theorem dL_wonBits_16 : decode cL_wonBits 16 = .ok (.ireturn, 1) := by decide +kernel
theorem dL_meanCall_0 : decode cL_meanCall 0 = .ok (.aload_n 2, 1) := by decide +kernel
theorem dL_meanCall_1 : decode cL_meanCall 1 = .ok (.iconst 0, 1) := by decide +kernel
theorem dL_meanCall_2 : decode cL_meanCall 2 = .ok (.aload_n 0, 1) := by decide +kernel
theorem dL_meanCall_3 : decode cL_meanCall 3 = .ok (.iload_n 1, 1) := by decide +kernel
theorem dL_meanCall_4 : decode cL_meanCall 4 = .ok (.invokevirtual 49, 3) := by decide +kernel
theorem dL_meanCall_7 : decode cL_meanCall 7 = .ok (.dastore, 1) := by decide +kernel
theorem dL_meanCall_8 : decode cL_meanCall 8 = .ok (.goto 6, 3) := by decide +kernel
theorem dL_meanCall_11 : decode cL_meanCall 11 = .ok (.astore_n 3, 1) := by decide +kernel
theorem dL_meanCall_12 : decode cL_meanCall 12 = .ok (.iconst 1, 1) := by decide +kernel
theorem dL_meanCall_13 : decode cL_meanCall 13 = .ok (.ireturn, 1) := by decide +kernel
theorem dL_meanCall_14 : decode cL_meanCall 14 = .ok (.iconst 0, 1) := by decide +kernel
theorem dL_meanCall_15 : decode cL_meanCall 15 = .ok (.ireturn, 1) := by decide +kernel
theorem dL_plan_0 : decode cL_plan 0 = .ok (.aload_n 2, 1) := by decide +kernel
theorem dL_plan_1 : decode cL_plan 1 = .ok (.iconst 0, 1) := by decide +kernel
theorem dL_plan_2 : decode cL_plan 2 = .ok (.aload_n 0, 1) := by decide +kernel
theorem dL_plan_3 : decode cL_plan 3 = .ok (.iload_n 1, 1) := by decide +kernel
theorem dL_plan_4 : decode cL_plan 4 = .ok (.invokevirtual 53, 3) := by decide +kernel
theorem dL_plan_7 : decode cL_plan 7 = .ok (.i2l, 1) := by decide +kernel
theorem dL_plan_8 : decode cL_plan 8 = .ok (.lastore, 1) := by decide +kernel
theorem dL_plan_9 : decode cL_plan 9 = .ok (.goto 6, 3) := by decide +kernel
theorem dL_plan_12 : decode cL_plan 12 = .ok (.astore_n 3, 1) := by decide +kernel
theorem dL_plan_13 : decode cL_plan 13 = .ok (.iconst 1, 1) := by decide +kernel
theorem dL_plan_14 : decode cL_plan 14 = .ok (.ireturn, 1) := by decide +kernel
theorem dL_plan_15 : decode cL_plan 15 = .ok (.iconst 0, 1) := by decide +kernel
theorem dL_plan_16 : decode cL_plan 16 = .ok (.ireturn, 1) := by decide +kernel
theorem dL_follow_0 : decode cL_follow 0 = .ok (.aload_n 3, 1) := by decide +kernel
theorem dL_follow_1 : decode cL_follow 1 = .ok (.iconst 0, 1) := by decide +kernel
theorem dL_follow_2 : decode cL_follow 2 = .ok (.aload_n 0, 1) := by decide +kernel
theorem dL_follow_3 : decode cL_follow 3 = .ok (.iload_n 1, 1) := by decide +kernel
theorem dL_follow_4 : decode cL_follow 4 = .ok (.iload_n 2, 1) := by decide +kernel
theorem dL_follow_5 : decode cL_follow 5 = .ok (.invokevirtual 56, 3) := by decide +kernel
theorem dL_follow_8 : decode cL_follow 8 = .ok (.i2l, 1) := by decide +kernel
theorem dL_follow_9 : decode cL_follow 9 = .ok (.lastore, 1) := by decide +kernel
theorem dL_follow_10 : decode cL_follow 10 = .ok (.goto 11, 3) := by decide +kernel
theorem dL_follow_13 : decode cL_follow 13 = .ok (.astore 4, 2) := by decide +kernel
theorem dL_follow_15 : decode cL_follow 15 = .ok (.iconst 1, 1) := by decide +kernel
theorem dL_follow_16 : decode cL_follow 16 = .ok (.ireturn, 1) := by decide +kernel
theorem dL_follow_17 : decode cL_follow 17 = .ok (.astore 4, 2) := by decide +kernel
theorem dL_follow_19 : decode cL_follow 19 = .ok (.iconst 2, 1) := by decide +kernel
theorem dL_follow_20 : decode cL_follow 20 = .ok (.ireturn, 1) := by decide +kernel
theorem dL_follow_21 : decode cL_follow 21 = .ok (.iconst 0, 1) := by decide +kernel
theorem dL_follow_22 : decode cL_follow 22 = .ok (.ireturn, 1) := by decide +kernel
theorem dL_play_0 : decode cL_play 0 = .ok (.aload_n 3, 1) := by decide +kernel
theorem dL_play_1 : decode cL_play 1 = .ok (.iconst 0, 1) := by decide +kernel
theorem dL_play_2 : decode cL_play 2 = .ok (.aload_n 0, 1) := by decide +kernel
theorem dL_play_3 : decode cL_play 3 = .ok (.iload_n 1, 1) := by decide +kernel
theorem dL_play_4 : decode cL_play 4 = .ok (.iload_n 2, 1) := by decide +kernel
theorem dL_play_5 : decode cL_play 5 = .ok (.invokevirtual 59, 3) := by decide +kernel
theorem dL_play_8 : decode cL_play 8 = .ok (.i2l, 1) := by decide +kernel
theorem dL_play_9 : decode cL_play 9 = .ok (.lastore, 1) := by decide +kernel
theorem dL_play_10 : decode cL_play 10 = .ok (.goto 11, 3) := by decide +kernel
theorem dL_play_13 : decode cL_play 13 = .ok (.astore 4, 2) := by decide +kernel
theorem dL_play_15 : decode cL_play 15 = .ok (.iconst 1, 1) := by decide +kernel
theorem dL_play_16 : decode cL_play 16 = .ok (.ireturn, 1) := by decide +kernel
theorem dL_play_17 : decode cL_play 17 = .ok (.astore 4, 2) := by decide +kernel
theorem dL_play_19 : decode cL_play 19 = .ok (.iconst 2, 1) := by decide +kernel
theorem dL_play_20 : decode cL_play 20 = .ok (.ireturn, 1) := by decide +kernel
theorem dL_play_21 : decode cL_play 21 = .ok (.iconst 0, 1) := by decide +kernel
theorem dL_play_22 : decode cL_play 22 = .ok (.ireturn, 1) := by decide +kernel
theorem dL_pull_0 : decode cL_pull 0 = .ok (.aload_n 3, 1) := by decide +kernel
theorem dL_pull_1 : decode cL_pull 1 = .ok (.iconst 0, 1) := by decide +kernel
theorem dL_pull_2 : decode cL_pull 2 = .ok (.aload_n 0, 1) := by decide +kernel
theorem dL_pull_3 : decode cL_pull 3 = .ok (.iload_n 1, 1) := by decide +kernel
theorem dL_pull_4 : decode cL_pull 4 = .ok (.iload_n 2, 1) := by decide +kernel
theorem dL_pull_5 : decode cL_pull 5 = .ok (.invokevirtual 62, 3) := by decide +kernel
theorem dL_pull_8 : decode cL_pull 8 = .ok (.i2l, 1) := by decide +kernel
theorem dL_pull_9 : decode cL_pull 9 = .ok (.lastore, 1) := by decide +kernel
theorem dL_pull_10 : decode cL_pull 10 = .ok (.goto 7, 3) := by decide +kernel
theorem dL_pull_13 : decode cL_pull 13 = .ok (.astore 4, 2) := by decide +kernel
theorem dL_pull_15 : decode cL_pull 15 = .ok (.iconst 1, 1) := by decide +kernel
theorem dL_pull_16 : decode cL_pull 16 = .ok (.ireturn, 1) := by decide +kernel
theorem dL_pull_17 : decode cL_pull 17 = .ok (.iconst 0, 1) := by decide +kernel
theorem dL_pull_18 : decode cL_pull 18 = .ok (.ireturn, 1) := by decide +kernel
theorem dL_pullIn_0 : decode cL_pullIn 0 = .ok (.aload 4, 2) := by decide +kernel
theorem dL_pullIn_2 : decode cL_pullIn 2 = .ok (.iconst 0, 1) := by decide +kernel
theorem dL_pullIn_3 : decode cL_pullIn 3 = .ok (.aload_n 0, 1) := by decide +kernel
theorem dL_pullIn_4 : decode cL_pullIn 4 = .ok (.iload_n 1, 1) := by decide +kernel
theorem dL_pullIn_5 : decode cL_pullIn 5 = .ok (.iload_n 2, 1) := by decide +kernel
theorem dL_pullIn_6 : decode cL_pullIn 6 = .ok (.iload_n 3, 1) := by decide +kernel
theorem dL_pullIn_7 : decode cL_pullIn 7 = .ok (.invokevirtual 65, 3) := by decide +kernel
theorem dL_pullIn_10 : decode cL_pullIn 10 = .ok (.i2l, 1) := by decide +kernel
theorem dL_pullIn_11 : decode cL_pullIn 11 = .ok (.lastore, 1) := by decide +kernel
theorem dL_pullIn_12 : decode cL_pullIn 12 = .ok (.goto 11, 3) := by decide +kernel
theorem dL_pullIn_15 : decode cL_pullIn 15 = .ok (.astore 5, 2) := by decide +kernel
theorem dL_pullIn_17 : decode cL_pullIn 17 = .ok (.iconst 1, 1) := by decide +kernel
theorem dL_pullIn_18 : decode cL_pullIn 18 = .ok (.ireturn, 1) := by decide +kernel
theorem dL_pullIn_19 : decode cL_pullIn 19 = .ok (.astore 5, 2) := by decide +kernel
theorem dL_pullIn_21 : decode cL_pullIn 21 = .ok (.iconst 2, 1) := by decide +kernel
theorem dL_pullIn_22 : decode cL_pullIn 22 = .ok (.ireturn, 1) := by decide +kernel
theorem dL_pullIn_23 : decode cL_pullIn 23 = .ok (.iconst 0, 1) := by decide +kernel
theorem dL_pullIn_24 : decode cL_pullIn 24 = .ok (.ireturn, 1) := by decide +kernel
theorem dL_stay_0 : decode cL_stay 0 = .ok (.aload_n 3, 1) := by decide +kernel
theorem dL_stay_1 : decode cL_stay 1 = .ok (.iconst 0, 1) := by decide +kernel
theorem dL_stay_2 : decode cL_stay 2 = .ok (.aload_n 0, 1) := by decide +kernel
theorem dL_stay_3 : decode cL_stay 3 = .ok (.iload_n 1, 1) := by decide +kernel
theorem dL_stay_4 : decode cL_stay 4 = .ok (.iload_n 2, 1) := by decide +kernel
theorem dL_stay_5 : decode cL_stay 5 = .ok (.invokevirtual 69, 3) := by decide +kernel
theorem dL_stay_8 : decode cL_stay 8 = .ok (.i2l, 1) := by decide +kernel
theorem dL_stay_9 : decode cL_stay 9 = .ok (.lastore, 1) := by decide +kernel
theorem dL_stay_10 : decode cL_stay 10 = .ok (.goto 7, 3) := by decide +kernel
theorem dL_stay_13 : decode cL_stay 13 = .ok (.astore 4, 2) := by decide +kernel
theorem dL_stay_15 : decode cL_stay 15 = .ok (.iconst 1, 1) := by decide +kernel
theorem dL_stay_16 : decode cL_stay 16 = .ok (.ireturn, 1) := by decide +kernel
theorem dL_stay_17 : decode cL_stay 17 = .ok (.iconst 0, 1) := by decide +kernel
theorem dL_stay_18 : decode cL_stay 18 = .ok (.ireturn, 1) := by decide +kernel
theorem dL_comeBack_0 : decode cL_comeBack 0 = .ok (.aload_n 3, 1) := by decide +kernel
theorem dL_comeBack_1 : decode cL_comeBack 1 = .ok (.iconst 0, 1) := by decide +kernel
theorem dL_comeBack_2 : decode cL_comeBack 2 = .ok (.aload_n 0, 1) := by decide +kernel
theorem dL_comeBack_3 : decode cL_comeBack 3 = .ok (.iload_n 1, 1) := by decide +kernel
theorem dL_comeBack_4 : decode cL_comeBack 4 = .ok (.iload_n 2, 1) := by decide +kernel
theorem dL_comeBack_5 : decode cL_comeBack 5 = .ok (.invokevirtual 72, 3) := by decide +kernel
theorem dL_comeBack_8 : decode cL_comeBack 8 = .ok (.i2l, 1) := by decide +kernel
theorem dL_comeBack_9 : decode cL_comeBack 9 = .ok (.lastore, 1) := by decide +kernel
theorem dL_comeBack_10 : decode cL_comeBack 10 = .ok (.goto 7, 3) := by decide +kernel
theorem dL_comeBack_13 : decode cL_comeBack 13 = .ok (.astore 4, 2) := by decide +kernel
theorem dL_comeBack_15 : decode cL_comeBack 15 = .ok (.iconst 1, 1) := by decide +kernel
theorem dL_comeBack_16 : decode cL_comeBack 16 = .ok (.ireturn, 1) := by decide +kernel
theorem dL_comeBack_17 : decode cL_comeBack 17 = .ok (.iconst 0, 1) := by decide +kernel
theorem dL_comeBack_18 : decode cL_comeBack 18 = .ok (.ireturn, 1) := by decide +kernel
theorem dL_isTrap_0 : decode cL_isTrap 0 = .ok (.aload_n 3, 1) := by decide +kernel
theorem dL_isTrap_1 : decode cL_isTrap 1 = .ok (.iconst 0, 1) := by decide +kernel
theorem dL_isTrap_2 : decode cL_isTrap 2 = .ok (.aload_n 0, 1) := by decide +kernel
theorem dL_isTrap_3 : decode cL_isTrap 3 = .ok (.iload_n 1, 1) := by decide +kernel
theorem dL_isTrap_4 : decode cL_isTrap 4 = .ok (.iload_n 2, 1) := by decide +kernel
theorem dL_isTrap_5 : decode cL_isTrap 5 = .ok (.invokevirtual 75, 3) := by decide +kernel
theorem dL_isTrap_8 : decode cL_isTrap 8 = .ok (.ifCond .eq 7, 3) := by decide +kernel
theorem dL_isTrap_11 : decode cL_isTrap 11 = .ok (.lconst 1, 1) := by decide +kernel
theorem dL_isTrap_12 : decode cL_isTrap 12 = .ok (.goto 4, 3) := by decide +kernel
theorem dL_isTrap_15 : decode cL_isTrap 15 = .ok (.lconst 0, 1) := by decide +kernel
theorem dL_isTrap_16 : decode cL_isTrap 16 = .ok (.lastore, 1) := by decide +kernel
theorem dL_isTrap_17 : decode cL_isTrap 17 = .ok (.goto 7, 3) := by decide +kernel
theorem dL_isTrap_20 : decode cL_isTrap 20 = .ok (.astore 4, 2) := by decide +kernel
theorem dL_isTrap_22 : decode cL_isTrap 22 = .ok (.iconst 1, 1) := by decide +kernel
theorem dL_isTrap_23 : decode cL_isTrap 23 = .ok (.ireturn, 1) := by decide +kernel
theorem dL_isTrap_24 : decode cL_isTrap 24 = .ok (.iconst 0, 1) := by decide +kernel
theorem dL_isTrap_25 : decode cL_isTrap 25 = .ok (.ireturn, 1) := by decide +kernel
theorem dL_canHear_0 : decode cL_canHear 0 = .ok (.aload_n 3, 1) := by decide +kernel
theorem dL_canHear_1 : decode cL_canHear 1 = .ok (.iconst 0, 1) := by decide +kernel
theorem dL_canHear_2 : decode cL_canHear 2 = .ok (.aload_n 0, 1) := by decide +kernel
theorem dL_canHear_3 : decode cL_canHear 3 = .ok (.iload_n 1, 1) := by decide +kernel
theorem dL_canHear_4 : decode cL_canHear 4 = .ok (.iload_n 2, 1) := by decide +kernel
theorem dL_canHear_5 : decode cL_canHear 5 = .ok (.invokevirtual 79, 3) := by decide +kernel
theorem dL_canHear_8 : decode cL_canHear 8 = .ok (.i2l, 1) := by decide +kernel
theorem dL_canHear_9 : decode cL_canHear 9 = .ok (.lastore, 1) := by decide +kernel
theorem dL_canHear_10 : decode cL_canHear 10 = .ok (.goto 7, 3) := by decide +kernel
theorem dL_canHear_13 : decode cL_canHear 13 = .ok (.astore 4, 2) := by decide +kernel
theorem dL_canHear_15 : decode cL_canHear 15 = .ok (.iconst 1, 1) := by decide +kernel
theorem dL_canHear_16 : decode cL_canHear 16 = .ok (.ireturn, 1) := by decide +kernel
theorem dL_canHear_17 : decode cL_canHear 17 = .ok (.iconst 0, 1) := by decide +kernel
theorem dL_canHear_18 : decode cL_canHear 18 = .ok (.ireturn, 1) := by decide +kernel
theorem dL_wonIfCall_0 : decode cL_wonIfCall 0 = .ok (.aload_n 3, 1) := by decide +kernel
theorem dL_wonIfCall_1 : decode cL_wonIfCall 1 = .ok (.iconst 0, 1) := by decide +kernel
theorem dL_wonIfCall_2 : decode cL_wonIfCall 2 = .ok (.aload_n 0, 1) := by decide +kernel
theorem dL_wonIfCall_3 : decode cL_wonIfCall 3 = .ok (.iload_n 1, 1) := by decide +kernel
theorem dL_wonIfCall_4 : decode cL_wonIfCall 4 = .ok (.iload_n 2, 1) := by decide +kernel
theorem dL_wonIfCall_5 : decode cL_wonIfCall 5 = .ok (.invokevirtual 82, 3) := by decide +kernel
theorem dL_wonIfCall_8 : decode cL_wonIfCall 8 = .ok (.i2l, 1) := by decide +kernel
theorem dL_wonIfCall_9 : decode cL_wonIfCall 9 = .ok (.lastore, 1) := by decide +kernel
theorem dL_wonIfCall_10 : decode cL_wonIfCall 10 = .ok (.goto 11, 3) := by decide +kernel
theorem dL_wonIfCall_13 : decode cL_wonIfCall 13 = .ok (.astore 4, 2) := by decide +kernel
theorem dL_wonIfCall_15 : decode cL_wonIfCall 15 = .ok (.iconst 1, 1) := by decide +kernel
theorem dL_wonIfCall_16 : decode cL_wonIfCall 16 = .ok (.ireturn, 1) := by decide +kernel
theorem dL_wonIfCall_17 : decode cL_wonIfCall 17 = .ok (.astore 4, 2) := by decide +kernel
theorem dL_wonIfCall_19 : decode cL_wonIfCall 19 = .ok (.iconst 2, 1) := by decide +kernel
theorem dL_wonIfCall_20 : decode cL_wonIfCall 20 = .ok (.ireturn, 1) := by decide +kernel
theorem dL_wonIfCall_21 : decode cL_wonIfCall 21 = .ok (.iconst 0, 1) := by decide +kernel
theorem dL_wonIfCall_22 : decode cL_wonIfCall 22 = .ok (.ireturn, 1) := by decide +kernel
theorem dL_wonIfOther_0 : decode cL_wonIfOther 0 = .ok (.aload_n 2, 1) := by decide +kernel
theorem dL_wonIfOther_1 : decode cL_wonIfOther 1 = .ok (.iconst 0, 1) := by decide +kernel
theorem dL_wonIfOther_2 : decode cL_wonIfOther 2 = .ok (.aload_n 0, 1) := by decide +kernel
theorem dL_wonIfOther_3 : decode cL_wonIfOther 3 = .ok (.iload_n 1, 1) := by decide +kernel
theorem dL_wonIfOther_4 : decode cL_wonIfOther 4 = .ok (.invokevirtual 85, 3) := by decide +kernel
theorem dL_wonIfOther_7 : decode cL_wonIfOther 7 = .ok (.i2l, 1) := by decide +kernel
theorem dL_wonIfOther_8 : decode cL_wonIfOther 8 = .ok (.lastore, 1) := by decide +kernel
theorem dL_wonIfOther_9 : decode cL_wonIfOther 9 = .ok (.goto 6, 3) := by decide +kernel
theorem dL_wonIfOther_12 : decode cL_wonIfOther 12 = .ok (.astore_n 3, 1) := by decide +kernel
theorem dL_wonIfOther_13 : decode cL_wonIfOther 13 = .ok (.iconst 1, 1) := by decide +kernel
theorem dL_wonIfOther_14 : decode cL_wonIfOther 14 = .ok (.ireturn, 1) := by decide +kernel
theorem dL_wonIfOther_15 : decode cL_wonIfOther 15 = .ok (.iconst 0, 1) := by decide +kernel
theorem dL_wonIfOther_16 : decode cL_wonIfOther 16 = .ok (.ireturn, 1) := by decide +kernel
theorem dL_wonWithout_0 : decode cL_wonWithout 0 = .ok (.aload_n 2, 1) := by decide +kernel
theorem dL_wonWithout_1 : decode cL_wonWithout 1 = .ok (.iconst 0, 1) := by decide +kernel
theorem dL_wonWithout_2 : decode cL_wonWithout 2 = .ok (.aload_n 0, 1) := by decide +kernel
theorem dL_wonWithout_3 : decode cL_wonWithout 3 = .ok (.iload_n 1, 1) := by decide +kernel
theorem dL_wonWithout_4 : decode cL_wonWithout 4 = .ok (.invokevirtual 88, 3) := by decide +kernel
theorem dL_wonWithout_7 : decode cL_wonWithout 7 = .ok (.i2l, 1) := by decide +kernel
theorem dL_wonWithout_8 : decode cL_wonWithout 8 = .ok (.lastore, 1) := by decide +kernel
theorem dL_wonWithout_9 : decode cL_wonWithout 9 = .ok (.goto 6, 3) := by decide +kernel
theorem dL_wonWithout_12 : decode cL_wonWithout 12 = .ok (.astore_n 3, 1) := by decide +kernel
theorem dL_wonWithout_13 : decode cL_wonWithout 13 = .ok (.iconst 1, 1) := by decide +kernel
theorem dL_wonWithout_14 : decode cL_wonWithout 14 = .ok (.ireturn, 1) := by decide +kernel
theorem dL_wonWithout_15 : decode cL_wonWithout 15 = .ok (.iconst 0, 1) := by decide +kernel
theorem dL_wonWithout_16 : decode cL_wonWithout 16 = .ok (.ireturn, 1) := by decide +kernel
theorem dL_wonWith_0 : decode cL_wonWith 0 = .ok (.aload_n 3, 1) := by decide +kernel
theorem dL_wonWith_1 : decode cL_wonWith 1 = .ok (.iconst 0, 1) := by decide +kernel
theorem dL_wonWith_2 : decode cL_wonWith 2 = .ok (.aload_n 0, 1) := by decide +kernel
theorem dL_wonWith_3 : decode cL_wonWith 3 = .ok (.iload_n 1, 1) := by decide +kernel
theorem dL_wonWith_4 : decode cL_wonWith 4 = .ok (.iload_n 2, 1) := by decide +kernel
theorem dL_wonWith_5 : decode cL_wonWith 5 = .ok (.invokevirtual 91, 3) := by decide +kernel
theorem dL_wonWith_8 : decode cL_wonWith 8 = .ok (.i2l, 1) := by decide +kernel
theorem dL_wonWith_9 : decode cL_wonWith 9 = .ok (.lastore, 1) := by decide +kernel
theorem dL_wonWith_10 : decode cL_wonWith 10 = .ok (.goto 7, 3) := by decide +kernel
theorem dL_wonWith_13 : decode cL_wonWith 13 = .ok (.astore 4, 2) := by decide +kernel
theorem dL_wonWith_15 : decode cL_wonWith 15 = .ok (.iconst 1, 1) := by decide +kernel
theorem dL_wonWith_16 : decode cL_wonWith 16 = .ok (.ireturn, 1) := by decide +kernel
theorem dL_wonWith_17 : decode cL_wonWith 17 = .ok (.iconst 0, 1) := by decide +kernel
theorem dL_wonWith_18 : decode cL_wonWith 18 = .ok (.ireturn, 1) := by decide +kernel
theorem dL_leastCall_0 : decode cL_leastCall 0 = .ok (.aload 4, 2) := by decide +kernel
theorem dL_leastCall_2 : decode cL_leastCall 2 = .ok (.iconst 0, 1) := by decide +kernel
theorem dL_leastCall_3 : decode cL_leastCall 3 = .ok (.aload_n 0, 1) := by decide +kernel
theorem dL_leastCall_4 : decode cL_leastCall 4 = .ok (.iload_n 1, 1) := by decide +kernel
theorem dL_leastCall_5 : decode cL_leastCall 5 = .ok (.iload_n 2, 1) := by decide +kernel
theorem dL_leastCall_6 : decode cL_leastCall 6 = .ok (.iload_n 3, 1) := by decide +kernel
theorem dL_leastCall_7 : decode cL_leastCall 7 = .ok (.invokevirtual 94, 3) := by decide +kernel
theorem dL_leastCall_10 : decode cL_leastCall 10 = .ok (.i2l, 1) := by decide +kernel
theorem dL_leastCall_11 : decode cL_leastCall 11 = .ok (.lastore, 1) := by decide +kernel
theorem dL_leastCall_12 : decode cL_leastCall 12 = .ok (.goto 11, 3) := by decide +kernel
theorem dL_leastCall_15 : decode cL_leastCall 15 = .ok (.astore 5, 2) := by decide +kernel
theorem dL_leastCall_17 : decode cL_leastCall 17 = .ok (.iconst 1, 1) := by decide +kernel
theorem dL_leastCall_18 : decode cL_leastCall 18 = .ok (.ireturn, 1) := by decide +kernel
theorem dL_leastCall_19 : decode cL_leastCall 19 = .ok (.astore 5, 2) := by decide +kernel
theorem dL_leastCall_21 : decode cL_leastCall 21 = .ok (.iconst 2, 1) := by decide +kernel
theorem dL_leastCall_22 : decode cL_leastCall 22 = .ok (.ireturn, 1) := by decide +kernel
theorem dL_leastCall_23 : decode cL_leastCall 23 = .ok (.iconst 0, 1) := by decide +kernel
theorem dL_leastCall_24 : decode cL_leastCall 24 = .ok (.ireturn, 1) := by decide +kernel
theorem dL_addPlace_0 : decode cL_addPlace 0 = .ok (.aload_n 3, 1) := by decide +kernel
theorem dL_addPlace_1 : decode cL_addPlace 1 = .ok (.iconst 0, 1) := by decide +kernel
theorem dL_addPlace_2 : decode cL_addPlace 2 = .ok (.aload_n 0, 1) := by decide +kernel
theorem dL_addPlace_3 : decode cL_addPlace 3 = .ok (.iload_n 1, 1) := by decide +kernel
theorem dL_addPlace_4 : decode cL_addPlace 4 = .ok (.iload_n 2, 1) := by decide +kernel
theorem dL_addPlace_5 : decode cL_addPlace 5 = .ok (.invokevirtual 97, 3) := by decide +kernel
theorem dL_addPlace_8 : decode cL_addPlace 8 = .ok (.i2l, 1) := by decide +kernel
theorem dL_addPlace_9 : decode cL_addPlace 9 = .ok (.lastore, 1) := by decide +kernel
theorem dL_addPlace_10 : decode cL_addPlace 10 = .ok (.goto 11, 3) := by decide +kernel
theorem dL_addPlace_13 : decode cL_addPlace 13 = .ok (.astore 4, 2) := by decide +kernel
theorem dL_addPlace_15 : decode cL_addPlace 15 = .ok (.iconst 1, 1) := by decide +kernel
theorem dL_addPlace_16 : decode cL_addPlace 16 = .ok (.ireturn, 1) := by decide +kernel
theorem dL_addPlace_17 : decode cL_addPlace 17 = .ok (.astore 4, 2) := by decide +kernel
theorem dL_addPlace_19 : decode cL_addPlace 19 = .ok (.iconst 2, 1) := by decide +kernel
theorem dL_addPlace_20 : decode cL_addPlace 20 = .ok (.ireturn, 1) := by decide +kernel
theorem dL_addPlace_21 : decode cL_addPlace 21 = .ok (.iconst 0, 1) := by decide +kernel
theorem dL_addPlace_22 : decode cL_addPlace 22 = .ok (.ireturn, 1) := by decide +kernel
theorem dL_removePlace_0 : decode cL_removePlace 0 = .ok (.aload_n 2, 1) := by decide +kernel
theorem dL_removePlace_1 : decode cL_removePlace 1 = .ok (.iconst 0, 1) := by decide +kernel
theorem dL_removePlace_2 : decode cL_removePlace 2 = .ok (.aload_n 0, 1) := by decide +kernel
theorem dL_removePlace_3 : decode cL_removePlace 3 = .ok (.iload_n 1, 1) := by decide +kernel
theorem dL_removePlace_4 : decode cL_removePlace 4 = .ok (.invokevirtual 100, 3) := by decide +kernel
theorem dL_removePlace_7 : decode cL_removePlace 7 = .ok (.i2l, 1) := by decide +kernel
theorem dL_removePlace_8 : decode cL_removePlace 8 = .ok (.lastore, 1) := by decide +kernel
theorem dL_removePlace_9 : decode cL_removePlace 9 = .ok (.goto 9, 3) := by decide +kernel
theorem dL_removePlace_12 : decode cL_removePlace 12 = .ok (.astore_n 3, 1) := by decide +kernel
theorem dL_removePlace_13 : decode cL_removePlace 13 = .ok (.iconst 1, 1) := by decide +kernel
theorem dL_removePlace_14 : decode cL_removePlace 14 = .ok (.ireturn, 1) := by decide +kernel
theorem dL_removePlace_15 : decode cL_removePlace 15 = .ok (.astore_n 3, 1) := by decide +kernel
theorem dL_removePlace_16 : decode cL_removePlace 16 = .ok (.iconst 2, 1) := by decide +kernel
theorem dL_removePlace_17 : decode cL_removePlace 17 = .ok (.ireturn, 1) := by decide +kernel
theorem dL_removePlace_18 : decode cL_removePlace 18 = .ok (.iconst 0, 1) := by decide +kernel
theorem dL_removePlace_19 : decode cL_removePlace 19 = .ok (.ireturn, 1) := by decide +kernel
theorem dL_setOwner_0 : decode cL_setOwner 0 = .ok (.aload_n 3, 1) := by decide +kernel
theorem dL_setOwner_1 : decode cL_setOwner 1 = .ok (.iconst 0, 1) := by decide +kernel
theorem dL_setOwner_2 : decode cL_setOwner 2 = .ok (.aload_n 0, 1) := by decide +kernel
theorem dL_setOwner_3 : decode cL_setOwner 3 = .ok (.iload_n 1, 1) := by decide +kernel
theorem dL_setOwner_4 : decode cL_setOwner 4 = .ok (.iload_n 2, 1) := by decide +kernel
theorem dL_setOwner_5 : decode cL_setOwner 5 = .ok (.invokevirtual 103, 3) := by decide +kernel
theorem dL_setOwner_8 : decode cL_setOwner 8 = .ok (.i2l, 1) := by decide +kernel
theorem dL_setOwner_9 : decode cL_setOwner 9 = .ok (.lastore, 1) := by decide +kernel
theorem dL_setOwner_10 : decode cL_setOwner 10 = .ok (.goto 11, 3) := by decide +kernel
theorem dL_setOwner_13 : decode cL_setOwner 13 = .ok (.astore 4, 2) := by decide +kernel
theorem dL_setOwner_15 : decode cL_setOwner 15 = .ok (.iconst 1, 1) := by decide +kernel
theorem dL_setOwner_16 : decode cL_setOwner 16 = .ok (.ireturn, 1) := by decide +kernel
theorem dL_setOwner_17 : decode cL_setOwner 17 = .ok (.astore 4, 2) := by decide +kernel
theorem dL_setOwner_19 : decode cL_setOwner 19 = .ok (.iconst 2, 1) := by decide +kernel
theorem dL_setOwner_20 : decode cL_setOwner 20 = .ok (.ireturn, 1) := by decide +kernel
theorem dL_setOwner_21 : decode cL_setOwner 21 = .ok (.iconst 0, 1) := by decide +kernel
theorem dL_setOwner_22 : decode cL_setOwner 22 = .ok (.ireturn, 1) := by decide +kernel
theorem dL_setCall_0 : decode cL_setCall 0 = .ok (.aload_n 3, 1) := by decide +kernel
theorem dL_setCall_1 : decode cL_setCall 1 = .ok (.iconst 0, 1) := by decide +kernel
theorem dL_setCall_2 : decode cL_setCall 2 = .ok (.aload_n 0, 1) := by decide +kernel
theorem dL_setCall_3 : decode cL_setCall 3 = .ok (.iload_n 1, 1) := by decide +kernel
theorem dL_setCall_4 : decode cL_setCall 4 = .ok (.iload_n 2, 1) := by decide +kernel
theorem dL_setCall_5 : decode cL_setCall 5 = .ok (.invokevirtual 106, 3) := by decide +kernel
theorem dL_setCall_8 : decode cL_setCall 8 = .ok (.i2l, 1) := by decide +kernel
theorem dL_setCall_9 : decode cL_setCall 9 = .ok (.lastore, 1) := by decide +kernel
theorem dL_setCall_10 : decode cL_setCall 10 = .ok (.goto 11, 3) := by decide +kernel
theorem dL_setCall_13 : decode cL_setCall 13 = .ok (.astore 4, 2) := by decide +kernel
theorem dL_setCall_15 : decode cL_setCall 15 = .ok (.iconst 1, 1) := by decide +kernel
theorem dL_setCall_16 : decode cL_setCall 16 = .ok (.ireturn, 1) := by decide +kernel
theorem dL_setCall_17 : decode cL_setCall 17 = .ok (.astore 4, 2) := by decide +kernel
theorem dL_setCall_19 : decode cL_setCall 19 = .ok (.iconst 2, 1) := by decide +kernel
theorem dL_setCall_20 : decode cL_setCall 20 = .ok (.ireturn, 1) := by decide +kernel
theorem dL_setCall_21 : decode cL_setCall 21 = .ok (.iconst 0, 1) := by decide +kernel
theorem dL_setCall_22 : decode cL_setCall 22 = .ok (.ireturn, 1) := by decide +kernel
theorem dL_addMove_0 : decode cL_addMove 0 = .ok (.aload_n 3, 1) := by decide +kernel
theorem dL_addMove_1 : decode cL_addMove 1 = .ok (.iconst 0, 1) := by decide +kernel
theorem dL_addMove_2 : decode cL_addMove 2 = .ok (.aload_n 0, 1) := by decide +kernel
theorem dL_addMove_3 : decode cL_addMove 3 = .ok (.iload_n 1, 1) := by decide +kernel
theorem dL_addMove_4 : decode cL_addMove 4 = .ok (.iload_n 2, 1) := by decide +kernel
theorem dL_addMove_5 : decode cL_addMove 5 = .ok (.invokevirtual 109, 3) := by decide +kernel
theorem dL_addMove_8 : decode cL_addMove 8 = .ok (.i2l, 1) := by decide +kernel
theorem dL_addMove_9 : decode cL_addMove 9 = .ok (.lastore, 1) := by decide +kernel
theorem dL_addMove_10 : decode cL_addMove 10 = .ok (.goto 15, 3) := by decide +kernel
theorem dL_addMove_13 : decode cL_addMove 13 = .ok (.astore 4, 2) := by decide +kernel
theorem dL_addMove_15 : decode cL_addMove 15 = .ok (.iconst 1, 1) := by decide +kernel
theorem dL_addMove_16 : decode cL_addMove 16 = .ok (.ireturn, 1) := by decide +kernel
theorem dL_addMove_17 : decode cL_addMove 17 = .ok (.astore 4, 2) := by decide +kernel
theorem dL_addMove_19 : decode cL_addMove 19 = .ok (.iconst 2, 1) := by decide +kernel
theorem dL_addMove_20 : decode cL_addMove 20 = .ok (.ireturn, 1) := by decide +kernel
theorem dL_addMove_21 : decode cL_addMove 21 = .ok (.astore 4, 2) := by decide +kernel
theorem dL_addMove_23 : decode cL_addMove 23 = .ok (.iconst 3, 1) := by decide +kernel
theorem dL_addMove_24 : decode cL_addMove 24 = .ok (.ireturn, 1) := by decide +kernel
theorem dL_addMove_25 : decode cL_addMove 25 = .ok (.iconst 0, 1) := by decide +kernel
theorem dL_addMove_26 : decode cL_addMove 26 = .ok (.ireturn, 1) := by decide +kernel
theorem dL_removeMove_0 : decode cL_removeMove 0 = .ok (.aload_n 2, 1) := by decide +kernel
theorem dL_removeMove_1 : decode cL_removeMove 1 = .ok (.iconst 0, 1) := by decide +kernel
theorem dL_removeMove_2 : decode cL_removeMove 2 = .ok (.aload_n 0, 1) := by decide +kernel
theorem dL_removeMove_3 : decode cL_removeMove 3 = .ok (.iload_n 1, 1) := by decide +kernel
theorem dL_removeMove_4 : decode cL_removeMove 4 = .ok (.invokevirtual 112, 3) := by decide +kernel
theorem dL_removeMove_7 : decode cL_removeMove 7 = .ok (.i2l, 1) := by decide +kernel
theorem dL_removeMove_8 : decode cL_removeMove 8 = .ok (.lastore, 1) := by decide +kernel
theorem dL_removeMove_9 : decode cL_removeMove 9 = .ok (.goto 6, 3) := by decide +kernel
theorem dL_removeMove_12 : decode cL_removeMove 12 = .ok (.astore_n 3, 1) := by decide +kernel
theorem dL_removeMove_13 : decode cL_removeMove 13 = .ok (.iconst 1, 1) := by decide +kernel
theorem dL_removeMove_14 : decode cL_removeMove 14 = .ok (.ireturn, 1) := by decide +kernel
theorem dL_removeMove_15 : decode cL_removeMove 15 = .ok (.iconst 0, 1) := by decide +kernel
theorem dL_removeMove_16 : decode cL_removeMove 16 = .ok (.ireturn, 1) := by decide +kernel
theorem dL_preferMove_0 : decode cL_preferMove 0 = .ok (.aload_n 2, 1) := by decide +kernel
theorem dL_preferMove_1 : decode cL_preferMove 1 = .ok (.iconst 0, 1) := by decide +kernel
theorem dL_preferMove_2 : decode cL_preferMove 2 = .ok (.aload_n 0, 1) := by decide +kernel
theorem dL_preferMove_3 : decode cL_preferMove 3 = .ok (.iload_n 1, 1) := by decide +kernel
theorem dL_preferMove_4 : decode cL_preferMove 4 = .ok (.invokevirtual 115, 3) := by decide +kernel
theorem dL_preferMove_7 : decode cL_preferMove 7 = .ok (.i2l, 1) := by decide +kernel
theorem dL_preferMove_8 : decode cL_preferMove 8 = .ok (.lastore, 1) := by decide +kernel
theorem dL_preferMove_9 : decode cL_preferMove 9 = .ok (.goto 6, 3) := by decide +kernel
theorem dL_preferMove_12 : decode cL_preferMove 12 = .ok (.astore_n 3, 1) := by decide +kernel
theorem dL_preferMove_13 : decode cL_preferMove 13 = .ok (.iconst 1, 1) := by decide +kernel
theorem dL_preferMove_14 : decode cL_preferMove 14 = .ok (.ireturn, 1) := by decide +kernel
theorem dL_preferMove_15 : decode cL_preferMove 15 = .ok (.iconst 0, 1) := by decide +kernel
theorem dL_preferMove_16 : decode cL_preferMove 16 = .ok (.ireturn, 1) := by decide +kernel
theorem dL_exchange_0 : decode cL_exchange 0 = .ok (.aload_n 1, 1) := by decide +kernel
theorem dL_exchange_1 : decode cL_exchange 1 = .ok (.iconst 0, 1) := by decide +kernel
theorem dL_exchange_2 : decode cL_exchange 2 = .ok (.aload_n 0, 1) := by decide +kernel
theorem dL_exchange_3 : decode cL_exchange 3 = .ok (.invokevirtual 118, 3) := by decide +kernel
theorem dL_exchange_6 : decode cL_exchange 6 = .ok (.i2l, 1) := by decide +kernel
theorem dL_exchange_7 : decode cL_exchange 7 = .ok (.lastore, 1) := by decide +kernel
theorem dL_exchange_8 : decode cL_exchange 8 = .ok (.goto 6, 3) := by decide +kernel
theorem dL_exchange_11 : decode cL_exchange 11 = .ok (.astore_n 2, 1) := by decide +kernel
theorem dL_exchange_12 : decode cL_exchange 12 = .ok (.iconst 1, 1) := by decide +kernel
theorem dL_exchange_13 : decode cL_exchange 13 = .ok (.ireturn, 1) := by decide +kernel
theorem dL_exchange_14 : decode cL_exchange 14 = .ok (.iconst 0, 1) := by decide +kernel
theorem dL_exchange_15 : decode cL_exchange 15 = .ok (.ireturn, 1) := by decide +kernel
theorem dL_lay_0 : decode cL_lay 0 = .ok (.aload_n 2, 1) := by decide +kernel
theorem dL_lay_1 : decode cL_lay 1 = .ok (.iconst 0, 1) := by decide +kernel
theorem dL_lay_2 : decode cL_lay 2 = .ok (.aload_n 0, 1) := by decide +kernel
theorem dL_lay_3 : decode cL_lay 3 = .ok (.iload_n 1, 1) := by decide +kernel
theorem dL_lay_4 : decode cL_lay 4 = .ok (.invokevirtual 122, 3) := by decide +kernel
theorem dL_lay_7 : decode cL_lay 7 = .ok (.i2l, 1) := by decide +kernel
theorem dL_lay_8 : decode cL_lay 8 = .ok (.lastore, 1) := by decide +kernel
theorem dL_lay_9 : decode cL_lay 9 = .ok (.goto 6, 3) := by decide +kernel
theorem dL_lay_12 : decode cL_lay 12 = .ok (.astore_n 3, 1) := by decide +kernel
theorem dL_lay_13 : decode cL_lay 13 = .ok (.iconst 1, 1) := by decide +kernel
theorem dL_lay_14 : decode cL_lay 14 = .ok (.ireturn, 1) := by decide +kernel
theorem dL_lay_15 : decode cL_lay 15 = .ok (.iconst 0, 1) := by decide +kernel
theorem dL_lay_16 : decode cL_lay 16 = .ok (.ireturn, 1) := by decide +kernel
theorem dL_go_0 : decode cL_go 0 = .ok (.aload_n 2, 1) := by decide +kernel
theorem dL_go_1 : decode cL_go 1 = .ok (.iconst 0, 1) := by decide +kernel
theorem dL_go_2 : decode cL_go 2 = .ok (.aload_n 0, 1) := by decide +kernel
theorem dL_go_3 : decode cL_go 3 = .ok (.iload_n 1, 1) := by decide +kernel
theorem dL_go_4 : decode cL_go 4 = .ok (.invokevirtual 125, 3) := by decide +kernel
theorem dL_go_7 : decode cL_go 7 = .ok (.i2l, 1) := by decide +kernel
theorem dL_go_8 : decode cL_go 8 = .ok (.lastore, 1) := by decide +kernel
theorem dL_go_9 : decode cL_go 9 = .ok (.goto 9, 3) := by decide +kernel
theorem dL_go_12 : decode cL_go 12 = .ok (.astore_n 3, 1) := by decide +kernel
theorem dL_go_13 : decode cL_go 13 = .ok (.iconst 1, 1) := by decide +kernel
theorem dL_go_14 : decode cL_go 14 = .ok (.ireturn, 1) := by decide +kernel
theorem dL_go_15 : decode cL_go 15 = .ok (.astore_n 3, 1) := by decide +kernel
theorem dL_go_16 : decode cL_go 16 = .ok (.iconst 2, 1) := by decide +kernel
theorem dL_go_17 : decode cL_go 17 = .ok (.ireturn, 1) := by decide +kernel
theorem dL_go_18 : decode cL_go 18 = .ok (.iconst 0, 1) := by decide +kernel
theorem dL_go_19 : decode cL_go 19 = .ok (.ireturn, 1) := by decide +kernel
theorem dL_run_0 : decode cL_run 0 = .ok (.aload_n 2, 1) := by decide +kernel
theorem dL_run_1 : decode cL_run 1 = .ok (.iconst 0, 1) := by decide +kernel
theorem dL_run_2 : decode cL_run 2 = .ok (.aload_n 0, 1) := by decide +kernel
theorem dL_run_3 : decode cL_run 3 = .ok (.iload_n 1, 1) := by decide +kernel
theorem dL_run_4 : decode cL_run 4 = .ok (.invokevirtual 128, 3) := by decide +kernel
theorem dL_run_7 : decode cL_run 7 = .ok (.i2l, 1) := by decide +kernel
theorem dL_run_8 : decode cL_run 8 = .ok (.lastore, 1) := by decide +kernel
theorem dL_run_9 : decode cL_run 9 = .ok (.goto 6, 3) := by decide +kernel
theorem dL_run_12 : decode cL_run 12 = .ok (.astore_n 3, 1) := by decide +kernel
theorem dL_run_13 : decode cL_run 13 = .ok (.iconst 1, 1) := by decide +kernel
theorem dL_run_14 : decode cL_run 14 = .ok (.ireturn, 1) := by decide +kernel
theorem dL_run_15 : decode cL_run 15 = .ok (.iconst 0, 1) := by decide +kernel
theorem dL_run_16 : decode cL_run 16 = .ok (.ireturn, 1) := by decide +kernel
theorem dL_restore_0 : decode cL_restore 0 = .ok (.aload_n 2, 1) := by decide +kernel
theorem dL_restore_1 : decode cL_restore 1 = .ok (.iconst 0, 1) := by decide +kernel
theorem dL_restore_2 : decode cL_restore 2 = .ok (.aload_n 0, 1) := by decide +kernel
theorem dL_restore_3 : decode cL_restore 3 = .ok (.iload_n 1, 1) := by decide +kernel
theorem dL_restore_4 : decode cL_restore 4 = .ok (.invokevirtual 131, 3) := by decide +kernel
theorem dL_restore_7 : decode cL_restore 7 = .ok (.i2l, 1) := by decide +kernel
theorem dL_restore_8 : decode cL_restore 8 = .ok (.lastore, 1) := by decide +kernel
theorem dL_restore_9 : decode cL_restore 9 = .ok (.goto 9, 3) := by decide +kernel
theorem dL_restore_12 : decode cL_restore 12 = .ok (.astore_n 3, 1) := by decide +kernel
theorem dL_restore_13 : decode cL_restore 13 = .ok (.iconst 1, 1) := by decide +kernel
theorem dL_restore_14 : decode cL_restore 14 = .ok (.ireturn, 1) := by decide +kernel
theorem dL_restore_15 : decode cL_restore 15 = .ok (.astore_n 3, 1) := by decide +kernel
theorem dL_restore_16 : decode cL_restore 16 = .ok (.iconst 2, 1) := by decide +kernel
theorem dL_restore_17 : decode cL_restore 17 = .ok (.ireturn, 1) := by decide +kernel
theorem dL_restore_18 : decode cL_restore 18 = .ok (.iconst 0, 1) := by decide +kernel
theorem dL_restore_19 : decode cL_restore 19 = .ok (.ireturn, 1) := by decide +kernel
theorem dL_undo_0 : decode cL_undo 0 = .ok (.aload_n 1, 1) := by decide +kernel
theorem dL_undo_1 : decode cL_undo 1 = .ok (.iconst 0, 1) := by decide +kernel
theorem dL_undo_2 : decode cL_undo 2 = .ok (.aload_n 0, 1) := by decide +kernel
theorem dL_undo_3 : decode cL_undo 3 = .ok (.invokevirtual 134, 3) := by decide +kernel
theorem dL_undo_6 : decode cL_undo 6 = .ok (.i2l, 1) := by decide +kernel
theorem dL_undo_7 : decode cL_undo 7 = .ok (.lastore, 1) := by decide +kernel
theorem dL_undo_8 : decode cL_undo 8 = .ok (.goto 6, 3) := by decide +kernel
theorem dL_undo_11 : decode cL_undo 11 = .ok (.astore_n 2, 1) := by decide +kernel
theorem dL_undo_12 : decode cL_undo 12 = .ok (.iconst 1, 1) := by decide +kernel
theorem dL_undo_13 : decode cL_undo 13 = .ok (.ireturn, 1) := by decide +kernel
theorem dL_undo_14 : decode cL_undo 14 = .ok (.iconst 0, 1) := by decide +kernel
theorem dL_undo_15 : decode cL_undo 15 = .ok (.ireturn, 1) := by decide +kernel
theorem dL_save_0 : decode cL_save 0 = .ok (.aload_n 2, 1) := by decide +kernel
theorem dL_save_1 : decode cL_save 1 = .ok (.iconst 0, 1) := by decide +kernel
theorem dL_save_2 : decode cL_save 2 = .ok (.aload_n 0, 1) := by decide +kernel
theorem dL_save_3 : decode cL_save 3 = .ok (.iload_n 1, 1) := by decide +kernel
theorem dL_save_4 : decode cL_save 4 = .ok (.invokevirtual 137, 3) := by decide +kernel
theorem dL_save_7 : decode cL_save 7 = .ok (.i2l, 1) := by decide +kernel
theorem dL_save_8 : decode cL_save 8 = .ok (.lastore, 1) := by decide +kernel
theorem dL_save_9 : decode cL_save 9 = .ok (.goto 6, 3) := by decide +kernel
theorem dL_save_12 : decode cL_save 12 = .ok (.astore_n 3, 1) := by decide +kernel
theorem dL_save_13 : decode cL_save 13 = .ok (.iconst 1, 1) := by decide +kernel
theorem dL_save_14 : decode cL_save 14 = .ok (.ireturn, 1) := by decide +kernel
theorem dL_save_15 : decode cL_save 15 = .ok (.iconst 0, 1) := by decide +kernel
theorem dL_save_16 : decode cL_save 16 = .ok (.ireturn, 1) := by decide +kernel
theorem dL_outputByte_0 : decode cL_outputByte 0 = .ok (.aload_n 2, 1) := by decide +kernel
theorem dL_outputByte_1 : decode cL_outputByte 1 = .ok (.iconst 0, 1) := by decide +kernel
theorem dL_outputByte_2 : decode cL_outputByte 2 = .ok (.aload_n 0, 1) := by decide +kernel
theorem dL_outputByte_3 : decode cL_outputByte 3 = .ok (.iload_n 1, 1) := by decide +kernel
theorem dL_outputByte_4 : decode cL_outputByte 4 = .ok (.invokevirtual 140, 3) := by decide +kernel
theorem dL_outputByte_7 : decode cL_outputByte 7 = .ok (.i2l, 1) := by decide +kernel
theorem dL_outputByte_8 : decode cL_outputByte 8 = .ok (.lastore, 1) := by decide +kernel
theorem dL_outputByte_9 : decode cL_outputByte 9 = .ok (.goto 6, 3) := by decide +kernel
theorem dL_outputByte_12 : decode cL_outputByte 12 = .ok (.astore_n 3, 1) := by decide +kernel
theorem dL_outputByte_13 : decode cL_outputByte 13 = .ok (.iconst 1, 1) := by decide +kernel
theorem dL_outputByte_14 : decode cL_outputByte 14 = .ok (.ireturn, 1) := by decide +kernel
theorem dL_outputByte_15 : decode cL_outputByte 15 = .ok (.iconst 0, 1) := by decide +kernel
theorem dL_outputByte_16 : decode cL_outputByte 16 = .ok (.ireturn, 1) := by decide +kernel
