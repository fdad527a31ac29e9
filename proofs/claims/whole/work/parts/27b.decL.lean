theorem d_L_cell_0 : decode b_L_cell 0 = .ok (.iload_n 1, 1) := by decide +kernel
theorem d_L_cell_1 : decode b_L_cell 1 = .ok (.aload_n 0, 1) := by decide +kernel
theorem d_L_cell_2 : decode b_L_cell 2 = .ok (.arraylength, 1) := by decide +kernel
theorem d_L_cell_3 : decode b_L_cell 3 = .ok (.if_icmp .ge 9, 3) := by decide +kernel
theorem d_L_cell_6 : decode b_L_cell 6 = .ok (.aload_n 0, 1) := by decide +kernel
theorem d_L_cell_7 : decode b_L_cell 7 = .ok (.iload_n 1, 1) := by decide +kernel
theorem d_L_cell_8 : decode b_L_cell 8 = .ok (.iaload, 1) := by decide +kernel
theorem d_L_cell_9 : decode b_L_cell 9 = .ok (.goto 4, 3) := by decide +kernel
theorem d_L_cell_12 : decode b_L_cell 12 = .ok (.iconst 0, 1) := by decide +kernel
theorem d_L_cell_13 : decode b_L_cell 13 = .ok (.ireturn, 1) := by decide +kernel
theorem d_L_commit_0 : decode b_L_commit 0 = .ok (.aload_n 3, 1) := by decide +kernel
theorem d_L_commit_1 : decode b_L_commit 1 = .ok (.iconst 0, 1) := by decide +kernel
theorem d_L_commit_2 : decode b_L_commit 2 = .ok (.aload_n 0, 1) := by decide +kernel
theorem d_L_commit_3 : decode b_L_commit 3 = .ok (.iload_n 1, 1) := by decide +kernel
theorem d_L_commit_4 : decode b_L_commit 4 = .ok (.iload_n 2, 1) := by decide +kernel
theorem d_L_commit_5 : decode b_L_commit 5 = .ok (.invokevirtual 7, 3) := by decide +kernel
theorem d_L_commit_8 : decode b_L_commit 8 = .ok (.i2l, 1) := by decide +kernel
theorem d_L_commit_9 : decode b_L_commit 9 = .ok (.lastore, 1) := by decide +kernel
theorem d_L_commit_10 : decode b_L_commit 10 = .ok (.goto 15, 3) := by decide +kernel
theorem d_L_commit_13 : decode b_L_commit 13 = .ok (.astore 4, 2) := by decide +kernel
theorem d_L_commit_15 : decode b_L_commit 15 = .ok (.iconst 1, 1) := by decide +kernel
theorem d_L_commit_16 : decode b_L_commit 16 = .ok (.ireturn, 1) := by decide +kernel
theorem d_L_commit_17 : decode b_L_commit 17 = .ok (.astore 4, 2) := by decide +kernel
theorem d_L_commit_19 : decode b_L_commit 19 = .ok (.iconst 2, 1) := by decide +kernel
theorem d_L_commit_20 : decode b_L_commit 20 = .ok (.ireturn, 1) := by decide +kernel
theorem d_L_commit_21 : decode b_L_commit 21 = .ok (.astore 4, 2) := by decide +kernel
theorem d_L_commit_23 : decode b_L_commit 23 = .ok (.iconst 3, 1) := by decide +kernel
theorem d_L_commit_24 : decode b_L_commit 24 = .ok (.ireturn, 1) := by decide +kernel
theorem d_L_commit_25 : decode b_L_commit 25 = .ok (.iconst 0, 1) := by decide +kernel
theorem d_L_commit_26 : decode b_L_commit 26 = .ok (.ireturn, 1) := by decide +kernel
theorem d_L_stored_0 : decode b_L_stored 0 = .ok (.aload_n 3, 1) := by decide +kernel
theorem d_L_stored_1 : decode b_L_stored 1 = .ok (.iconst 0, 1) := by decide +kernel
theorem d_L_stored_2 : decode b_L_stored 2 = .ok (.aload_n 0, 1) := by decide +kernel
theorem d_L_stored_3 : decode b_L_stored 3 = .ok (.iload_n 1, 1) := by decide +kernel
theorem d_L_stored_4 : decode b_L_stored 4 = .ok (.iload_n 2, 1) := by decide +kernel
theorem d_L_stored_5 : decode b_L_stored 5 = .ok (.invokevirtual 19, 3) := by decide +kernel
theorem d_L_stored_8 : decode b_L_stored 8 = .ok (.i2l, 1) := by decide +kernel
theorem d_L_stored_9 : decode b_L_stored 9 = .ok (.lastore, 1) := by decide +kernel
theorem d_L_stored_10 : decode b_L_stored 10 = .ok (.goto 7, 3) := by decide +kernel
theorem d_L_stored_13 : decode b_L_stored 13 = .ok (.astore 4, 2) := by decide +kernel
theorem d_L_stored_15 : decode b_L_stored 15 = .ok (.iconst 1, 1) := by decide +kernel
theorem d_L_stored_16 : decode b_L_stored 16 = .ok (.ireturn, 1) := by decide +kernel
theorem d_L_stored_17 : decode b_L_stored 17 = .ok (.iconst 0, 1) := by decide +kernel
theorem d_L_stored_18 : decode b_L_stored 18 = .ok (.ireturn, 1) := by decide +kernel
theorem d_L_learn_0 : decode b_L_learn 0 = .ok (.aload_n 0, 1) := by decide +kernel
theorem d_L_learn_1 : decode b_L_learn 1 = .ok (.iload_n 1, 1) := by decide +kernel
theorem d_L_learn_2 : decode b_L_learn 2 = .ok (.iload_n 2, 1) := by decide +kernel
theorem d_L_learn_3 : decode b_L_learn 3 = .ok (.iload_n 3, 1) := by decide +kernel
theorem d_L_learn_4 : decode b_L_learn 4 = .ok (.iload 4, 2) := by decide +kernel
theorem d_L_learn_6 : decode b_L_learn 6 = .ok (.invokevirtual 24, 3) := by decide +kernel
theorem d_L_learn_9 : decode b_L_learn 9 = .ok (.goto 7, 3) := by decide +kernel
theorem d_L_learn_12 : decode b_L_learn 12 = .ok (.astore 5, 2) := by decide +kernel
theorem d_L_learn_14 : decode b_L_learn 14 = .ok (.iconst 1, 1) := by decide +kernel
theorem d_L_learn_15 : decode b_L_learn 15 = .ok (.ireturn, 1) := by decide +kernel
theorem d_L_learn_16 : decode b_L_learn 16 = .ok (.iconst 0, 1) := by decide +kernel
theorem d_L_learn_17 : decode b_L_learn 17 = .ok (.ireturn, 1) := by decide +kernel
theorem d_L_comes_0 : decode b_L_comes 0 = .ok (.aload_n 2, 1) := by decide +kernel
theorem d_L_comes_1 : decode b_L_comes 1 = .ok (.iconst 0, 1) := by decide +kernel
theorem d_L_comes_2 : decode b_L_comes 2 = .ok (.aload_n 0, 1) := by decide +kernel
theorem d_L_comes_3 : decode b_L_comes 3 = .ok (.iload_n 1, 1) := by decide +kernel
theorem d_L_comes_4 : decode b_L_comes 4 = .ok (.invokevirtual 28, 3) := by decide +kernel
theorem d_L_comes_7 : decode b_L_comes 7 = .ok (.i2l, 1) := by decide +kernel
theorem d_L_comes_8 : decode b_L_comes 8 = .ok (.lastore, 1) := by decide +kernel
theorem d_L_comes_9 : decode b_L_comes 9 = .ok (.goto 6, 3) := by decide +kernel
theorem d_L_comes_12 : decode b_L_comes 12 = .ok (.astore_n 3, 1) := by decide +kernel
theorem d_L_comes_13 : decode b_L_comes 13 = .ok (.iconst 1, 1) := by decide +kernel
theorem d_L_comes_14 : decode b_L_comes 14 = .ok (.ireturn, 1) := by decide +kernel
theorem d_L_comes_15 : decode b_L_comes 15 = .ok (.iconst 0, 1) := by decide +kernel
theorem d_L_comes_16 : decode b_L_comes 16 = .ok (.ireturn, 1) := by decide +kernel
theorem d_L_load_0 : decode b_L_load 0 = .ok (.aload_n 3, 1) := by decide +kernel
theorem d_L_load_1 : decode b_L_load 1 = .ok (.iconst 0, 1) := by decide +kernel
theorem d_L_load_2 : decode b_L_load 2 = .ok (.aload_n 0, 1) := by decide +kernel
theorem d_L_load_3 : decode b_L_load 3 = .ok (.iload_n 1, 1) := by decide +kernel
theorem d_L_load_4 : decode b_L_load 4 = .ok (.iload_n 2, 1) := by decide +kernel
theorem d_L_load_5 : decode b_L_load 5 = .ok (.invokevirtual 32, 3) := by decide +kernel
theorem d_L_load_8 : decode b_L_load 8 = .ok (.i2l, 1) := by decide +kernel
theorem d_L_load_9 : decode b_L_load 9 = .ok (.lastore, 1) := by decide +kernel
theorem d_L_load_10 : decode b_L_load 10 = .ok (.goto 7, 3) := by decide +kernel
theorem d_L_load_13 : decode b_L_load 13 = .ok (.astore 4, 2) := by decide +kernel
theorem d_L_load_15 : decode b_L_load 15 = .ok (.iconst 1, 1) := by decide +kernel
theorem d_L_load_16 : decode b_L_load 16 = .ok (.ireturn, 1) := by decide +kernel
theorem d_L_load_17 : decode b_L_load 17 = .ok (.iconst 0, 1) := by decide +kernel
theorem d_L_load_18 : decode b_L_load 18 = .ok (.ireturn, 1) := by decide +kernel
theorem d_L_follow_0 : decode b_L_follow 0 = .ok (.aload_n 0, 1) := by decide +kernel
theorem d_L_follow_1 : decode b_L_follow 1 = .ok (.iload_n 1, 1) := by decide +kernel
theorem d_L_follow_2 : decode b_L_follow 2 = .ok (.iload_n 2, 1) := by decide +kernel
theorem d_L_follow_3 : decode b_L_follow 3 = .ok (.iload_n 3, 1) := by decide +kernel
theorem d_L_follow_4 : decode b_L_follow 4 = .ok (.iload 4, 2) := by decide +kernel
theorem d_L_follow_6 : decode b_L_follow 6 = .ok (.invokevirtual 35, 3) := by decide +kernel
theorem d_L_follow_9 : decode b_L_follow 9 = .ok (.goto 7, 3) := by decide +kernel
theorem d_L_follow_12 : decode b_L_follow 12 = .ok (.astore 5, 2) := by decide +kernel
theorem d_L_follow_14 : decode b_L_follow 14 = .ok (.iconst 1, 1) := by decide +kernel
theorem d_L_follow_15 : decode b_L_follow 15 = .ok (.ireturn, 1) := by decide +kernel
theorem d_L_follow_16 : decode b_L_follow 16 = .ok (.iconst 0, 1) := by decide +kernel
theorem d_L_follow_17 : decode b_L_follow 17 = .ok (.ireturn, 1) := by decide +kernel
theorem d_L_poll_0 : decode b_L_poll 0 = .ok (.aload_n 3, 1) := by decide +kernel
theorem d_L_poll_1 : decode b_L_poll 1 = .ok (.iconst 0, 1) := by decide +kernel
theorem d_L_poll_2 : decode b_L_poll 2 = .ok (.aload_n 0, 1) := by decide +kernel
theorem d_L_poll_3 : decode b_L_poll 3 = .ok (.iload_n 1, 1) := by decide +kernel
theorem d_L_poll_4 : decode b_L_poll 4 = .ok (.iload_n 2, 1) := by decide +kernel
theorem d_L_poll_5 : decode b_L_poll 5 = .ok (.invokevirtual 38, 3) := by decide +kernel
theorem d_L_poll_8 : decode b_L_poll 8 = .ok (.i2l, 1) := by decide +kernel
theorem d_L_poll_9 : decode b_L_poll 9 = .ok (.lastore, 1) := by decide +kernel
theorem d_L_poll_10 : decode b_L_poll 10 = .ok (.goto 7, 3) := by decide +kernel
theorem d_L_poll_13 : decode b_L_poll 13 = .ok (.astore 4, 2) := by decide +kernel
theorem d_L_poll_15 : decode b_L_poll 15 = .ok (.iconst 1, 1) := by decide +kernel
theorem d_L_poll_16 : decode b_L_poll 16 = .ok (.ireturn, 1) := by decide +kernel
theorem d_L_poll_17 : decode b_L_poll 17 = .ok (.iconst 0, 1) := by decide +kernel
theorem d_L_poll_18 : decode b_L_poll 18 = .ok (.ireturn, 1) := by decide +kernel
theorem d_L_done_0 : decode b_L_done 0 = .ok (.aload_n 2, 1) := by decide +kernel
theorem d_L_done_1 : decode b_L_done 1 = .ok (.iconst 0, 1) := by decide +kernel
theorem d_L_done_2 : decode b_L_done 2 = .ok (.aload_n 0, 1) := by decide +kernel
theorem d_L_done_3 : decode b_L_done 3 = .ok (.iload_n 1, 1) := by decide +kernel
theorem d_L_done_4 : decode b_L_done 4 = .ok (.invokevirtual 41, 3) := by decide +kernel
theorem d_L_done_7 : decode b_L_done 7 = .ok (.i2l, 1) := by decide +kernel
theorem d_L_done_8 : decode b_L_done 8 = .ok (.lastore, 1) := by decide +kernel
theorem d_L_done_9 : decode b_L_done 9 = .ok (.goto 6, 3) := by decide +kernel
theorem d_L_done_12 : decode b_L_done 12 = .ok (.astore_n 3, 1) := by decide +kernel
theorem d_L_done_13 : decode b_L_done 13 = .ok (.iconst 1, 1) := by decide +kernel
theorem d_L_done_14 : decode b_L_done 14 = .ok (.ireturn, 1) := by decide +kernel
theorem d_L_done_15 : decode b_L_done 15 = .ok (.iconst 0, 1) := by decide +kernel
theorem d_L_done_16 : decode b_L_done 16 = .ok (.ireturn, 1) := by decide +kernel
theorem d_L_hand_0 : decode b_L_hand 0 = .ok (.aload_n 3, 1) := by decide +kernel
theorem d_L_hand_1 : decode b_L_hand 1 = .ok (.iconst 0, 1) := by decide +kernel
theorem d_L_hand_2 : decode b_L_hand 2 = .ok (.aload_n 0, 1) := by decide +kernel
theorem d_L_hand_3 : decode b_L_hand 3 = .ok (.iload_n 1, 1) := by decide +kernel
theorem d_L_hand_4 : decode b_L_hand 4 = .ok (.iload_n 2, 1) := by decide +kernel
theorem d_L_hand_5 : decode b_L_hand 5 = .ok (.invokevirtual 44, 3) := by decide +kernel
theorem d_L_hand_8 : decode b_L_hand 8 = .ok (.i2l, 1) := by decide +kernel
theorem d_L_hand_9 : decode b_L_hand 9 = .ok (.lastore, 1) := by decide +kernel
theorem d_L_hand_10 : decode b_L_hand 10 = .ok (.goto 7, 3) := by decide +kernel
theorem d_L_hand_13 : decode b_L_hand 13 = .ok (.astore 4, 2) := by decide +kernel
theorem d_L_hand_15 : decode b_L_hand 15 = .ok (.iconst 1, 1) := by decide +kernel
theorem d_L_hand_16 : decode b_L_hand 16 = .ok (.ireturn, 1) := by decide +kernel
theorem d_L_hand_17 : decode b_L_hand 17 = .ok (.iconst 0, 1) := by decide +kernel
theorem d_L_hand_18 : decode b_L_hand 18 = .ok (.ireturn, 1) := by decide +kernel
