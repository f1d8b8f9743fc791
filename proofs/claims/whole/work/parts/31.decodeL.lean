theorem dL_sample_0 : decode cL_sample 0 = .ok (.aload_n 2, 1) := by decide +kernel
theorem dL_sample_1 : decode cL_sample 1 = .ok (.iconst 0, 1) := by decide +kernel
theorem dL_sample_2 : decode cL_sample 2 = .ok (.aload_n 0, 1) := by decide +kernel
theorem dL_sample_3 : decode cL_sample 3 = .ok (.iload_n 1, 1) := by decide +kernel
theorem dL_sample_4 : decode cL_sample 4 = .ok (.invokevirtual 7, 3) := by decide +kernel
theorem dL_sample_7 : decode cL_sample 7 = .ok (.i2l, 1) := by decide +kernel
theorem dL_sample_8 : decode cL_sample 8 = .ok (.lastore, 1) := by decide +kernel
theorem dL_sample_9 : decode cL_sample 9 = .ok (.goto 6, 3) := by decide +kernel
theorem dL_sample_12 : decode cL_sample 12 = .ok (.astore_n 3, 1) := by decide +kernel
theorem dL_sample_13 : decode cL_sample 13 = .ok (.iconst 1, 1) := by decide +kernel
theorem dL_sample_14 : decode cL_sample 14 = .ok (.ireturn, 1) := by decide +kernel
theorem dL_sample_15 : decode cL_sample 15 = .ok (.iconst 0, 1) := by decide +kernel
theorem dL_sample_16 : decode cL_sample 16 = .ok (.ireturn, 1) := by decide +kernel
theorem dL_count_0 : decode cL_count 0 = .ok (.aload_n 2, 1) := by decide +kernel
theorem dL_count_1 : decode cL_count 1 = .ok (.iconst 0, 1) := by decide +kernel
theorem dL_count_2 : decode cL_count 2 = .ok (.aload_n 0, 1) := by decide +kernel
theorem dL_count_3 : decode cL_count 3 = .ok (.iload_n 1, 1) := by decide +kernel
theorem dL_count_4 : decode cL_count 4 = .ok (.invokevirtual 15, 3) := by decide +kernel
theorem dL_count_7 : decode cL_count 7 = .ok (.i2l, 1) := by decide +kernel
theorem dL_count_8 : decode cL_count 8 = .ok (.lastore, 1) := by decide +kernel
theorem dL_count_9 : decode cL_count 9 = .ok (.goto 6, 3) := by decide +kernel
theorem dL_count_12 : decode cL_count 12 = .ok (.astore_n 3, 1) := by decide +kernel
theorem dL_count_13 : decode cL_count 13 = .ok (.iconst 1, 1) := by decide +kernel
theorem dL_count_14 : decode cL_count 14 = .ok (.ireturn, 1) := by decide +kernel
theorem dL_count_15 : decode cL_count 15 = .ok (.iconst 0, 1) := by decide +kernel
theorem dL_count_16 : decode cL_count 16 = .ok (.ireturn, 1) := by decide +kernel
theorem dL_diff_0 : decode cL_diff 0 = .ok (.aload_n 3, 1) := by decide +kernel
theorem dL_diff_1 : decode cL_diff 1 = .ok (.iconst 0, 1) := by decide +kernel
theorem dL_diff_2 : decode cL_diff 2 = .ok (.aload_n 0, 1) := by decide +kernel
theorem dL_diff_3 : decode cL_diff 3 = .ok (.iload_n 1, 1) := by decide +kernel
theorem dL_diff_4 : decode cL_diff 4 = .ok (.iload_n 2, 1) := by decide +kernel
theorem dL_diff_5 : decode cL_diff 5 = .ok (.invokevirtual 18, 3) := by decide +kernel
theorem dL_diff_8 : decode cL_diff 8 = .ok (.i2l, 1) := by decide +kernel
theorem dL_diff_9 : decode cL_diff 9 = .ok (.lastore, 1) := by decide +kernel
theorem dL_diff_10 : decode cL_diff 10 = .ok (.goto 7, 3) := by decide +kernel
theorem dL_diff_13 : decode cL_diff 13 = .ok (.astore 4, 2) := by decide +kernel
theorem dL_diff_15 : decode cL_diff 15 = .ok (.iconst 1, 1) := by decide +kernel
theorem dL_diff_16 : decode cL_diff 16 = .ok (.ireturn, 1) := by decide +kernel
theorem dL_diff_17 : decode cL_diff 17 = .ok (.iconst 0, 1) := by decide +kernel
theorem dL_diff_18 : decode cL_diff 18 = .ok (.ireturn, 1) := by decide +kernel
theorem dL_rel_0 : decode cL_rel 0 = .ok (.aload_n 3, 1) := by decide +kernel
theorem dL_rel_1 : decode cL_rel 1 = .ok (.iconst 0, 1) := by decide +kernel
theorem dL_rel_2 : decode cL_rel 2 = .ok (.aload_n 0, 1) := by decide +kernel
theorem dL_rel_3 : decode cL_rel 3 = .ok (.iload_n 1, 1) := by decide +kernel
theorem dL_rel_4 : decode cL_rel 4 = .ok (.iload_n 2, 1) := by decide +kernel
theorem dL_rel_5 : decode cL_rel 5 = .ok (.invokevirtual 22, 3) := by decide +kernel
theorem dL_rel_8 : decode cL_rel 8 = .ok (.i2l, 1) := by decide +kernel
theorem dL_rel_9 : decode cL_rel 9 = .ok (.lastore, 1) := by decide +kernel
theorem dL_rel_10 : decode cL_rel 10 = .ok (.goto 7, 3) := by decide +kernel
theorem dL_rel_13 : decode cL_rel 13 = .ok (.astore 4, 2) := by decide +kernel
theorem dL_rel_15 : decode cL_rel 15 = .ok (.iconst 1, 1) := by decide +kernel
theorem dL_rel_16 : decode cL_rel 16 = .ok (.ireturn, 1) := by decide +kernel
theorem dL_rel_17 : decode cL_rel 17 = .ok (.iconst 0, 1) := by decide +kernel
theorem dL_rel_18 : decode cL_rel 18 = .ok (.ireturn, 1) := by decide +kernel
theorem dL_loud_0 : decode cL_loud 0 = .ok (.aload_n 2, 1) := by decide +kernel
theorem dL_loud_1 : decode cL_loud 1 = .ok (.iconst 0, 1) := by decide +kernel
theorem dL_loud_2 : decode cL_loud 2 = .ok (.aload_n 0, 1) := by decide +kernel
theorem dL_loud_3 : decode cL_loud 3 = .ok (.iload_n 1, 1) := by decide +kernel
theorem dL_loud_4 : decode cL_loud 4 = .ok (.invokevirtual 25, 3) := by decide +kernel
theorem dL_loud_7 : decode cL_loud 7 = .ok (.i2l, 1) := by decide +kernel
theorem dL_loud_8 : decode cL_loud 8 = .ok (.lastore, 1) := by decide +kernel
theorem dL_loud_9 : decode cL_loud 9 = .ok (.goto 6, 3) := by decide +kernel
theorem dL_loud_12 : decode cL_loud 12 = .ok (.astore_n 3, 1) := by decide +kernel
theorem dL_loud_13 : decode cL_loud 13 = .ok (.iconst 1, 1) := by decide +kernel
theorem dL_loud_14 : decode cL_loud 14 = .ok (.ireturn, 1) := by decide +kernel
theorem dL_loud_15 : decode cL_loud 15 = .ok (.iconst 0, 1) := by decide +kernel
theorem dL_loud_16 : decode cL_loud 16 = .ok (.ireturn, 1) := by decide +kernel
theorem dL_candidates_0 : decode cL_candidates 0 = .ok (.aload_n 2, 1) := by decide +kernel
theorem dL_candidates_1 : decode cL_candidates 1 = .ok (.iconst 0, 1) := by decide +kernel
theorem dL_candidates_2 : decode cL_candidates 2 = .ok (.aload_n 0, 1) := by decide +kernel
theorem dL_candidates_3 : decode cL_candidates 3 = .ok (.iload_n 1, 1) := by decide +kernel
theorem dL_candidates_4 : decode cL_candidates 4 = .ok (.invokevirtual 28, 3) := by decide +kernel
theorem dL_candidates_7 : decode cL_candidates 7 = .ok (.i2l, 1) := by decide +kernel
theorem dL_candidates_8 : decode cL_candidates 8 = .ok (.lastore, 1) := by decide +kernel
theorem dL_candidates_9 : decode cL_candidates 9 = .ok (.goto 6, 3) := by decide +kernel
theorem dL_candidates_12 : decode cL_candidates 12 = .ok (.astore_n 3, 1) := by decide +kernel
theorem dL_candidates_13 : decode cL_candidates 13 = .ok (.iconst 1, 1) := by decide +kernel
theorem dL_candidates_14 : decode cL_candidates 14 = .ok (.ireturn, 1) := by decide +kernel
theorem dL_candidates_15 : decode cL_candidates 15 = .ok (.iconst 0, 1) := by decide +kernel
theorem dL_candidates_16 : decode cL_candidates 16 = .ok (.ireturn, 1) := by decide +kernel
theorem dL_candidate_0 : decode cL_candidate 0 = .ok (.aload 4, 2) := by decide +kernel
theorem dL_candidate_2 : decode cL_candidate 2 = .ok (.iconst 0, 1) := by decide +kernel
theorem dL_candidate_3 : decode cL_candidate 3 = .ok (.aload_n 0, 1) := by decide +kernel
theorem dL_candidate_4 : decode cL_candidate 4 = .ok (.iload_n 1, 1) := by decide +kernel
theorem dL_candidate_5 : decode cL_candidate 5 = .ok (.iload_n 2, 1) := by decide +kernel
theorem dL_candidate_6 : decode cL_candidate 6 = .ok (.iload_n 3, 1) := by decide +kernel
theorem dL_candidate_7 : decode cL_candidate 7 = .ok (.invokevirtual 31, 3) := by decide +kernel
theorem dL_candidate_10 : decode cL_candidate 10 = .ok (.i2l, 1) := by decide +kernel
theorem dL_candidate_11 : decode cL_candidate 11 = .ok (.lastore, 1) := by decide +kernel
theorem dL_candidate_12 : decode cL_candidate 12 = .ok (.goto 7, 3) := by decide +kernel
theorem dL_candidate_15 : decode cL_candidate 15 = .ok (.astore 5, 2) := by decide +kernel
theorem dL_candidate_17 : decode cL_candidate 17 = .ok (.iconst 1, 1) := by decide +kernel
theorem dL_candidate_18 : decode cL_candidate 18 = .ok (.ireturn, 1) := by decide +kernel
theorem dL_candidate_19 : decode cL_candidate 19 = .ok (.iconst 0, 1) := by decide +kernel
theorem dL_candidate_20 : decode cL_candidate 20 = .ok (.ireturn, 1) := by decide +kernel
theorem dL_fine_0 : decode cL_fine 0 = .ok (.aload 4, 2) := by decide +kernel
theorem dL_fine_2 : decode cL_fine 2 = .ok (.iconst 0, 1) := by decide +kernel
theorem dL_fine_3 : decode cL_fine 3 = .ok (.aload_n 0, 1) := by decide +kernel
theorem dL_fine_4 : decode cL_fine 4 = .ok (.iload_n 1, 1) := by decide +kernel
theorem dL_fine_5 : decode cL_fine 5 = .ok (.iload_n 2, 1) := by decide +kernel
theorem dL_fine_6 : decode cL_fine 6 = .ok (.iload_n 3, 1) := by decide +kernel
theorem dL_fine_7 : decode cL_fine 7 = .ok (.invokevirtual 35, 3) := by decide +kernel
theorem dL_fine_10 : decode cL_fine 10 = .ok (.i2l, 1) := by decide +kernel
theorem dL_fine_11 : decode cL_fine 11 = .ok (.lastore, 1) := by decide +kernel
theorem dL_fine_12 : decode cL_fine 12 = .ok (.goto 7, 3) := by decide +kernel
theorem dL_fine_15 : decode cL_fine 15 = .ok (.astore 5, 2) := by decide +kernel
theorem dL_fine_17 : decode cL_fine 17 = .ok (.iconst 1, 1) := by decide +kernel
theorem dL_fine_18 : decode cL_fine 18 = .ok (.ireturn, 1) := by decide +kernel
theorem dL_fine_19 : decode cL_fine 19 = .ok (.iconst 0, 1) := by decide +kernel
theorem dL_fine_20 : decode cL_fine 20 = .ok (.ireturn, 1) := by decide +kernel
theorem dL_cost_0 : decode cL_cost 0 = .ok (.aload_n 2, 1) := by decide +kernel
theorem dL_cost_1 : decode cL_cost 1 = .ok (.iconst 0, 1) := by decide +kernel
theorem dL_cost_2 : decode cL_cost 2 = .ok (.aload_n 0, 1) := by decide +kernel
theorem dL_cost_3 : decode cL_cost 3 = .ok (.iload_n 1, 1) := by decide +kernel
theorem dL_cost_4 : decode cL_cost 4 = .ok (.invokevirtual 39, 3) := by decide +kernel
theorem dL_cost_7 : decode cL_cost 7 = .ok (.i2l, 1) := by decide +kernel
theorem dL_cost_8 : decode cL_cost 8 = .ok (.lastore, 1) := by decide +kernel
theorem dL_cost_9 : decode cL_cost 9 = .ok (.goto 6, 3) := by decide +kernel
theorem dL_cost_12 : decode cL_cost 12 = .ok (.astore_n 3, 1) := by decide +kernel
theorem dL_cost_13 : decode cL_cost 13 = .ok (.iconst 1, 1) := by decide +kernel
theorem dL_cost_14 : decode cL_cost 14 = .ok (.ireturn, 1) := by decide +kernel
theorem dL_cost_15 : decode cL_cost 15 = .ok (.iconst 0, 1) := by decide +kernel
theorem dL_cost_16 : decode cL_cost 16 = .ok (.ireturn, 1) := by decide +kernel
theorem dL_path_0 : decode cL_path 0 = .ok (.aload_n 2, 1) := by decide +kernel
theorem dL_path_1 : decode cL_path 1 = .ok (.iconst 0, 1) := by decide +kernel
theorem dL_path_2 : decode cL_path 2 = .ok (.aload_n 0, 1) := by decide +kernel
theorem dL_path_3 : decode cL_path 3 = .ok (.iload_n 1, 1) := by decide +kernel
theorem dL_path_4 : decode cL_path 4 = .ok (.invokevirtual 42, 3) := by decide +kernel
theorem dL_path_7 : decode cL_path 7 = .ok (.i2l, 1) := by decide +kernel
theorem dL_path_8 : decode cL_path 8 = .ok (.lastore, 1) := by decide +kernel
theorem dL_path_9 : decode cL_path 9 = .ok (.goto 6, 3) := by decide +kernel
theorem dL_path_12 : decode cL_path 12 = .ok (.astore_n 3, 1) := by decide +kernel
theorem dL_path_13 : decode cL_path 13 = .ok (.iconst 1, 1) := by decide +kernel
theorem dL_path_14 : decode cL_path 14 = .ok (.ireturn, 1) := by decide +kernel
theorem dL_path_15 : decode cL_path 15 = .ok (.iconst 0, 1) := by decide +kernel
theorem dL_path_16 : decode cL_path 16 = .ok (.ireturn, 1) := by decide +kernel
theorem dL_lag_0 : decode cL_lag 0 = .ok (.aload_n 2, 1) := by decide +kernel
theorem dL_lag_1 : decode cL_lag 1 = .ok (.iconst 0, 1) := by decide +kernel
theorem dL_lag_2 : decode cL_lag 2 = .ok (.aload_n 0, 1) := by decide +kernel
theorem dL_lag_3 : decode cL_lag 3 = .ok (.iload_n 1, 1) := by decide +kernel
theorem dL_lag_4 : decode cL_lag 4 = .ok (.invokevirtual 45, 3) := by decide +kernel
theorem dL_lag_7 : decode cL_lag 7 = .ok (.i2l, 1) := by decide +kernel
theorem dL_lag_8 : decode cL_lag 8 = .ok (.lastore, 1) := by decide +kernel
theorem dL_lag_9 : decode cL_lag 9 = .ok (.goto 6, 3) := by decide +kernel
theorem dL_lag_12 : decode cL_lag 12 = .ok (.astore_n 3, 1) := by decide +kernel
theorem dL_lag_13 : decode cL_lag 13 = .ok (.iconst 1, 1) := by decide +kernel
theorem dL_lag_14 : decode cL_lag 14 = .ok (.ireturn, 1) := by decide +kernel
theorem dL_lag_15 : decode cL_lag 15 = .ok (.iconst 0, 1) := by decide +kernel
theorem dL_lag_16 : decode cL_lag 16 = .ok (.ireturn, 1) := by decide +kernel
theorem dL_through_0 : decode cL_through 0 = .ok (.aload_n 3, 1) := by decide +kernel
theorem dL_through_1 : decode cL_through 1 = .ok (.iconst 0, 1) := by decide +kernel
theorem dL_through_2 : decode cL_through 2 = .ok (.aload_n 0, 1) := by decide +kernel
theorem dL_through_3 : decode cL_through 3 = .ok (.iload_n 1, 1) := by decide +kernel
theorem dL_through_4 : decode cL_through 4 = .ok (.iload_n 2, 1) := by decide +kernel
theorem dL_through_5 : decode cL_through 5 = .ok (.invokevirtual 48, 3) := by decide +kernel
theorem dL_through_8 : decode cL_through 8 = .ok (.i2l, 1) := by decide +kernel
theorem dL_through_9 : decode cL_through 9 = .ok (.lastore, 1) := by decide +kernel
theorem dL_through_10 : decode cL_through 10 = .ok (.goto 7, 3) := by decide +kernel
theorem dL_through_13 : decode cL_through 13 = .ok (.astore 4, 2) := by decide +kernel
theorem dL_through_15 : decode cL_through 15 = .ok (.iconst 1, 1) := by decide +kernel
theorem dL_through_16 : decode cL_through 16 = .ok (.ireturn, 1) := by decide +kernel
theorem dL_through_17 : decode cL_through 17 = .ok (.iconst 0, 1) := by decide +kernel
theorem dL_through_18 : decode cL_through 18 = .ok (.ireturn, 1) := by decide +kernel
theorem dL_both_0 : decode cL_both 0 = .ok (.aload 5, 2) := by decide +kernel
theorem dL_both_2 : decode cL_both 2 = .ok (.iconst 0, 1) := by decide +kernel
theorem dL_both_3 : decode cL_both 3 = .ok (.aload_n 0, 1) := by decide +kernel
theorem dL_both_4 : decode cL_both 4 = .ok (.iload_n 1, 1) := by decide +kernel
theorem dL_both_5 : decode cL_both 5 = .ok (.iload_n 2, 1) := by decide +kernel
theorem dL_both_6 : decode cL_both 6 = .ok (.iload_n 3, 1) := by decide +kernel
theorem dL_both_7 : decode cL_both 7 = .ok (.iload 4, 2) := by decide +kernel
theorem dL_both_9 : decode cL_both 9 = .ok (.invokevirtual 51, 3) := by decide +kernel
theorem dL_both_12 : decode cL_both 12 = .ok (.i2l, 1) := by decide +kernel
theorem dL_both_13 : decode cL_both 13 = .ok (.lastore, 1) := by decide +kernel
theorem dL_both_14 : decode cL_both 14 = .ok (.goto 11, 3) := by decide +kernel
theorem dL_both_17 : decode cL_both 17 = .ok (.astore 6, 2) := by decide +kernel
theorem dL_both_19 : decode cL_both 19 = .ok (.iconst 1, 1) := by decide +kernel
theorem dL_both_20 : decode cL_both 20 = .ok (.ireturn, 1) := by decide +kernel
theorem dL_both_21 : decode cL_both 21 = .ok (.astore 6, 2) := by decide +kernel
theorem dL_both_23 : decode cL_both 23 = .ok (.iconst 2, 1) := by decide +kernel
theorem dL_both_24 : decode cL_both 24 = .ok (.ireturn, 1) := by decide +kernel
theorem dL_both_25 : decode cL_both 25 = .ok (.iconst 0, 1) := by decide +kernel
theorem dL_both_26 : decode cL_both 26 = .ok (.ireturn, 1) := by decide +kernel
theorem dL_live_0 : decode cL_live 0 = .ok (.aload_n 3, 1) := by decide +kernel
theorem dL_live_1 : decode cL_live 1 = .ok (.iconst 0, 1) := by decide +kernel
theorem dL_live_2 : decode cL_live 2 = .ok (.aload_n 0, 1) := by decide +kernel
theorem dL_live_3 : decode cL_live 3 = .ok (.iload_n 1, 1) := by decide +kernel
theorem dL_live_4 : decode cL_live 4 = .ok (.iload_n 2, 1) := by decide +kernel
theorem dL_live_5 : decode cL_live 5 = .ok (.invokevirtual 57, 3) := by decide +kernel
theorem dL_live_8 : decode cL_live 8 = .ok (.i2l, 1) := by decide +kernel
theorem dL_live_9 : decode cL_live 9 = .ok (.lastore, 1) := by decide +kernel
theorem dL_live_10 : decode cL_live 10 = .ok (.goto 11, 3) := by decide +kernel
theorem dL_live_13 : decode cL_live 13 = .ok (.astore 4, 2) := by decide +kernel
theorem dL_live_15 : decode cL_live 15 = .ok (.iconst 1, 1) := by decide +kernel
theorem dL_live_16 : decode cL_live 16 = .ok (.ireturn, 1) := by decide +kernel
theorem dL_live_17 : decode cL_live 17 = .ok (.astore 4, 2) := by decide +kernel
theorem dL_live_19 : decode cL_live 19 = .ok (.iconst 2, 1) := by decide +kernel
theorem dL_live_20 : decode cL_live 20 = .ok (.ireturn, 1) := by decide +kernel
theorem dL_live_21 : decode cL_live 21 = .ok (.iconst 0, 1) := by decide +kernel
theorem dL_live_22 : decode cL_live 22 = .ok (.ireturn, 1) := by decide +kernel
theorem dL_settles_0 : decode cL_settles 0 = .ok (.aload_n 2, 1) := by decide +kernel
theorem dL_settles_1 : decode cL_settles 1 = .ok (.iconst 0, 1) := by decide +kernel
theorem dL_settles_2 : decode cL_settles 2 = .ok (.aload_n 0, 1) := by decide +kernel
theorem dL_settles_3 : decode cL_settles 3 = .ok (.iload_n 1, 1) := by decide +kernel
theorem dL_settles_4 : decode cL_settles 4 = .ok (.invokevirtual 60, 3) := by decide +kernel
theorem dL_settles_7 : decode cL_settles 7 = .ok (.i2l, 1) := by decide +kernel
theorem dL_settles_8 : decode cL_settles 8 = .ok (.lastore, 1) := by decide +kernel
theorem dL_settles_9 : decode cL_settles 9 = .ok (.goto 6, 3) := by decide +kernel
theorem dL_settles_12 : decode cL_settles 12 = .ok (.astore_n 3, 1) := by decide +kernel
theorem dL_settles_13 : decode cL_settles 13 = .ok (.iconst 1, 1) := by decide +kernel
theorem dL_settles_14 : decode cL_settles 14 = .ok (.ireturn, 1) := by decide +kernel
theorem dL_settles_15 : decode cL_settles 15 = .ok (.iconst 0, 1) := by decide +kernel
theorem dL_settles_16 : decode cL_settles 16 = .ok (.ireturn, 1) := by decide +kernel
theorem dL_best_0 : decode cL_best 0 = .ok (.aload_n 2, 1) := by decide +kernel
theorem dL_best_1 : decode cL_best 1 = .ok (.iconst 0, 1) := by decide +kernel
theorem dL_best_2 : decode cL_best 2 = .ok (.aload_n 0, 1) := by decide +kernel
theorem dL_best_3 : decode cL_best 3 = .ok (.iload_n 1, 1) := by decide +kernel
theorem dL_best_4 : decode cL_best 4 = .ok (.invokevirtual 63, 3) := by decide +kernel
theorem dL_best_7 : decode cL_best 7 = .ok (.i2l, 1) := by decide +kernel
theorem dL_best_8 : decode cL_best 8 = .ok (.lastore, 1) := by decide +kernel
theorem dL_best_9 : decode cL_best 9 = .ok (.goto 6, 3) := by decide +kernel
theorem dL_best_12 : decode cL_best 12 = .ok (.astore_n 3, 1) := by decide +kernel
theorem dL_best_13 : decode cL_best 13 = .ok (.iconst 1, 1) := by decide +kernel
theorem dL_best_14 : decode cL_best 14 = .ok (.ireturn, 1) := by decide +kernel
theorem dL_best_15 : decode cL_best 15 = .ok (.iconst 0, 1) := by decide +kernel
theorem dL_best_16 : decode cL_best 16 = .ok (.ireturn, 1) := by decide +kernel
theorem dL_bestAt_0 : decode cL_bestAt 0 = .ok (.aload_n 3, 1) := by decide +kernel
theorem dL_bestAt_1 : decode cL_bestAt 1 = .ok (.iconst 0, 1) := by decide +kernel
theorem dL_bestAt_2 : decode cL_bestAt 2 = .ok (.aload_n 0, 1) := by decide +kernel
theorem dL_bestAt_3 : decode cL_bestAt 3 = .ok (.iload_n 1, 1) := by decide +kernel
theorem dL_bestAt_4 : decode cL_bestAt 4 = .ok (.iload_n 2, 1) := by decide +kernel
theorem dL_bestAt_5 : decode cL_bestAt 5 = .ok (.invokevirtual 66, 3) := by decide +kernel
theorem dL_bestAt_8 : decode cL_bestAt 8 = .ok (.i2l, 1) := by decide +kernel
theorem dL_bestAt_9 : decode cL_bestAt 9 = .ok (.lastore, 1) := by decide +kernel
theorem dL_bestAt_10 : decode cL_bestAt 10 = .ok (.goto 11, 3) := by decide +kernel
theorem dL_bestAt_13 : decode cL_bestAt 13 = .ok (.astore 4, 2) := by decide +kernel
theorem dL_bestAt_15 : decode cL_bestAt 15 = .ok (.iconst 1, 1) := by decide +kernel
theorem dL_bestAt_16 : decode cL_bestAt 16 = .ok (.ireturn, 1) := by decide +kernel
theorem dL_bestAt_17 : decode cL_bestAt 17 = .ok (.astore 4, 2) := by decide +kernel
theorem dL_bestAt_19 : decode cL_bestAt 19 = .ok (.iconst 2, 1) := by decide +kernel
theorem dL_bestAt_20 : decode cL_bestAt 20 = .ok (.ireturn, 1) := by decide +kernel
theorem dL_bestAt_21 : decode cL_bestAt 21 = .ok (.iconst 0, 1) := by decide +kernel
theorem dL_bestAt_22 : decode cL_bestAt 22 = .ok (.ireturn, 1) := by decide +kernel
theorem dL_would_0 : decode cL_would 0 = .ok (.aload_n 3, 1) := by decide +kernel
theorem dL_would_1 : decode cL_would 1 = .ok (.iconst 0, 1) := by decide +kernel
theorem dL_would_2 : decode cL_would 2 = .ok (.aload_n 0, 1) := by decide +kernel
theorem dL_would_3 : decode cL_would 3 = .ok (.iload_n 1, 1) := by decide +kernel
theorem dL_would_4 : decode cL_would 4 = .ok (.iload_n 2, 1) := by decide +kernel
theorem dL_would_5 : decode cL_would 5 = .ok (.invokevirtual 69, 3) := by decide +kernel
theorem dL_would_8 : decode cL_would 8 = .ok (.i2l, 1) := by decide +kernel
theorem dL_would_9 : decode cL_would 9 = .ok (.lastore, 1) := by decide +kernel
theorem dL_would_10 : decode cL_would 10 = .ok (.goto 7, 3) := by decide +kernel
theorem dL_would_13 : decode cL_would 13 = .ok (.astore 4, 2) := by decide +kernel
theorem dL_would_15 : decode cL_would 15 = .ok (.iconst 1, 1) := by decide +kernel
theorem dL_would_16 : decode cL_would 16 = .ok (.ireturn, 1) := by decide +kernel
theorem dL_would_17 : decode cL_would 17 = .ok (.iconst 0, 1) := by decide +kernel
theorem dL_would_18 : decode cL_would 18 = .ok (.ireturn, 1) := by decide +kernel
theorem dL_span_0 : decode cL_span 0 = .ok (.aload_n 3, 1) := by decide +kernel
theorem dL_span_1 : decode cL_span 1 = .ok (.iconst 0, 1) := by decide +kernel
theorem dL_span_2 : decode cL_span 2 = .ok (.aload_n 0, 1) := by decide +kernel
theorem dL_span_3 : decode cL_span 3 = .ok (.iload_n 1, 1) := by decide +kernel
theorem dL_span_4 : decode cL_span 4 = .ok (.iload_n 2, 1) := by decide +kernel
theorem dL_span_5 : decode cL_span 5 = .ok (.invokevirtual 72, 3) := by decide +kernel
theorem dL_span_8 : decode cL_span 8 = .ok (.i2l, 1) := by decide +kernel
theorem dL_span_9 : decode cL_span 9 = .ok (.lastore, 1) := by decide +kernel
theorem dL_span_10 : decode cL_span 10 = .ok (.goto 7, 3) := by decide +kernel
theorem dL_span_13 : decode cL_span 13 = .ok (.astore 4, 2) := by decide +kernel
theorem dL_span_15 : decode cL_span 15 = .ok (.iconst 1, 1) := by decide +kernel
theorem dL_span_16 : decode cL_span 16 = .ok (.ireturn, 1) := by decide +kernel
theorem dL_span_17 : decode cL_span 17 = .ok (.iconst 0, 1) := by decide +kernel
theorem dL_span_18 : decode cL_span 18 = .ok (.ireturn, 1) := by decide +kernel
theorem dL_note_0 : decode cL_note 0 = .ok (.aload_n 3, 1) := by decide +kernel
theorem dL_note_1 : decode cL_note 1 = .ok (.iconst 0, 1) := by decide +kernel
theorem dL_note_2 : decode cL_note 2 = .ok (.aload_n 0, 1) := by decide +kernel
theorem dL_note_3 : decode cL_note 3 = .ok (.iload_n 1, 1) := by decide +kernel
theorem dL_note_4 : decode cL_note 4 = .ok (.iload_n 2, 1) := by decide +kernel
theorem dL_note_5 : decode cL_note 5 = .ok (.invokevirtual 75, 3) := by decide +kernel
theorem dL_note_8 : decode cL_note 8 = .ok (.i2l, 1) := by decide +kernel
theorem dL_note_9 : decode cL_note 9 = .ok (.lastore, 1) := by decide +kernel
theorem dL_note_10 : decode cL_note 10 = .ok (.goto 7, 3) := by decide +kernel
theorem dL_note_13 : decode cL_note 13 = .ok (.astore 4, 2) := by decide +kernel
theorem dL_note_15 : decode cL_note 15 = .ok (.iconst 1, 1) := by decide +kernel
theorem dL_note_16 : decode cL_note 16 = .ok (.ireturn, 1) := by decide +kernel
theorem dL_note_17 : decode cL_note 17 = .ok (.iconst 0, 1) := by decide +kernel
theorem dL_note_18 : decode cL_note 18 = .ok (.ireturn, 1) := by decide +kernel
theorem dL_steady_0 : decode cL_steady 0 = .ok (.aload_n 2, 1) := by decide +kernel
theorem dL_steady_1 : decode cL_steady 1 = .ok (.iconst 0, 1) := by decide +kernel
theorem dL_steady_2 : decode cL_steady 2 = .ok (.aload_n 0, 1) := by decide +kernel
theorem dL_steady_3 : decode cL_steady 3 = .ok (.iload_n 1, 1) := by decide +kernel
theorem dL_steady_4 : decode cL_steady 4 = .ok (.invokevirtual 78, 3) := by decide +kernel
theorem dL_steady_7 : decode cL_steady 7 = .ok (.i2l, 1) := by decide +kernel
theorem dL_steady_8 : decode cL_steady 8 = .ok (.lastore, 1) := by decide +kernel
theorem dL_steady_9 : decode cL_steady 9 = .ok (.goto 6, 3) := by decide +kernel
theorem dL_steady_12 : decode cL_steady 12 = .ok (.astore_n 3, 1) := by decide +kernel
theorem dL_steady_13 : decode cL_steady 13 = .ok (.iconst 1, 1) := by decide +kernel
theorem dL_steady_14 : decode cL_steady 14 = .ok (.ireturn, 1) := by decide +kernel
theorem dL_steady_15 : decode cL_steady 15 = .ok (.iconst 0, 1) := by decide +kernel
theorem dL_steady_16 : decode cL_steady 16 = .ok (.ireturn, 1) := by decide +kernel
theorem dL_lagAt_0 : decode cL_lagAt 0 = .ok (.aload_n 3, 1) := by decide +kernel
theorem dL_lagAt_1 : decode cL_lagAt 1 = .ok (.iconst 0, 1) := by decide +kernel
theorem dL_lagAt_2 : decode cL_lagAt 2 = .ok (.aload_n 0, 1) := by decide +kernel
theorem dL_lagAt_3 : decode cL_lagAt 3 = .ok (.iload_n 1, 1) := by decide +kernel
theorem dL_lagAt_4 : decode cL_lagAt 4 = .ok (.iload_n 2, 1) := by decide +kernel
theorem dL_lagAt_5 : decode cL_lagAt 5 = .ok (.invokevirtual 81, 3) := by decide +kernel
theorem dL_lagAt_8 : decode cL_lagAt 8 = .ok (.i2l, 1) := by decide +kernel
theorem dL_lagAt_9 : decode cL_lagAt 9 = .ok (.lastore, 1) := by decide +kernel
theorem dL_lagAt_10 : decode cL_lagAt 10 = .ok (.goto 7, 3) := by decide +kernel
theorem dL_lagAt_13 : decode cL_lagAt 13 = .ok (.astore 4, 2) := by decide +kernel
theorem dL_lagAt_15 : decode cL_lagAt 15 = .ok (.iconst 1, 1) := by decide +kernel
theorem dL_lagAt_16 : decode cL_lagAt 16 = .ok (.ireturn, 1) := by decide +kernel
theorem dL_lagAt_17 : decode cL_lagAt 17 = .ok (.iconst 0, 1) := by decide +kernel
theorem dL_lagAt_18 : decode cL_lagAt 18 = .ok (.ireturn, 1) := by decide +kernel
theorem dL_common_0 : decode cL_common 0 = .ok (.aload_n 2, 1) := by decide +kernel
theorem dL_common_1 : decode cL_common 1 = .ok (.iconst 0, 1) := by decide +kernel
theorem dL_common_2 : decode cL_common 2 = .ok (.aload_n 0, 1) := by decide +kernel
theorem dL_common_3 : decode cL_common 3 = .ok (.iload_n 1, 1) := by decide +kernel
theorem dL_common_4 : decode cL_common 4 = .ok (.invokevirtual 84, 3) := by decide +kernel
theorem dL_common_7 : decode cL_common 7 = .ok (.i2l, 1) := by decide +kernel
theorem dL_common_8 : decode cL_common 8 = .ok (.lastore, 1) := by decide +kernel
theorem dL_common_9 : decode cL_common 9 = .ok (.goto 6, 3) := by decide +kernel
theorem dL_common_12 : decode cL_common 12 = .ok (.astore_n 3, 1) := by decide +kernel
theorem dL_common_13 : decode cL_common 13 = .ok (.iconst 1, 1) := by decide +kernel
theorem dL_common_14 : decode cL_common 14 = .ok (.ireturn, 1) := by decide +kernel
theorem dL_common_15 : decode cL_common 15 = .ok (.iconst 0, 1) := by decide +kernel
theorem dL_common_16 : decode cL_common 16 = .ok (.ireturn, 1) := by decide +kernel
theorem dL_match_0 : decode cL_match 0 = .ok (.aload_n 2, 1) := by decide +kernel
theorem dL_match_1 : decode cL_match 1 = .ok (.iconst 0, 1) := by decide +kernel
theorem dL_match_2 : decode cL_match 2 = .ok (.aload_n 0, 1) := by decide +kernel
theorem dL_match_3 : decode cL_match 3 = .ok (.iload_n 1, 1) := by decide +kernel
theorem dL_match_4 : decode cL_match 4 = .ok (.invokevirtual 87, 3) := by decide +kernel
theorem dL_match_7 : decode cL_match 7 = .ok (.i2l, 1) := by decide +kernel
theorem dL_match_8 : decode cL_match 8 = .ok (.lastore, 1) := by decide +kernel
theorem dL_match_9 : decode cL_match 9 = .ok (.goto 6, 3) := by decide +kernel
theorem dL_match_12 : decode cL_match 12 = .ok (.astore_n 3, 1) := by decide +kernel
theorem dL_match_13 : decode cL_match 13 = .ok (.iconst 1, 1) := by decide +kernel
theorem dL_match_14 : decode cL_match 14 = .ok (.ireturn, 1) := by decide +kernel
theorem dL_match_15 : decode cL_match 15 = .ok (.iconst 0, 1) := by decide +kernel
theorem dL_match_16 : decode cL_match 16 = .ok (.ireturn, 1) := by decide +kernel
theorem dL_matched_0 : decode cL_matched 0 = .ok (.aload_n 2, 1) := by decide +kernel
theorem dL_matched_1 : decode cL_matched 1 = .ok (.iconst 0, 1) := by decide +kernel
theorem dL_matched_2 : decode cL_matched 2 = .ok (.aload_n 0, 1) := by decide +kernel
theorem dL_matched_3 : decode cL_matched 3 = .ok (.iload_n 1, 1) := by decide +kernel
theorem dL_matched_4 : decode cL_matched 4 = .ok (.invokevirtual 90, 3) := by decide +kernel
theorem dL_matched_7 : decode cL_matched 7 = .ok (.i2l, 1) := by decide +kernel
theorem dL_matched_8 : decode cL_matched 8 = .ok (.lastore, 1) := by decide +kernel
theorem dL_matched_9 : decode cL_matched 9 = .ok (.goto 6, 3) := by decide +kernel
theorem dL_matched_12 : decode cL_matched 12 = .ok (.astore_n 3, 1) := by decide +kernel
theorem dL_matched_13 : decode cL_matched 13 = .ok (.iconst 1, 1) := by decide +kernel
theorem dL_matched_14 : decode cL_matched 14 = .ok (.ireturn, 1) := by decide +kernel
theorem dL_matched_15 : decode cL_matched 15 = .ok (.iconst 0, 1) := by decide +kernel
theorem dL_matched_16 : decode cL_matched 16 = .ok (.ireturn, 1) := by decide +kernel
theorem dL_mark_0 : decode cL_mark 0 = .ok (.aload_n 2, 1) := by decide +kernel
theorem dL_mark_1 : decode cL_mark 1 = .ok (.iconst 0, 1) := by decide +kernel
theorem dL_mark_2 : decode cL_mark 2 = .ok (.aload_n 0, 1) := by decide +kernel
theorem dL_mark_3 : decode cL_mark 3 = .ok (.iload_n 1, 1) := by decide +kernel
theorem dL_mark_4 : decode cL_mark 4 = .ok (.invokevirtual 93, 3) := by decide +kernel
theorem dL_mark_7 : decode cL_mark 7 = .ok (.i2l, 1) := by decide +kernel
theorem dL_mark_8 : decode cL_mark 8 = .ok (.lastore, 1) := by decide +kernel
theorem dL_mark_9 : decode cL_mark 9 = .ok (.goto 6, 3) := by decide +kernel
theorem dL_mark_12 : decode cL_mark 12 = .ok (.astore_n 3, 1) := by decide +kernel
theorem dL_mark_13 : decode cL_mark 13 = .ok (.iconst 1, 1) := by decide +kernel
theorem dL_mark_14 : decode cL_mark 14 = .ok (.ireturn, 1) := by decide +kernel
theorem dL_mark_15 : decode cL_mark 15 = .ok (.iconst 0, 1) := by decide +kernel
theorem dL_mark_16 : decode cL_mark 16 = .ok (.ireturn, 1) := by decide +kernel
theorem dL_gaps_0 : decode cL_gaps 0 = .ok (.aload_n 2, 1) := by decide +kernel
theorem dL_gaps_1 : decode cL_gaps 1 = .ok (.iconst 0, 1) := by decide +kernel
theorem dL_gaps_2 : decode cL_gaps 2 = .ok (.aload_n 0, 1) := by decide +kernel
theorem dL_gaps_3 : decode cL_gaps 3 = .ok (.iload_n 1, 1) := by decide +kernel
theorem dL_gaps_4 : decode cL_gaps 4 = .ok (.invokevirtual 96, 3) := by decide +kernel
theorem dL_gaps_7 : decode cL_gaps 7 = .ok (.i2l, 1) := by decide +kernel
theorem dL_gaps_8 : decode cL_gaps 8 = .ok (.lastore, 1) := by decide +kernel
theorem dL_gaps_9 : decode cL_gaps 9 = .ok (.goto 6, 3) := by decide +kernel
theorem dL_gaps_12 : decode cL_gaps 12 = .ok (.astore_n 3, 1) := by decide +kernel
theorem dL_gaps_13 : decode cL_gaps 13 = .ok (.iconst 1, 1) := by decide +kernel
theorem dL_gaps_14 : decode cL_gaps 14 = .ok (.ireturn, 1) := by decide +kernel
theorem dL_gaps_15 : decode cL_gaps 15 = .ok (.iconst 0, 1) := by decide +kernel
theorem dL_gaps_16 : decode cL_gaps 16 = .ok (.ireturn, 1) := by decide +kernel
theorem dL_rough_0 : decode cL_rough 0 = .ok (.aload_n 2, 1) := by decide +kernel
theorem dL_rough_1 : decode cL_rough 1 = .ok (.iconst 0, 1) := by decide +kernel
theorem dL_rough_2 : decode cL_rough 2 = .ok (.aload_n 0, 1) := by decide +kernel
theorem dL_rough_3 : decode cL_rough 3 = .ok (.iload_n 1, 1) := by decide +kernel
theorem dL_rough_4 : decode cL_rough 4 = .ok (.invokevirtual 99, 3) := by decide +kernel
theorem dL_rough_7 : decode cL_rough 7 = .ok (.i2l, 1) := by decide +kernel
theorem dL_rough_8 : decode cL_rough 8 = .ok (.lastore, 1) := by decide +kernel
theorem dL_rough_9 : decode cL_rough 9 = .ok (.goto 6, 3) := by decide +kernel
theorem dL_rough_12 : decode cL_rough 12 = .ok (.astore_n 3, 1) := by decide +kernel
theorem dL_rough_13 : decode cL_rough 13 = .ok (.iconst 1, 1) := by decide +kernel
theorem dL_rough_14 : decode cL_rough 14 = .ok (.ireturn, 1) := by decide +kernel
theorem dL_rough_15 : decode cL_rough 15 = .ok (.iconst 0, 1) := by decide +kernel
theorem dL_rough_16 : decode cL_rough 16 = .ok (.ireturn, 1) := by decide +kernel
theorem dL_mean_0 : decode cL_mean 0 = .ok (.aload_n 2, 1) := by decide +kernel
theorem dL_mean_1 : decode cL_mean 1 = .ok (.iconst 0, 1) := by decide +kernel
theorem dL_mean_2 : decode cL_mean 2 = .ok (.aload_n 0, 1) := by decide +kernel
theorem dL_mean_3 : decode cL_mean 3 = .ok (.iload_n 1, 1) := by decide +kernel
theorem dL_mean_4 : decode cL_mean 4 = .ok (.invokevirtual 102, 3) := by decide +kernel
theorem dL_mean_7 : decode cL_mean 7 = .ok (.i2l, 1) := by decide +kernel
theorem dL_mean_8 : decode cL_mean 8 = .ok (.lastore, 1) := by decide +kernel
theorem dL_mean_9 : decode cL_mean 9 = .ok (.goto 6, 3) := by decide +kernel
theorem dL_mean_12 : decode cL_mean 12 = .ok (.astore_n 3, 1) := by decide +kernel
theorem dL_mean_13 : decode cL_mean 13 = .ok (.iconst 1, 1) := by decide +kernel
theorem dL_mean_14 : decode cL_mean 14 = .ok (.ireturn, 1) := by decide +kernel
theorem dL_mean_15 : decode cL_mean 15 = .ok (.iconst 0, 1) := by decide +kernel
theorem dL_mean_16 : decode cL_mean 16 = .ok (.ireturn, 1) := by decide +kernel
theorem dL_anew_0 : decode cL_anew 0 = .ok (.aload 4, 2) := by decide +kernel
theorem dL_anew_2 : decode cL_anew 2 = .ok (.iconst 0, 1) := by decide +kernel
theorem dL_anew_3 : decode cL_anew 3 = .ok (.aload_n 0, 1) := by decide +kernel
theorem dL_anew_4 : decode cL_anew 4 = .ok (.iload_n 1, 1) := by decide +kernel
theorem dL_anew_5 : decode cL_anew 5 = .ok (.iload_n 2, 1) := by decide +kernel
theorem dL_anew_6 : decode cL_anew 6 = .ok (.iload_n 3, 1) := by decide +kernel
theorem dL_anew_7 : decode cL_anew 7 = .ok (.invokevirtual 106, 3) := by decide +kernel
theorem dL_anew_10 : decode cL_anew 10 = .ok (.i2l, 1) := by decide +kernel
theorem dL_anew_11 : decode cL_anew 11 = .ok (.lastore, 1) := by decide +kernel
theorem dL_anew_12 : decode cL_anew 12 = .ok (.goto 11, 3) := by decide +kernel
theorem dL_anew_15 : decode cL_anew 15 = .ok (.astore 5, 2) := by decide +kernel
theorem dL_anew_17 : decode cL_anew 17 = .ok (.iconst 1, 1) := by decide +kernel
theorem dL_anew_18 : decode cL_anew 18 = .ok (.ireturn, 1) := by decide +kernel
theorem dL_anew_19 : decode cL_anew 19 = .ok (.astore 5, 2) := by decide +kernel
theorem dL_anew_21 : decode cL_anew 21 = .ok (.iconst 2, 1) := by decide +kernel
theorem dL_anew_22 : decode cL_anew 22 = .ok (.ireturn, 1) := by decide +kernel
theorem dL_anew_23 : decode cL_anew 23 = .ok (.iconst 0, 1) := by decide +kernel
theorem dL_anew_24 : decode cL_anew 24 = .ok (.ireturn, 1) := by decide +kernel
