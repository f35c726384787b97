theorem dL_bound_0 : decode cL_bound 0 = .ok (.aload_n 3, 1) := by decide +kernel
theorem dL_bound_1 : decode cL_bound 1 = .ok (.iconst 0, 1) := by decide +kernel
theorem dL_bound_2 : decode cL_bound 2 = .ok (.aload_n 0, 1) := by decide +kernel
theorem dL_bound_3 : decode cL_bound 3 = .ok (.iload_n 1, 1) := by decide +kernel
theorem dL_bound_4 : decode cL_bound 4 = .ok (.iload_n 2, 1) := by decide +kernel
theorem dL_bound_5 : decode cL_bound 5 = .ok (.invokevirtual 109, 3) := by decide +kernel
theorem dL_bound_8 : decode cL_bound 8 = .ok (.i2l, 1) := by decide +kernel
theorem dL_bound_9 : decode cL_bound 9 = .ok (.lastore, 1) := by decide +kernel
theorem dL_bound_10 : decode cL_bound 10 = .ok (.goto 11, 3) := by decide +kernel
theorem dL_bound_13 : decode cL_bound 13 = .ok (.astore 4, 2) := by decide +kernel
theorem dL_bound_15 : decode cL_bound 15 = .ok (.iconst 1, 1) := by decide +kernel
theorem dL_bound_16 : decode cL_bound 16 = .ok (.ireturn, 1) := by decide +kernel
theorem dL_bound_17 : decode cL_bound 17 = .ok (.astore 4, 2) := by decide +kernel
theorem dL_bound_19 : decode cL_bound 19 = .ok (.iconst 2, 1) := by decide +kernel
theorem dL_bound_20 : decode cL_bound 20 = .ok (.ireturn, 1) := by decide +kernel
theorem dL_bound_21 : decode cL_bound 21 = .ok (.iconst 0, 1) := by decide +kernel
theorem dL_bound_22 : decode cL_bound 22 = .ok (.ireturn, 1) := by decide +kernel
theorem dL_when_0 : decode cL_when 0 = .ok (.aload_n 3, 1) := by decide +kernel
theorem dL_when_1 : decode cL_when 1 = .ok (.iconst 0, 1) := by decide +kernel
theorem dL_when_2 : decode cL_when 2 = .ok (.aload_n 0, 1) := by decide +kernel
theorem dL_when_3 : decode cL_when 3 = .ok (.iload_n 1, 1) := by decide +kernel
theorem dL_when_4 : decode cL_when 4 = .ok (.iload_n 2, 1) := by decide +kernel
theorem dL_when_5 : decode cL_when 5 = .ok (.invokevirtual 112, 3) := by decide +kernel
theorem dL_when_8 : decode cL_when 8 = .ok (.i2l, 1) := by decide +kernel
theorem dL_when_9 : decode cL_when 9 = .ok (.lastore, 1) := by decide +kernel
theorem dL_when_10 : decode cL_when 10 = .ok (.goto 7, 3) := by decide +kernel
theorem dL_when_13 : decode cL_when 13 = .ok (.astore 4, 2) := by decide +kernel
theorem dL_when_15 : decode cL_when 15 = .ok (.iconst 1, 1) := by decide +kernel
theorem dL_when_16 : decode cL_when 16 = .ok (.ireturn, 1) := by decide +kernel
theorem dL_when_17 : decode cL_when 17 = .ok (.iconst 0, 1) := by decide +kernel
theorem dL_when_18 : decode cL_when 18 = .ok (.ireturn, 1) := by decide +kernel
theorem dL_soonest_0 : decode cL_soonest 0 = .ok (.aload_n 2, 1) := by decide +kernel
theorem dL_soonest_1 : decode cL_soonest 1 = .ok (.iconst 0, 1) := by decide +kernel
theorem dL_soonest_2 : decode cL_soonest 2 = .ok (.aload_n 0, 1) := by decide +kernel
theorem dL_soonest_3 : decode cL_soonest 3 = .ok (.iload_n 1, 1) := by decide +kernel
theorem dL_soonest_4 : decode cL_soonest 4 = .ok (.invokevirtual 115, 3) := by decide +kernel
theorem dL_soonest_7 : decode cL_soonest 7 = .ok (.i2l, 1) := by decide +kernel
theorem dL_soonest_8 : decode cL_soonest 8 = .ok (.lastore, 1) := by decide +kernel
theorem dL_soonest_9 : decode cL_soonest 9 = .ok (.goto 6, 3) := by decide +kernel
theorem dL_soonest_12 : decode cL_soonest 12 = .ok (.astore_n 3, 1) := by decide +kernel
theorem dL_soonest_13 : decode cL_soonest 13 = .ok (.iconst 1, 1) := by decide +kernel
theorem dL_soonest_14 : decode cL_soonest 14 = .ok (.ireturn, 1) := by decide +kernel
theorem dL_soonest_15 : decode cL_soonest 15 = .ok (.iconst 0, 1) := by decide +kernel
theorem dL_soonest_16 : decode cL_soonest 16 = .ok (.ireturn, 1) := by decide +kernel
theorem dL_guess_0 : decode cL_guess 0 = .ok (.aload_n 2, 1) := by decide +kernel
theorem dL_guess_1 : decode cL_guess 1 = .ok (.iconst 0, 1) := by decide +kernel
theorem dL_guess_2 : decode cL_guess 2 = .ok (.aload_n 0, 1) := by decide +kernel
theorem dL_guess_3 : decode cL_guess 3 = .ok (.iload_n 1, 1) := by decide +kernel
theorem dL_guess_4 : decode cL_guess 4 = .ok (.invokevirtual 118, 3) := by decide +kernel
theorem dL_guess_7 : decode cL_guess 7 = .ok (.i2l, 1) := by decide +kernel
theorem dL_guess_8 : decode cL_guess 8 = .ok (.lastore, 1) := by decide +kernel
theorem dL_guess_9 : decode cL_guess 9 = .ok (.goto 6, 3) := by decide +kernel
theorem dL_guess_12 : decode cL_guess 12 = .ok (.astore_n 3, 1) := by decide +kernel
theorem dL_guess_13 : decode cL_guess 13 = .ok (.iconst 1, 1) := by decide +kernel
theorem dL_guess_14 : decode cL_guess 14 = .ok (.ireturn, 1) := by decide +kernel
theorem dL_guess_15 : decode cL_guess 15 = .ok (.iconst 0, 1) := by decide +kernel
theorem dL_guess_16 : decode cL_guess 16 = .ok (.ireturn, 1) := by decide +kernel
theorem dL_postage_0 : decode cL_postage 0 = .ok (.aload 4, 2) := by decide +kernel
theorem dL_postage_2 : decode cL_postage 2 = .ok (.iconst 0, 1) := by decide +kernel
theorem dL_postage_3 : decode cL_postage 3 = .ok (.aload_n 0, 1) := by decide +kernel
theorem dL_postage_4 : decode cL_postage 4 = .ok (.iload_n 1, 1) := by decide +kernel
theorem dL_postage_5 : decode cL_postage 5 = .ok (.iload_n 2, 1) := by decide +kernel
theorem dL_postage_6 : decode cL_postage 6 = .ok (.iload_n 3, 1) := by decide +kernel
theorem dL_postage_7 : decode cL_postage 7 = .ok (.invokevirtual 121, 3) := by decide +kernel
theorem dL_postage_10 : decode cL_postage 10 = .ok (.i2l, 1) := by decide +kernel
theorem dL_postage_11 : decode cL_postage 11 = .ok (.lastore, 1) := by decide +kernel
theorem dL_postage_12 : decode cL_postage 12 = .ok (.goto 11, 3) := by decide +kernel
theorem dL_postage_15 : decode cL_postage 15 = .ok (.astore 5, 2) := by decide +kernel
theorem dL_postage_17 : decode cL_postage 17 = .ok (.iconst 1, 1) := by decide +kernel
theorem dL_postage_18 : decode cL_postage 18 = .ok (.ireturn, 1) := by decide +kernel
theorem dL_postage_19 : decode cL_postage 19 = .ok (.astore 5, 2) := by decide +kernel
theorem dL_postage_21 : decode cL_postage 21 = .ok (.iconst 2, 1) := by decide +kernel
theorem dL_postage_22 : decode cL_postage 22 = .ok (.ireturn, 1) := by decide +kernel
theorem dL_postage_23 : decode cL_postage 23 = .ok (.iconst 0, 1) := by decide +kernel
theorem dL_postage_24 : decode cL_postage 24 = .ok (.ireturn, 1) := by decide +kernel
theorem dL_forks_0 : decode cL_forks 0 = .ok (.aload_n 3, 1) := by decide +kernel
theorem dL_forks_1 : decode cL_forks 1 = .ok (.iconst 0, 1) := by decide +kernel
theorem dL_forks_2 : decode cL_forks 2 = .ok (.aload_n 0, 1) := by decide +kernel
theorem dL_forks_3 : decode cL_forks 3 = .ok (.iload_n 1, 1) := by decide +kernel
theorem dL_forks_4 : decode cL_forks 4 = .ok (.iload_n 2, 1) := by decide +kernel
theorem dL_forks_5 : decode cL_forks 5 = .ok (.invokevirtual 124, 3) := by decide +kernel
theorem dL_forks_8 : decode cL_forks 8 = .ok (.i2l, 1) := by decide +kernel
theorem dL_forks_9 : decode cL_forks 9 = .ok (.lastore, 1) := by decide +kernel
theorem dL_forks_10 : decode cL_forks 10 = .ok (.goto 11, 3) := by decide +kernel
theorem dL_forks_13 : decode cL_forks 13 = .ok (.astore 4, 2) := by decide +kernel
theorem dL_forks_15 : decode cL_forks 15 = .ok (.iconst 1, 1) := by decide +kernel
theorem dL_forks_16 : decode cL_forks 16 = .ok (.ireturn, 1) := by decide +kernel
theorem dL_forks_17 : decode cL_forks 17 = .ok (.astore 4, 2) := by decide +kernel
theorem dL_forks_19 : decode cL_forks 19 = .ok (.iconst 2, 1) := by decide +kernel
theorem dL_forks_20 : decode cL_forks 20 = .ok (.ireturn, 1) := by decide +kernel
theorem dL_forks_21 : decode cL_forks 21 = .ok (.iconst 0, 1) := by decide +kernel
theorem dL_forks_22 : decode cL_forks 22 = .ok (.ireturn, 1) := by decide +kernel
theorem dL_ripe_0 : decode cL_ripe 0 = .ok (.aload_n 3, 1) := by decide +kernel
theorem dL_ripe_1 : decode cL_ripe 1 = .ok (.iconst 0, 1) := by decide +kernel
theorem dL_ripe_2 : decode cL_ripe 2 = .ok (.aload_n 0, 1) := by decide +kernel
theorem dL_ripe_3 : decode cL_ripe 3 = .ok (.iload_n 1, 1) := by decide +kernel
theorem dL_ripe_4 : decode cL_ripe 4 = .ok (.iload_n 2, 1) := by decide +kernel
theorem dL_ripe_5 : decode cL_ripe 5 = .ok (.invokevirtual 127, 3) := by decide +kernel
theorem dL_ripe_8 : decode cL_ripe 8 = .ok (.i2l, 1) := by decide +kernel
theorem dL_ripe_9 : decode cL_ripe 9 = .ok (.lastore, 1) := by decide +kernel
theorem dL_ripe_10 : decode cL_ripe 10 = .ok (.goto 7, 3) := by decide +kernel
theorem dL_ripe_13 : decode cL_ripe 13 = .ok (.astore 4, 2) := by decide +kernel
theorem dL_ripe_15 : decode cL_ripe 15 = .ok (.iconst 1, 1) := by decide +kernel
theorem dL_ripe_16 : decode cL_ripe 16 = .ok (.ireturn, 1) := by decide +kernel
theorem dL_ripe_17 : decode cL_ripe 17 = .ok (.iconst 0, 1) := by decide +kernel
theorem dL_ripe_18 : decode cL_ripe 18 = .ok (.ireturn, 1) := by decide +kernel
theorem dL_has_0 : decode cL_has 0 = .ok (.aload_n 2, 1) := by decide +kernel
theorem dL_has_1 : decode cL_has 1 = .ok (.iconst 0, 1) := by decide +kernel
theorem dL_has_2 : decode cL_has 2 = .ok (.aload_n 0, 1) := by decide +kernel
theorem dL_has_3 : decode cL_has 3 = .ok (.iload_n 1, 1) := by decide +kernel
theorem dL_has_4 : decode cL_has 4 = .ok (.invokevirtual 130, 3) := by decide +kernel
theorem dL_has_7 : decode cL_has 7 = .ok (.i2l, 1) := by decide +kernel
theorem dL_has_8 : decode cL_has 8 = .ok (.lastore, 1) := by decide +kernel
theorem dL_has_9 : decode cL_has 9 = .ok (.goto 6, 3) := by decide +kernel
theorem dL_has_12 : decode cL_has 12 = .ok (.astore_n 3, 1) := by decide +kernel
theorem dL_has_13 : decode cL_has 13 = .ok (.iconst 1, 1) := by decide +kernel
theorem dL_has_14 : decode cL_has 14 = .ok (.ireturn, 1) := by decide +kernel
theorem dL_has_15 : decode cL_has 15 = .ok (.iconst 0, 1) := by decide +kernel
theorem dL_has_16 : decode cL_has 16 = .ok (.ireturn, 1) := by decide +kernel
theorem dL_echo_0 : decode cL_echo 0 = .ok (.aload_n 2, 1) := by decide +kernel
theorem dL_echo_1 : decode cL_echo 1 = .ok (.iconst 0, 1) := by decide +kernel
theorem dL_echo_2 : decode cL_echo 2 = .ok (.aload_n 0, 1) := by decide +kernel
theorem dL_echo_3 : decode cL_echo 3 = .ok (.iload_n 1, 1) := by decide +kernel
theorem dL_echo_4 : decode cL_echo 4 = .ok (.invokevirtual 133, 3) := by decide +kernel
theorem dL_echo_7 : decode cL_echo 7 = .ok (.i2l, 1) := by decide +kernel
theorem dL_echo_8 : decode cL_echo 8 = .ok (.lastore, 1) := by decide +kernel
theorem dL_echo_9 : decode cL_echo 9 = .ok (.goto 6, 3) := by decide +kernel
theorem dL_echo_12 : decode cL_echo 12 = .ok (.astore_n 3, 1) := by decide +kernel
theorem dL_echo_13 : decode cL_echo 13 = .ok (.iconst 1, 1) := by decide +kernel
theorem dL_echo_14 : decode cL_echo 14 = .ok (.ireturn, 1) := by decide +kernel
theorem dL_echo_15 : decode cL_echo 15 = .ok (.iconst 0, 1) := by decide +kernel
theorem dL_echo_16 : decode cL_echo 16 = .ok (.ireturn, 1) := by decide +kernel
theorem dL_common_0 : decode cL_common 0 = .ok (.aload_n 3, 1) := by decide +kernel
theorem dL_common_1 : decode cL_common 1 = .ok (.iconst 0, 1) := by decide +kernel
theorem dL_common_2 : decode cL_common 2 = .ok (.aload_n 0, 1) := by decide +kernel
theorem dL_common_3 : decode cL_common 3 = .ok (.iload_n 1, 1) := by decide +kernel
theorem dL_common_4 : decode cL_common 4 = .ok (.iload_n 2, 1) := by decide +kernel
theorem dL_common_5 : decode cL_common 5 = .ok (.invokevirtual 136, 3) := by decide +kernel
theorem dL_common_8 : decode cL_common 8 = .ok (.i2l, 1) := by decide +kernel
theorem dL_common_9 : decode cL_common 9 = .ok (.lastore, 1) := by decide +kernel
theorem dL_common_10 : decode cL_common 10 = .ok (.goto 11, 3) := by decide +kernel
theorem dL_common_13 : decode cL_common 13 = .ok (.astore 4, 2) := by decide +kernel
theorem dL_common_15 : decode cL_common 15 = .ok (.iconst 1, 1) := by decide +kernel
theorem dL_common_16 : decode cL_common 16 = .ok (.ireturn, 1) := by decide +kernel
theorem dL_common_17 : decode cL_common 17 = .ok (.astore 4, 2) := by decide +kernel
theorem dL_common_19 : decode cL_common 19 = .ok (.iconst 2, 1) := by decide +kernel
theorem dL_common_20 : decode cL_common 20 = .ok (.ireturn, 1) := by decide +kernel
theorem dL_common_21 : decode cL_common 21 = .ok (.iconst 0, 1) := by decide +kernel
theorem dL_common_22 : decode cL_common 22 = .ok (.ireturn, 1) := by decide +kernel
theorem dL_author_0 : decode cL_author 0 = .ok (.aload_n 3, 1) := by decide +kernel
theorem dL_author_1 : decode cL_author 1 = .ok (.iconst 0, 1) := by decide +kernel
theorem dL_author_2 : decode cL_author 2 = .ok (.aload_n 0, 1) := by decide +kernel
theorem dL_author_3 : decode cL_author 3 = .ok (.iload_n 1, 1) := by decide +kernel
theorem dL_author_4 : decode cL_author 4 = .ok (.iload_n 2, 1) := by decide +kernel
theorem dL_author_5 : decode cL_author 5 = .ok (.invokevirtual 139, 3) := by decide +kernel
theorem dL_author_8 : decode cL_author 8 = .ok (.i2l, 1) := by decide +kernel
theorem dL_author_9 : decode cL_author 9 = .ok (.lastore, 1) := by decide +kernel
theorem dL_author_10 : decode cL_author 10 = .ok (.goto 7, 3) := by decide +kernel
theorem dL_author_13 : decode cL_author 13 = .ok (.astore 4, 2) := by decide +kernel
theorem dL_author_15 : decode cL_author 15 = .ok (.iconst 1, 1) := by decide +kernel
theorem dL_author_16 : decode cL_author 16 = .ok (.ireturn, 1) := by decide +kernel
theorem dL_author_17 : decode cL_author 17 = .ok (.iconst 0, 1) := by decide +kernel
theorem dL_author_18 : decode cL_author 18 = .ok (.ireturn, 1) := by decide +kernel
theorem dL_shelves_0 : decode cL_shelves 0 = .ok (.aload 4, 2) := by decide +kernel
theorem dL_shelves_2 : decode cL_shelves 2 = .ok (.iconst 0, 1) := by decide +kernel
theorem dL_shelves_3 : decode cL_shelves 3 = .ok (.aload_n 0, 1) := by decide +kernel
theorem dL_shelves_4 : decode cL_shelves 4 = .ok (.iload_n 1, 1) := by decide +kernel
theorem dL_shelves_5 : decode cL_shelves 5 = .ok (.iload_n 2, 1) := by decide +kernel
theorem dL_shelves_6 : decode cL_shelves 6 = .ok (.iload_n 3, 1) := by decide +kernel
theorem dL_shelves_7 : decode cL_shelves 7 = .ok (.invokevirtual 142, 3) := by decide +kernel
theorem dL_shelves_10 : decode cL_shelves 10 = .ok (.i2l, 1) := by decide +kernel
theorem dL_shelves_11 : decode cL_shelves 11 = .ok (.lastore, 1) := by decide +kernel
theorem dL_shelves_12 : decode cL_shelves 12 = .ok (.goto 7, 3) := by decide +kernel
theorem dL_shelves_15 : decode cL_shelves 15 = .ok (.astore 5, 2) := by decide +kernel
theorem dL_shelves_17 : decode cL_shelves 17 = .ok (.iconst 1, 1) := by decide +kernel
theorem dL_shelves_18 : decode cL_shelves 18 = .ok (.ireturn, 1) := by decide +kernel
theorem dL_shelves_19 : decode cL_shelves 19 = .ok (.iconst 0, 1) := by decide +kernel
theorem dL_shelves_20 : decode cL_shelves 20 = .ok (.ireturn, 1) := by decide +kernel
theorem dL_tempers_0 : decode cL_tempers 0 = .ok (.aload 4, 2) := by decide +kernel
theorem dL_tempers_2 : decode cL_tempers 2 = .ok (.iconst 0, 1) := by decide +kernel
theorem dL_tempers_3 : decode cL_tempers 3 = .ok (.aload_n 0, 1) := by decide +kernel
theorem dL_tempers_4 : decode cL_tempers 4 = .ok (.iload_n 1, 1) := by decide +kernel
theorem dL_tempers_5 : decode cL_tempers 5 = .ok (.iload_n 2, 1) := by decide +kernel
theorem dL_tempers_6 : decode cL_tempers 6 = .ok (.iload_n 3, 1) := by decide +kernel
theorem dL_tempers_7 : decode cL_tempers 7 = .ok (.invokevirtual 145, 3) := by decide +kernel
theorem dL_tempers_10 : decode cL_tempers 10 = .ok (.i2l, 1) := by decide +kernel
theorem dL_tempers_11 : decode cL_tempers 11 = .ok (.lastore, 1) := by decide +kernel
theorem dL_tempers_12 : decode cL_tempers 12 = .ok (.goto 11, 3) := by decide +kernel
theorem dL_tempers_15 : decode cL_tempers 15 = .ok (.astore 5, 2) := by decide +kernel
theorem dL_tempers_17 : decode cL_tempers 17 = .ok (.iconst 1, 1) := by decide +kernel
theorem dL_tempers_18 : decode cL_tempers 18 = .ok (.ireturn, 1) := by decide +kernel
theorem dL_tempers_19 : decode cL_tempers 19 = .ok (.astore 5, 2) := by decide +kernel
theorem dL_tempers_21 : decode cL_tempers 21 = .ok (.iconst 2, 1) := by decide +kernel
theorem dL_tempers_22 : decode cL_tempers 22 = .ok (.ireturn, 1) := by decide +kernel
theorem dL_tempers_23 : decode cL_tempers 23 = .ok (.iconst 0, 1) := by decide +kernel
theorem dL_tempers_24 : decode cL_tempers 24 = .ok (.ireturn, 1) := by decide +kernel
theorem dL_trial_0 : decode cL_trial 0 = .ok (.aload_n 3, 1) := by decide +kernel
theorem dL_trial_1 : decode cL_trial 1 = .ok (.iconst 0, 1) := by decide +kernel
theorem dL_trial_2 : decode cL_trial 2 = .ok (.aload_n 0, 1) := by decide +kernel
theorem dL_trial_3 : decode cL_trial 3 = .ok (.iload_n 1, 1) := by decide +kernel
theorem dL_trial_4 : decode cL_trial 4 = .ok (.iload_n 2, 1) := by decide +kernel
theorem dL_trial_5 : decode cL_trial 5 = .ok (.invokevirtual 148, 3) := by decide +kernel
theorem dL_trial_8 : decode cL_trial 8 = .ok (.i2l, 1) := by decide +kernel
theorem dL_trial_9 : decode cL_trial 9 = .ok (.lastore, 1) := by decide +kernel
theorem dL_trial_10 : decode cL_trial 10 = .ok (.goto 11, 3) := by decide +kernel
theorem dL_trial_13 : decode cL_trial 13 = .ok (.astore 4, 2) := by decide +kernel
theorem dL_trial_15 : decode cL_trial 15 = .ok (.iconst 1, 1) := by decide +kernel
theorem dL_trial_16 : decode cL_trial 16 = .ok (.ireturn, 1) := by decide +kernel
theorem dL_trial_17 : decode cL_trial 17 = .ok (.astore 4, 2) := by decide +kernel
theorem dL_trial_19 : decode cL_trial 19 = .ok (.iconst 2, 1) := by decide +kernel
theorem dL_trial_20 : decode cL_trial 20 = .ok (.ireturn, 1) := by decide +kernel
theorem dL_trial_21 : decode cL_trial 21 = .ok (.iconst 0, 1) := by decide +kernel
theorem dL_trial_22 : decode cL_trial 22 = .ok (.ireturn, 1) := by decide +kernel
theorem dL_span_0 : decode cL_span 0 = .ok (.aload_n 3, 1) := by decide +kernel
theorem dL_span_1 : decode cL_span 1 = .ok (.iconst 0, 1) := by decide +kernel
theorem dL_span_2 : decode cL_span 2 = .ok (.aload_n 0, 1) := by decide +kernel
theorem dL_span_3 : decode cL_span 3 = .ok (.iload_n 1, 1) := by decide +kernel
theorem dL_span_4 : decode cL_span 4 = .ok (.iload_n 2, 1) := by decide +kernel
theorem dL_span_5 : decode cL_span 5 = .ok (.invokevirtual 151, 3) := by decide +kernel
theorem dL_span_8 : decode cL_span 8 = .ok (.i2l, 1) := by decide +kernel
theorem dL_span_9 : decode cL_span 9 = .ok (.lastore, 1) := by decide +kernel
theorem dL_span_10 : decode cL_span 10 = .ok (.goto 7, 3) := by decide +kernel
theorem dL_span_13 : decode cL_span 13 = .ok (.astore 4, 2) := by decide +kernel
theorem dL_span_15 : decode cL_span 15 = .ok (.iconst 1, 1) := by decide +kernel
theorem dL_span_16 : decode cL_span 16 = .ok (.ireturn, 1) := by decide +kernel
theorem dL_span_17 : decode cL_span 17 = .ok (.iconst 0, 1) := by decide +kernel
theorem dL_span_18 : decode cL_span 18 = .ok (.ireturn, 1) := by decide +kernel
theorem dL_law__0 : decode cL_law_ 0 = .ok (.new 8, 3) := by decide +kernel
theorem dL_law__3 : decode cL_law_ 3 = .ok (.dup, 1) := by decide +kernel
theorem dL_law__4 : decode cL_law_ 4 = .ok (.invokespecial 154, 3) := by decide +kernel
theorem dL_law__7 : decode cL_law_ 7 = .ok (.astore_n 1, 1) := by decide +kernel
theorem dL_law__8 : decode cL_law_ 8 = .ok (.new 155, 3) := by decide +kernel
theorem dL_law__11 : decode cL_law_ 11 = .ok (.dup, 1) := by decide +kernel
theorem dL_law__12 : decode cL_law_ 12 = .ok (.invokespecial 157, 3) := by decide +kernel
theorem dL_law__15 : decode cL_law_ 15 = .ok (.astore_n 2, 1) := by decide +kernel
theorem dL_law__16 : decode cL_law_ 16 = .ok (.iconst 1, 1) := by decide +kernel
theorem dL_law__17 : decode cL_law_ 17 = .ok (.newarray .long, 2) := by decide +kernel
theorem dL_law__19 : decode cL_law_ 19 = .ok (.astore_n 3, 1) := by decide +kernel
theorem dL_law__20 : decode cL_law_ 20 = .ok (.iconst 0, 1) := by decide +kernel
theorem dL_law__21 : decode cL_law_ 21 = .ok (.istore 4, 2) := by decide +kernel
theorem dL_law__23 : decode cL_law_ 23 = .ok (.iload 4, 2) := by decide +kernel
theorem dL_law__25 : decode cL_law_ 25 = .ok (.aload_n 0, 1) := by decide +kernel
theorem dL_law__26 : decode cL_law_ 26 = .ok (.arraylength, 1) := by decide +kernel
theorem dL_law__27 : decode cL_law_ 27 = .ok (.bipush 6, 2) := by decide +kernel
theorem dL_law__29 : decode cL_law_ 29 = .ok (.isub, 1) := by decide +kernel
theorem dL_law__30 : decode cL_law_ 30 = .ok (.if_icmp .gt 3563, 3) := by decide +kernel
theorem dL_law__33 : decode cL_law_ 33 = .ok (.aload_n 0, 1) := by decide +kernel
theorem dL_law__34 : decode cL_law_ 34 = .ok (.iload 4, 2) := by decide +kernel
theorem dL_law__36 : decode cL_law_ 36 = .ok (.iaload, 1) := by decide +kernel
theorem dL_law__37 : decode cL_law_ 37 = .ok (.bipush 63, 2) := by decide +kernel
theorem dL_law__39 : decode cL_law_ 39 = .ok (.iand, 1) := by decide +kernel
theorem dL_law__40 : decode cL_law_ 40 = .ok (.tableswitch 3547 0 52 #[228, 301, 326, 370, 414, 427, 495, 591, 647, 731, 787, 855, 946, 1002, 1070, 1138, 1229, 1285, 1341, 1421, 1517, 1573, 1641, 1761, 1869, 1977, 2033, 2089, 2145, 2241, 2309, 2322, 2390, 2458, 2514, 2539, 2595, 2691, 2759, 2843, 2899, 2955, 3023, 3107, 3203, 3283, 3351, 3435, 3460, 3485, 3498, 3509, 3522], 228) := by decide +kernel
theorem dL_law__268 : decode cL_law_ 268 = .ok (.aload_n 1, 1) := by decide +kernel
theorem dL_law__269 : decode cL_law_ 269 = .ok (.aload_n 0, 1) := by decide +kernel
theorem dL_law__270 : decode cL_law_ 270 = .ok (.iload 4, 2) := by decide +kernel
theorem dL_law__272 : decode cL_law_ 272 = .ok (.iconst 1, 1) := by decide +kernel
theorem dL_law__273 : decode cL_law_ 273 = .ok (.iadd, 1) := by decide +kernel
theorem dL_law__274 : decode cL_law_ 274 = .ok (.iaload, 1) := by decide +kernel
theorem dL_law__275 : decode cL_law_ 275 = .ok (.aload_n 0, 1) := by decide +kernel
theorem dL_law__276 : decode cL_law_ 276 = .ok (.iload 4, 2) := by decide +kernel
theorem dL_law__278 : decode cL_law_ 278 = .ok (.iconst 2, 1) := by decide +kernel
theorem dL_law__279 : decode cL_law_ 279 = .ok (.iadd, 1) := by decide +kernel
theorem dL_law__280 : decode cL_law_ 280 = .ok (.iaload, 1) := by decide +kernel
theorem dL_law__281 : decode cL_law_ 281 = .ok (.aload_n 0, 1) := by decide +kernel
theorem dL_law__282 : decode cL_law_ 282 = .ok (.iload 4, 2) := by decide +kernel
theorem dL_law__284 : decode cL_law_ 284 = .ok (.iconst 3, 1) := by decide +kernel
theorem dL_law__285 : decode cL_law_ 285 = .ok (.iadd, 1) := by decide +kernel
theorem dL_law__286 : decode cL_law_ 286 = .ok (.iaload, 1) := by decide +kernel
theorem dL_law__287 : decode cL_law_ 287 = .ok (.aload_n 0, 1) := by decide +kernel
theorem dL_law__288 : decode cL_law_ 288 = .ok (.iload 4, 2) := by decide +kernel
theorem dL_law__290 : decode cL_law_ 290 = .ok (.iconst 4, 1) := by decide +kernel
theorem dL_law__291 : decode cL_law_ 291 = .ok (.iadd, 1) := by decide +kernel
theorem dL_law__292 : decode cL_law_ 292 = .ok (.iaload, 1) := by decide +kernel
theorem dL_law__293 : decode cL_law_ 293 = .ok (.aload_n 0, 1) := by decide +kernel
theorem dL_law__294 : decode cL_law_ 294 = .ok (.iload 4, 2) := by decide +kernel
theorem dL_law__296 : decode cL_law_ 296 = .ok (.iconst 5, 1) := by decide +kernel
theorem dL_law__297 : decode cL_law_ 297 = .ok (.iadd, 1) := by decide +kernel
theorem dL_law__298 : decode cL_law_ 298 = .ok (.iaload, 1) := by decide +kernel
theorem dL_law__299 : decode cL_law_ 299 = .ok (.invokevirtual 158, 3) := by decide +kernel
theorem dL_law__302 : decode cL_law_ 302 = .ok (.aload_n 2, 1) := by decide +kernel
theorem dL_law__303 : decode cL_law_ 303 = .ok (.aload_n 0, 1) := by decide +kernel
theorem dL_law__304 : decode cL_law_ 304 = .ok (.iload 4, 2) := by decide +kernel
theorem dL_law__306 : decode cL_law_ 306 = .ok (.iconst 1, 1) := by decide +kernel
theorem dL_law__307 : decode cL_law_ 307 = .ok (.iadd, 1) := by decide +kernel
theorem dL_law__308 : decode cL_law_ 308 = .ok (.iaload, 1) := by decide +kernel
theorem dL_law__309 : decode cL_law_ 309 = .ok (.aload_n 0, 1) := by decide +kernel
theorem dL_law__310 : decode cL_law_ 310 = .ok (.iload 4, 2) := by decide +kernel
theorem dL_law__312 : decode cL_law_ 312 = .ok (.iconst 2, 1) := by decide +kernel
theorem dL_law__313 : decode cL_law_ 313 = .ok (.iadd, 1) := by decide +kernel
theorem dL_law__314 : decode cL_law_ 314 = .ok (.iaload, 1) := by decide +kernel
theorem dL_law__315 : decode cL_law_ 315 = .ok (.aload_n 0, 1) := by decide +kernel
theorem dL_law__316 : decode cL_law_ 316 = .ok (.iload 4, 2) := by decide +kernel
theorem dL_law__318 : decode cL_law_ 318 = .ok (.iconst 3, 1) := by decide +kernel
theorem dL_law__319 : decode cL_law_ 319 = .ok (.iadd, 1) := by decide +kernel
theorem dL_law__320 : decode cL_law_ 320 = .ok (.iaload, 1) := by decide +kernel
theorem dL_law__321 : decode cL_law_ 321 = .ok (.aload_n 0, 1) := by decide +kernel
theorem dL_law__322 : decode cL_law_ 322 = .ok (.iload 4, 2) := by decide +kernel
theorem dL_law__324 : decode cL_law_ 324 = .ok (.iconst 4, 1) := by decide +kernel
theorem dL_law__325 : decode cL_law_ 325 = .ok (.iadd, 1) := by decide +kernel
theorem dL_law__326 : decode cL_law_ 326 = .ok (.iaload, 1) := by decide +kernel
theorem dL_law__327 : decode cL_law_ 327 = .ok (.aload_n 0, 1) := by decide +kernel
theorem dL_law__328 : decode cL_law_ 328 = .ok (.iload 4, 2) := by decide +kernel
theorem dL_law__330 : decode cL_law_ 330 = .ok (.iconst 5, 1) := by decide +kernel
theorem dL_law__331 : decode cL_law_ 331 = .ok (.iadd, 1) := by decide +kernel
theorem dL_law__332 : decode cL_law_ 332 = .ok (.iaload, 1) := by decide +kernel
theorem dL_law__333 : decode cL_law_ 333 = .ok (.invokevirtual 162, 3) := by decide +kernel
theorem dL_law__336 : decode cL_law_ 336 = .ok (.if_icmp .eq 3251, 3) := by decide +kernel
theorem dL_law__339 : decode cL_law_ 339 = .ok (.iconst 0, 1) := by decide +kernel
theorem dL_law__340 : decode cL_law_ 340 = .ok (.ireturn, 1) := by decide +kernel
theorem dL_law__341 : decode cL_law_ 341 = .ok (.aload_n 1, 1) := by decide +kernel
theorem dL_law__342 : decode cL_law_ 342 = .ok (.aload_n 0, 1) := by decide +kernel
theorem dL_law__343 : decode cL_law_ 343 = .ok (.iload 4, 2) := by decide +kernel
theorem dL_law__345 : decode cL_law_ 345 = .ok (.iconst 1, 1) := by decide +kernel
theorem dL_law__346 : decode cL_law_ 346 = .ok (.iadd, 1) := by decide +kernel
theorem dL_law__347 : decode cL_law_ 347 = .ok (.iaload, 1) := by decide +kernel
theorem dL_law__348 : decode cL_law_ 348 = .ok (.invokevirtual 163, 3) := by decide +kernel
theorem dL_law__351 : decode cL_law_ 351 = .ok (.aload_n 2, 1) := by decide +kernel
theorem dL_law__352 : decode cL_law_ 352 = .ok (.aload_n 0, 1) := by decide +kernel
theorem dL_law__353 : decode cL_law_ 353 = .ok (.iload 4, 2) := by decide +kernel
theorem dL_law__355 : decode cL_law_ 355 = .ok (.iconst 1, 1) := by decide +kernel
theorem dL_law__356 : decode cL_law_ 356 = .ok (.iadd, 1) := by decide +kernel
theorem dL_law__357 : decode cL_law_ 357 = .ok (.iaload, 1) := by decide +kernel
theorem dL_law__358 : decode cL_law_ 358 = .ok (.invokevirtual 167, 3) := by decide +kernel
theorem dL_law__361 : decode cL_law_ 361 = .ok (.if_icmp .eq 3226, 3) := by decide +kernel
theorem dL_law__364 : decode cL_law_ 364 = .ok (.iconst 0, 1) := by decide +kernel
theorem dL_law__365 : decode cL_law_ 365 = .ok (.ireturn, 1) := by decide +kernel
theorem dL_law__366 : decode cL_law_ 366 = .ok (.aload_n 1, 1) := by decide +kernel
theorem dL_law__367 : decode cL_law_ 367 = .ok (.aload_n 3, 1) := by decide +kernel
theorem dL_law__368 : decode cL_law_ 368 = .ok (.invokestatic 168, 3) := by decide +kernel
theorem dL_law__371 : decode cL_law_ 371 = .ok (.istore 5, 2) := by decide +kernel
theorem dL_law__373 : decode cL_law_ 373 = .ok (.aload_n 2, 1) := by decide +kernel
theorem dL_law__374 : decode cL_law_ 374 = .ok (.invokevirtual 173, 3) := by decide +kernel
theorem dL_law__377 : decode cL_law_ 377 = .ok (.istore 6, 2) := by decide +kernel
theorem dL_law__379 : decode cL_law_ 379 = .ok (.aload_n 2, 1) := by decide +kernel
theorem dL_law__380 : decode cL_law_ 380 = .ok (.invokevirtual 174, 3) := by decide +kernel
theorem dL_law__383 : decode cL_law_ 383 = .ok (.iload 5, 2) := by decide +kernel
theorem dL_law__385 : decode cL_law_ 385 = .ok (.if_icmp .eq 5, 3) := by decide +kernel
theorem dL_law__388 : decode cL_law_ 388 = .ok (.iconst 0, 1) := by decide +kernel
theorem dL_law__389 : decode cL_law_ 389 = .ok (.ireturn, 1) := by decide +kernel
theorem dL_law__390 : decode cL_law_ 390 = .ok (.iload 5, 2) := by decide +kernel
theorem dL_law__392 : decode cL_law_ 392 = .ok (.ifCond .ne 15, 3) := by decide +kernel
theorem dL_law__395 : decode cL_law_ 395 = .ok (.aload_n 3, 1) := by decide +kernel
theorem dL_law__396 : decode cL_law_ 396 = .ok (.iconst 0, 1) := by decide +kernel
theorem dL_law__397 : decode cL_law_ 397 = .ok (.laload, 1) := by decide +kernel
theorem dL_law__398 : decode cL_law_ 398 = .ok (.iload 6, 2) := by decide +kernel
theorem dL_law__400 : decode cL_law_ 400 = .ok (.i2l, 1) := by decide +kernel
theorem dL_law__401 : decode cL_law_ 401 = .ok (.lcmp, 1) := by decide +kernel
theorem dL_law__402 : decode cL_law_ 402 = .ok (.ifCond .eq 5, 3) := by decide +kernel
theorem dL_law__405 : decode cL_law_ 405 = .ok (.iconst 0, 1) := by decide +kernel
theorem dL_law__406 : decode cL_law_ 406 = .ok (.ireturn, 1) := by decide +kernel
theorem dL_law__407 : decode cL_law_ 407 = .ok (.goto 3180, 3) := by decide +kernel
theorem dL_law__410 : decode cL_law_ 410 = .ok (.aload_n 1, 1) := by decide +kernel
theorem dL_law__411 : decode cL_law_ 411 = .ok (.aload_n 3, 1) := by decide +kernel
theorem dL_law__412 : decode cL_law_ 412 = .ok (.invokestatic 177, 3) := by decide +kernel
theorem dL_law__415 : decode cL_law_ 415 = .ok (.istore 5, 2) := by decide +kernel
theorem dL_law__417 : decode cL_law_ 417 = .ok (.aload_n 2, 1) := by decide +kernel
theorem dL_law__418 : decode cL_law_ 418 = .ok (.invokevirtual 179, 3) := by decide +kernel
theorem dL_law__421 : decode cL_law_ 421 = .ok (.istore 6, 2) := by decide +kernel
theorem dL_law__423 : decode cL_law_ 423 = .ok (.aload_n 2, 1) := by decide +kernel
theorem dL_law__424 : decode cL_law_ 424 = .ok (.invokevirtual 174, 3) := by decide +kernel
theorem dL_law__427 : decode cL_law_ 427 = .ok (.iload 5, 2) := by decide +kernel
theorem dL_law__429 : decode cL_law_ 429 = .ok (.if_icmp .eq 5, 3) := by decide +kernel
theorem dL_law__432 : decode cL_law_ 432 = .ok (.iconst 0, 1) := by decide +kernel
theorem dL_law__433 : decode cL_law_ 433 = .ok (.ireturn, 1) := by decide +kernel
theorem dL_law__434 : decode cL_law_ 434 = .ok (.iload 5, 2) := by decide +kernel
theorem dL_law__436 : decode cL_law_ 436 = .ok (.ifCond .ne 15, 3) := by decide +kernel
theorem dL_law__439 : decode cL_law_ 439 = .ok (.aload_n 3, 1) := by decide +kernel
theorem dL_law__440 : decode cL_law_ 440 = .ok (.iconst 0, 1) := by decide +kernel
theorem dL_law__441 : decode cL_law_ 441 = .ok (.laload, 1) := by decide +kernel
theorem dL_law__442 : decode cL_law_ 442 = .ok (.iload 6, 2) := by decide +kernel
theorem dL_law__444 : decode cL_law_ 444 = .ok (.i2l, 1) := by decide +kernel
theorem dL_law__445 : decode cL_law_ 445 = .ok (.lcmp, 1) := by decide +kernel
theorem dL_law__446 : decode cL_law_ 446 = .ok (.ifCond .eq 5, 3) := by decide +kernel
theorem dL_law__449 : decode cL_law_ 449 = .ok (.iconst 0, 1) := by decide +kernel
theorem dL_law__450 : decode cL_law_ 450 = .ok (.ireturn, 1) := by decide +kernel
theorem dL_law__451 : decode cL_law_ 451 = .ok (.goto 3136, 3) := by decide +kernel
theorem dL_law__454 : decode cL_law_ 454 = .ok (.aload_n 1, 1) := by decide +kernel
theorem dL_law__455 : decode cL_law_ 455 = .ok (.invokevirtual 180, 3) := by decide +kernel
theorem dL_law__458 : decode cL_law_ 458 = .ok (.aload_n 2, 1) := by decide +kernel
theorem dL_law__459 : decode cL_law_ 459 = .ok (.invokevirtual 183, 3) := by decide +kernel
theorem dL_law__462 : decode cL_law_ 462 = .ok (.if_icmp .eq 3125, 3) := by decide +kernel
theorem dL_law__465 : decode cL_law_ 465 = .ok (.iconst 0, 1) := by decide +kernel
theorem dL_law__466 : decode cL_law_ 466 = .ok (.ireturn, 1) := by decide +kernel
theorem dL_law__467 : decode cL_law_ 467 = .ok (.aload_n 1, 1) := by decide +kernel
theorem dL_law__468 : decode cL_law_ 468 = .ok (.aload_n 0, 1) := by decide +kernel
theorem dL_law__469 : decode cL_law_ 469 = .ok (.iload 4, 2) := by decide +kernel
theorem dL_law__471 : decode cL_law_ 471 = .ok (.iconst 1, 1) := by decide +kernel
theorem dL_law__472 : decode cL_law_ 472 = .ok (.iadd, 1) := by decide +kernel
theorem dL_law__473 : decode cL_law_ 473 = .ok (.iaload, 1) := by decide +kernel
theorem dL_law__474 : decode cL_law_ 474 = .ok (.aload_n 0, 1) := by decide +kernel
theorem dL_law__475 : decode cL_law_ 475 = .ok (.iload 4, 2) := by decide +kernel
theorem dL_law__477 : decode cL_law_ 477 = .ok (.iconst 2, 1) := by decide +kernel
theorem dL_law__478 : decode cL_law_ 478 = .ok (.iadd, 1) := by decide +kernel
theorem dL_law__479 : decode cL_law_ 479 = .ok (.iaload, 1) := by decide +kernel
theorem dL_law__480 : decode cL_law_ 480 = .ok (.aload_n 3, 1) := by decide +kernel
theorem dL_law__481 : decode cL_law_ 481 = .ok (.invokestatic 184, 3) := by decide +kernel
theorem dL_law__484 : decode cL_law_ 484 = .ok (.istore 5, 2) := by decide +kernel
theorem dL_law__486 : decode cL_law_ 486 = .ok (.aload_n 2, 1) := by decide +kernel
theorem dL_law__487 : decode cL_law_ 487 = .ok (.aload_n 0, 1) := by decide +kernel
theorem dL_law__488 : decode cL_law_ 488 = .ok (.iload 4, 2) := by decide +kernel
theorem dL_law__490 : decode cL_law_ 490 = .ok (.iconst 1, 1) := by decide +kernel
theorem dL_law__491 : decode cL_law_ 491 = .ok (.iadd, 1) := by decide +kernel
theorem dL_law__492 : decode cL_law_ 492 = .ok (.iaload, 1) := by decide +kernel
theorem dL_law__493 : decode cL_law_ 493 = .ok (.aload_n 0, 1) := by decide +kernel
theorem dL_law__494 : decode cL_law_ 494 = .ok (.iload 4, 2) := by decide +kernel
theorem dL_law__496 : decode cL_law_ 496 = .ok (.iconst 2, 1) := by decide +kernel
theorem dL_law__497 : decode cL_law_ 497 = .ok (.iadd, 1) := by decide +kernel
theorem dL_law__498 : decode cL_law_ 498 = .ok (.iaload, 1) := by decide +kernel
theorem dL_law__499 : decode cL_law_ 499 = .ok (.invokevirtual 187, 3) := by decide +kernel
theorem dL_law__502 : decode cL_law_ 502 = .ok (.istore 6, 2) := by decide +kernel
theorem dL_law__504 : decode cL_law_ 504 = .ok (.aload_n 2, 1) := by decide +kernel
theorem dL_law__505 : decode cL_law_ 505 = .ok (.invokevirtual 174, 3) := by decide +kernel
theorem dL_law__508 : decode cL_law_ 508 = .ok (.iload 5, 2) := by decide +kernel
theorem dL_law__510 : decode cL_law_ 510 = .ok (.if_icmp .eq 5, 3) := by decide +kernel
theorem dL_law__513 : decode cL_law_ 513 = .ok (.iconst 0, 1) := by decide +kernel
theorem dL_law__514 : decode cL_law_ 514 = .ok (.ireturn, 1) := by decide +kernel
theorem dL_law__515 : decode cL_law_ 515 = .ok (.iload 5, 2) := by decide +kernel
theorem dL_law__517 : decode cL_law_ 517 = .ok (.ifCond .ne 15, 3) := by decide +kernel
theorem dL_law__520 : decode cL_law_ 520 = .ok (.aload_n 3, 1) := by decide +kernel
theorem dL_law__521 : decode cL_law_ 521 = .ok (.iconst 0, 1) := by decide +kernel
theorem dL_law__522 : decode cL_law_ 522 = .ok (.laload, 1) := by decide +kernel
theorem dL_law__523 : decode cL_law_ 523 = .ok (.iload 6, 2) := by decide +kernel
theorem dL_law__525 : decode cL_law_ 525 = .ok (.i2l, 1) := by decide +kernel
theorem dL_law__526 : decode cL_law_ 526 = .ok (.lcmp, 1) := by decide +kernel
theorem dL_law__527 : decode cL_law_ 527 = .ok (.ifCond .eq 5, 3) := by decide +kernel
theorem dL_law__530 : decode cL_law_ 530 = .ok (.iconst 0, 1) := by decide +kernel
theorem dL_law__531 : decode cL_law_ 531 = .ok (.ireturn, 1) := by decide +kernel
theorem dL_law__532 : decode cL_law_ 532 = .ok (.goto 3055, 3) := by decide +kernel
theorem dL_law__535 : decode cL_law_ 535 = .ok (.aload_n 1, 1) := by decide +kernel
theorem dL_law__536 : decode cL_law_ 536 = .ok (.aload_n 0, 1) := by decide +kernel
theorem dL_law__537 : decode cL_law_ 537 = .ok (.iload 4, 2) := by decide +kernel
theorem dL_law__539 : decode cL_law_ 539 = .ok (.iconst 1, 1) := by decide +kernel
theorem dL_law__540 : decode cL_law_ 540 = .ok (.iadd, 1) := by decide +kernel
theorem dL_law__541 : decode cL_law_ 541 = .ok (.iaload, 1) := by decide +kernel
theorem dL_law__542 : decode cL_law_ 542 = .ok (.aload_n 0, 1) := by decide +kernel
theorem dL_law__543 : decode cL_law_ 543 = .ok (.iload 4, 2) := by decide +kernel
theorem dL_law__545 : decode cL_law_ 545 = .ok (.iconst 2, 1) := by decide +kernel
theorem dL_law__546 : decode cL_law_ 546 = .ok (.iadd, 1) := by decide +kernel
theorem dL_law__547 : decode cL_law_ 547 = .ok (.iaload, 1) := by decide +kernel
theorem dL_law__548 : decode cL_law_ 548 = .ok (.aload_n 0, 1) := by decide +kernel
theorem dL_law__549 : decode cL_law_ 549 = .ok (.iload 4, 2) := by decide +kernel
theorem dL_law__551 : decode cL_law_ 551 = .ok (.iconst 3, 1) := by decide +kernel
theorem dL_law__552 : decode cL_law_ 552 = .ok (.iadd, 1) := by decide +kernel
theorem dL_law__553 : decode cL_law_ 553 = .ok (.iaload, 1) := by decide +kernel
theorem dL_law__554 : decode cL_law_ 554 = .ok (.ifCond .eq 7, 3) := by decide +kernel
theorem dL_law__557 : decode cL_law_ 557 = .ok (.iconst 1, 1) := by decide +kernel
theorem dL_law__558 : decode cL_law_ 558 = .ok (.goto 4, 3) := by decide +kernel
theorem dL_law__561 : decode cL_law_ 561 = .ok (.iconst 0, 1) := by decide +kernel
theorem dL_law__562 : decode cL_law_ 562 = .ok (.aload_n 3, 1) := by decide +kernel
theorem dL_law__563 : decode cL_law_ 563 = .ok (.invokestatic 188, 3) := by decide +kernel
theorem dL_law__566 : decode cL_law_ 566 = .ok (.istore 5, 2) := by decide +kernel
theorem dL_law__568 : decode cL_law_ 568 = .ok (.aload_n 2, 1) := by decide +kernel
theorem dL_law__569 : decode cL_law_ 569 = .ok (.aload_n 0, 1) := by decide +kernel
theorem dL_law__570 : decode cL_law_ 570 = .ok (.iload 4, 2) := by decide +kernel
theorem dL_law__572 : decode cL_law_ 572 = .ok (.iconst 1, 1) := by decide +kernel
theorem dL_law__573 : decode cL_law_ 573 = .ok (.iadd, 1) := by decide +kernel
theorem dL_law__574 : decode cL_law_ 574 = .ok (.iaload, 1) := by decide +kernel
theorem dL_law__575 : decode cL_law_ 575 = .ok (.aload_n 0, 1) := by decide +kernel
theorem dL_law__576 : decode cL_law_ 576 = .ok (.iload 4, 2) := by decide +kernel
theorem dL_law__578 : decode cL_law_ 578 = .ok (.iconst 2, 1) := by decide +kernel
theorem dL_law__579 : decode cL_law_ 579 = .ok (.iadd, 1) := by decide +kernel
theorem dL_law__580 : decode cL_law_ 580 = .ok (.iaload, 1) := by decide +kernel
theorem dL_law__581 : decode cL_law_ 581 = .ok (.aload_n 0, 1) := by decide +kernel
theorem dL_law__582 : decode cL_law_ 582 = .ok (.iload 4, 2) := by decide +kernel
theorem dL_law__584 : decode cL_law_ 584 = .ok (.iconst 3, 1) := by decide +kernel
theorem dL_law__585 : decode cL_law_ 585 = .ok (.iadd, 1) := by decide +kernel
theorem dL_law__586 : decode cL_law_ 586 = .ok (.iaload, 1) := by decide +kernel
theorem dL_law__587 : decode cL_law_ 587 = .ok (.ifCond .eq 7, 3) := by decide +kernel
theorem dL_law__590 : decode cL_law_ 590 = .ok (.iconst 1, 1) := by decide +kernel
theorem dL_law__591 : decode cL_law_ 591 = .ok (.goto 4, 3) := by decide +kernel
theorem dL_law__594 : decode cL_law_ 594 = .ok (.iconst 0, 1) := by decide +kernel
theorem dL_law__595 : decode cL_law_ 595 = .ok (.invokevirtual 191, 3) := by decide +kernel
theorem dL_law__598 : decode cL_law_ 598 = .ok (.istore 6, 2) := by decide +kernel
theorem dL_law__600 : decode cL_law_ 600 = .ok (.aload_n 2, 1) := by decide +kernel
theorem dL_law__601 : decode cL_law_ 601 = .ok (.invokevirtual 174, 3) := by decide +kernel
theorem dL_law__604 : decode cL_law_ 604 = .ok (.iload 5, 2) := by decide +kernel
theorem dL_law__606 : decode cL_law_ 606 = .ok (.if_icmp .eq 5, 3) := by decide +kernel
theorem dL_law__609 : decode cL_law_ 609 = .ok (.iconst 0, 1) := by decide +kernel
theorem dL_law__610 : decode cL_law_ 610 = .ok (.ireturn, 1) := by decide +kernel
theorem dL_law__611 : decode cL_law_ 611 = .ok (.iload 5, 2) := by decide +kernel
theorem dL_law__613 : decode cL_law_ 613 = .ok (.ifCond .ne 15, 3) := by decide +kernel
theorem dL_law__616 : decode cL_law_ 616 = .ok (.aload_n 3, 1) := by decide +kernel
theorem dL_law__617 : decode cL_law_ 617 = .ok (.iconst 0, 1) := by decide +kernel
theorem dL_law__618 : decode cL_law_ 618 = .ok (.laload, 1) := by decide +kernel
theorem dL_law__619 : decode cL_law_ 619 = .ok (.iload 6, 2) := by decide +kernel
theorem dL_law__621 : decode cL_law_ 621 = .ok (.i2l, 1) := by decide +kernel
theorem dL_law__622 : decode cL_law_ 622 = .ok (.lcmp, 1) := by decide +kernel
theorem dL_law__623 : decode cL_law_ 623 = .ok (.ifCond .eq 5, 3) := by decide +kernel
theorem dL_law__626 : decode cL_law_ 626 = .ok (.iconst 0, 1) := by decide +kernel
theorem dL_law__627 : decode cL_law_ 627 = .ok (.ireturn, 1) := by decide +kernel
theorem dL_law__628 : decode cL_law_ 628 = .ok (.goto 2959, 3) := by decide +kernel
theorem dL_law__631 : decode cL_law_ 631 = .ok (.aload_n 1, 1) := by decide +kernel
theorem dL_law__632 : decode cL_law_ 632 = .ok (.aload_n 0, 1) := by decide +kernel
theorem dL_law__633 : decode cL_law_ 633 = .ok (.iload 4, 2) := by decide +kernel
theorem dL_law__635 : decode cL_law_ 635 = .ok (.iconst 1, 1) := by decide +kernel
theorem dL_law__636 : decode cL_law_ 636 = .ok (.iadd, 1) := by decide +kernel
theorem dL_law__637 : decode cL_law_ 637 = .ok (.iaload, 1) := by decide +kernel
theorem dL_law__638 : decode cL_law_ 638 = .ok (.aload_n 3, 1) := by decide +kernel
theorem dL_law__639 : decode cL_law_ 639 = .ok (.invokestatic 192, 3) := by decide +kernel
theorem dL_law__642 : decode cL_law_ 642 = .ok (.istore 5, 2) := by decide +kernel
theorem dL_law__644 : decode cL_law_ 644 = .ok (.aload_n 2, 1) := by decide +kernel
theorem dL_law__645 : decode cL_law_ 645 = .ok (.aload_n 0, 1) := by decide +kernel
theorem dL_law__646 : decode cL_law_ 646 = .ok (.iload 4, 2) := by decide +kernel
theorem dL_law__648 : decode cL_law_ 648 = .ok (.iconst 1, 1) := by decide +kernel
theorem dL_law__649 : decode cL_law_ 649 = .ok (.iadd, 1) := by decide +kernel
theorem dL_law__650 : decode cL_law_ 650 = .ok (.iaload, 1) := by decide +kernel
theorem dL_law__651 : decode cL_law_ 651 = .ok (.invokevirtual 195, 3) := by decide +kernel
theorem dL_law__654 : decode cL_law_ 654 = .ok (.istore 6, 2) := by decide +kernel
theorem dL_law__656 : decode cL_law_ 656 = .ok (.aload_n 2, 1) := by decide +kernel
theorem dL_law__657 : decode cL_law_ 657 = .ok (.invokevirtual 174, 3) := by decide +kernel
theorem dL_law__660 : decode cL_law_ 660 = .ok (.iload 5, 2) := by decide +kernel
theorem dL_law__662 : decode cL_law_ 662 = .ok (.if_icmp .eq 5, 3) := by decide +kernel
theorem dL_law__665 : decode cL_law_ 665 = .ok (.iconst 0, 1) := by decide +kernel
theorem dL_law__666 : decode cL_law_ 666 = .ok (.ireturn, 1) := by decide +kernel
theorem dL_law__667 : decode cL_law_ 667 = .ok (.iload 5, 2) := by decide +kernel
theorem dL_law__669 : decode cL_law_ 669 = .ok (.ifCond .ne 15, 3) := by decide +kernel
theorem dL_law__672 : decode cL_law_ 672 = .ok (.aload_n 3, 1) := by decide +kernel
theorem dL_law__673 : decode cL_law_ 673 = .ok (.iconst 0, 1) := by decide +kernel
theorem dL_law__674 : decode cL_law_ 674 = .ok (.laload, 1) := by decide +kernel
theorem dL_law__675 : decode cL_law_ 675 = .ok (.iload 6, 2) := by decide +kernel
theorem dL_law__677 : decode cL_law_ 677 = .ok (.i2l, 1) := by decide +kernel
theorem dL_law__678 : decode cL_law_ 678 = .ok (.lcmp, 1) := by decide +kernel
theorem dL_law__679 : decode cL_law_ 679 = .ok (.ifCond .eq 5, 3) := by decide +kernel
theorem dL_law__682 : decode cL_law_ 682 = .ok (.iconst 0, 1) := by decide +kernel
theorem dL_law__683 : decode cL_law_ 683 = .ok (.ireturn, 1) := by decide +kernel
theorem dL_law__684 : decode cL_law_ 684 = .ok (.goto 2903, 3) := by decide +kernel
theorem dL_law__687 : decode cL_law_ 687 = .ok (.aload_n 1, 1) := by decide +kernel
theorem dL_law__688 : decode cL_law_ 688 = .ok (.aload_n 0, 1) := by decide +kernel
theorem dL_law__689 : decode cL_law_ 689 = .ok (.iload 4, 2) := by decide +kernel
theorem dL_law__691 : decode cL_law_ 691 = .ok (.iconst 1, 1) := by decide +kernel
theorem dL_law__692 : decode cL_law_ 692 = .ok (.iadd, 1) := by decide +kernel
theorem dL_law__693 : decode cL_law_ 693 = .ok (.iaload, 1) := by decide +kernel
theorem dL_law__694 : decode cL_law_ 694 = .ok (.aload_n 0, 1) := by decide +kernel
theorem dL_law__695 : decode cL_law_ 695 = .ok (.iload 4, 2) := by decide +kernel
theorem dL_law__697 : decode cL_law_ 697 = .ok (.iconst 2, 1) := by decide +kernel
theorem dL_law__698 : decode cL_law_ 698 = .ok (.iadd, 1) := by decide +kernel
theorem dL_law__699 : decode cL_law_ 699 = .ok (.iaload, 1) := by decide +kernel
theorem dL_law__700 : decode cL_law_ 700 = .ok (.ifCond .eq 7, 3) := by decide +kernel
theorem dL_law__703 : decode cL_law_ 703 = .ok (.iconst 1, 1) := by decide +kernel
theorem dL_law__704 : decode cL_law_ 704 = .ok (.goto 4, 3) := by decide +kernel
theorem dL_law__707 : decode cL_law_ 707 = .ok (.iconst 0, 1) := by decide +kernel
theorem dL_law__708 : decode cL_law_ 708 = .ok (.aload_n 3, 1) := by decide +kernel
theorem dL_law__709 : decode cL_law_ 709 = .ok (.invokestatic 196, 3) := by decide +kernel
theorem dL_law__712 : decode cL_law_ 712 = .ok (.istore 5, 2) := by decide +kernel
theorem dL_law__714 : decode cL_law_ 714 = .ok (.aload_n 2, 1) := by decide +kernel
theorem dL_law__715 : decode cL_law_ 715 = .ok (.aload_n 0, 1) := by decide +kernel
theorem dL_law__716 : decode cL_law_ 716 = .ok (.iload 4, 2) := by decide +kernel
theorem dL_law__718 : decode cL_law_ 718 = .ok (.iconst 1, 1) := by decide +kernel
theorem dL_law__719 : decode cL_law_ 719 = .ok (.iadd, 1) := by decide +kernel
theorem dL_law__720 : decode cL_law_ 720 = .ok (.iaload, 1) := by decide +kernel
theorem dL_law__721 : decode cL_law_ 721 = .ok (.aload_n 0, 1) := by decide +kernel
theorem dL_law__722 : decode cL_law_ 722 = .ok (.iload 4, 2) := by decide +kernel
theorem dL_law__724 : decode cL_law_ 724 = .ok (.iconst 2, 1) := by decide +kernel
theorem dL_law__725 : decode cL_law_ 725 = .ok (.iadd, 1) := by decide +kernel
theorem dL_law__726 : decode cL_law_ 726 = .ok (.iaload, 1) := by decide +kernel
theorem dL_law__727 : decode cL_law_ 727 = .ok (.ifCond .eq 7, 3) := by decide +kernel
theorem dL_law__730 : decode cL_law_ 730 = .ok (.iconst 1, 1) := by decide +kernel
theorem dL_law__731 : decode cL_law_ 731 = .ok (.goto 4, 3) := by decide +kernel
theorem dL_law__734 : decode cL_law_ 734 = .ok (.iconst 0, 1) := by decide +kernel
theorem dL_law__735 : decode cL_law_ 735 = .ok (.invokevirtual 199, 3) := by decide +kernel
theorem dL_law__738 : decode cL_law_ 738 = .ok (.istore 6, 2) := by decide +kernel
theorem dL_law__740 : decode cL_law_ 740 = .ok (.aload_n 2, 1) := by decide +kernel
theorem dL_law__741 : decode cL_law_ 741 = .ok (.invokevirtual 174, 3) := by decide +kernel
theorem dL_law__744 : decode cL_law_ 744 = .ok (.iload 5, 2) := by decide +kernel
theorem dL_law__746 : decode cL_law_ 746 = .ok (.if_icmp .eq 5, 3) := by decide +kernel
theorem dL_law__749 : decode cL_law_ 749 = .ok (.iconst 0, 1) := by decide +kernel
theorem dL_law__750 : decode cL_law_ 750 = .ok (.ireturn, 1) := by decide +kernel
theorem dL_law__751 : decode cL_law_ 751 = .ok (.iload 5, 2) := by decide +kernel
theorem dL_law__753 : decode cL_law_ 753 = .ok (.ifCond .ne 15, 3) := by decide +kernel
theorem dL_law__756 : decode cL_law_ 756 = .ok (.aload_n 3, 1) := by decide +kernel
theorem dL_law__757 : decode cL_law_ 757 = .ok (.iconst 0, 1) := by decide +kernel
theorem dL_law__758 : decode cL_law_ 758 = .ok (.laload, 1) := by decide +kernel
theorem dL_law__759 : decode cL_law_ 759 = .ok (.iload 6, 2) := by decide +kernel
theorem dL_law__761 : decode cL_law_ 761 = .ok (.i2l, 1) := by decide +kernel
theorem dL_law__762 : decode cL_law_ 762 = .ok (.lcmp, 1) := by decide +kernel
theorem dL_law__763 : decode cL_law_ 763 = .ok (.ifCond .eq 5, 3) := by decide +kernel
theorem dL_law__766 : decode cL_law_ 766 = .ok (.iconst 0, 1) := by decide +kernel
theorem dL_law__767 : decode cL_law_ 767 = .ok (.ireturn, 1) := by decide +kernel
theorem dL_law__768 : decode cL_law_ 768 = .ok (.goto 2819, 3) := by decide +kernel
theorem dL_law__771 : decode cL_law_ 771 = .ok (.aload_n 1, 1) := by decide +kernel
theorem dL_law__772 : decode cL_law_ 772 = .ok (.aload_n 0, 1) := by decide +kernel
theorem dL_law__773 : decode cL_law_ 773 = .ok (.iload 4, 2) := by decide +kernel
theorem dL_law__775 : decode cL_law_ 775 = .ok (.iconst 1, 1) := by decide +kernel
theorem dL_law__776 : decode cL_law_ 776 = .ok (.iadd, 1) := by decide +kernel
theorem dL_law__777 : decode cL_law_ 777 = .ok (.iaload, 1) := by decide +kernel
theorem dL_law__778 : decode cL_law_ 778 = .ok (.aload_n 3, 1) := by decide +kernel
theorem dL_law__779 : decode cL_law_ 779 = .ok (.invokestatic 200, 3) := by decide +kernel
theorem dL_law__782 : decode cL_law_ 782 = .ok (.istore 5, 2) := by decide +kernel
theorem dL_law__784 : decode cL_law_ 784 = .ok (.aload_n 2, 1) := by decide +kernel
theorem dL_law__785 : decode cL_law_ 785 = .ok (.aload_n 0, 1) := by decide +kernel
theorem dL_law__786 : decode cL_law_ 786 = .ok (.iload 4, 2) := by decide +kernel
theorem dL_law__788 : decode cL_law_ 788 = .ok (.iconst 1, 1) := by decide +kernel
theorem dL_law__789 : decode cL_law_ 789 = .ok (.iadd, 1) := by decide +kernel
theorem dL_law__790 : decode cL_law_ 790 = .ok (.iaload, 1) := by decide +kernel
theorem dL_law__791 : decode cL_law_ 791 = .ok (.invokevirtual 202, 3) := by decide +kernel
theorem dL_law__794 : decode cL_law_ 794 = .ok (.istore 6, 2) := by decide +kernel
theorem dL_law__796 : decode cL_law_ 796 = .ok (.aload_n 2, 1) := by decide +kernel
theorem dL_law__797 : decode cL_law_ 797 = .ok (.invokevirtual 174, 3) := by decide +kernel
theorem dL_law__800 : decode cL_law_ 800 = .ok (.iload 5, 2) := by decide +kernel
theorem dL_law__802 : decode cL_law_ 802 = .ok (.if_icmp .eq 5, 3) := by decide +kernel
theorem dL_law__805 : decode cL_law_ 805 = .ok (.iconst 0, 1) := by decide +kernel
theorem dL_law__806 : decode cL_law_ 806 = .ok (.ireturn, 1) := by decide +kernel
theorem dL_law__807 : decode cL_law_ 807 = .ok (.iload 5, 2) := by decide +kernel
theorem dL_law__809 : decode cL_law_ 809 = .ok (.ifCond .ne 15, 3) := by decide +kernel
theorem dL_law__812 : decode cL_law_ 812 = .ok (.aload_n 3, 1) := by decide +kernel
theorem dL_law__813 : decode cL_law_ 813 = .ok (.iconst 0, 1) := by decide +kernel
theorem dL_law__814 : decode cL_law_ 814 = .ok (.laload, 1) := by decide +kernel
theorem dL_law__815 : decode cL_law_ 815 = .ok (.iload 6, 2) := by decide +kernel
theorem dL_law__817 : decode cL_law_ 817 = .ok (.i2l, 1) := by decide +kernel
theorem dL_law__818 : decode cL_law_ 818 = .ok (.lcmp, 1) := by decide +kernel
theorem dL_law__819 : decode cL_law_ 819 = .ok (.ifCond .eq 5, 3) := by decide +kernel
theorem dL_law__822 : decode cL_law_ 822 = .ok (.iconst 0, 1) := by decide +kernel
theorem dL_law__823 : decode cL_law_ 823 = .ok (.ireturn, 1) := by decide +kernel
theorem dL_law__824 : decode cL_law_ 824 = .ok (.goto 2763, 3) := by decide +kernel
theorem dL_law__827 : decode cL_law_ 827 = .ok (.aload_n 1, 1) := by decide +kernel
theorem dL_law__828 : decode cL_law_ 828 = .ok (.aload_n 0, 1) := by decide +kernel
theorem dL_law__829 : decode cL_law_ 829 = .ok (.iload 4, 2) := by decide +kernel
theorem dL_law__831 : decode cL_law_ 831 = .ok (.iconst 1, 1) := by decide +kernel
theorem dL_law__832 : decode cL_law_ 832 = .ok (.iadd, 1) := by decide +kernel
theorem dL_law__833 : decode cL_law_ 833 = .ok (.iaload, 1) := by decide +kernel
theorem dL_law__834 : decode cL_law_ 834 = .ok (.aload_n 0, 1) := by decide +kernel
theorem dL_law__835 : decode cL_law_ 835 = .ok (.iload 4, 2) := by decide +kernel
theorem dL_law__837 : decode cL_law_ 837 = .ok (.iconst 2, 1) := by decide +kernel
theorem dL_law__838 : decode cL_law_ 838 = .ok (.iadd, 1) := by decide +kernel
theorem dL_law__839 : decode cL_law_ 839 = .ok (.iaload, 1) := by decide +kernel
theorem dL_law__840 : decode cL_law_ 840 = .ok (.aload_n 3, 1) := by decide +kernel
theorem dL_law__841 : decode cL_law_ 841 = .ok (.invokestatic 203, 3) := by decide +kernel
theorem dL_law__844 : decode cL_law_ 844 = .ok (.istore 5, 2) := by decide +kernel
theorem dL_law__846 : decode cL_law_ 846 = .ok (.aload_n 2, 1) := by decide +kernel
theorem dL_law__847 : decode cL_law_ 847 = .ok (.aload_n 0, 1) := by decide +kernel
theorem dL_law__848 : decode cL_law_ 848 = .ok (.iload 4, 2) := by decide +kernel
theorem dL_law__850 : decode cL_law_ 850 = .ok (.iconst 1, 1) := by decide +kernel
theorem dL_law__851 : decode cL_law_ 851 = .ok (.iadd, 1) := by decide +kernel
theorem dL_law__852 : decode cL_law_ 852 = .ok (.iaload, 1) := by decide +kernel
theorem dL_law__853 : decode cL_law_ 853 = .ok (.aload_n 0, 1) := by decide +kernel
theorem dL_law__854 : decode cL_law_ 854 = .ok (.iload 4, 2) := by decide +kernel
theorem dL_law__856 : decode cL_law_ 856 = .ok (.iconst 2, 1) := by decide +kernel
theorem dL_law__857 : decode cL_law_ 857 = .ok (.iadd, 1) := by decide +kernel
theorem dL_law__858 : decode cL_law_ 858 = .ok (.iaload, 1) := by decide +kernel
theorem dL_law__859 : decode cL_law_ 859 = .ok (.invokevirtual 205, 3) := by decide +kernel
theorem dL_law__862 : decode cL_law_ 862 = .ok (.istore 6, 2) := by decide +kernel
theorem dL_law__864 : decode cL_law_ 864 = .ok (.aload_n 2, 1) := by decide +kernel
theorem dL_law__865 : decode cL_law_ 865 = .ok (.invokevirtual 174, 3) := by decide +kernel
theorem dL_law__868 : decode cL_law_ 868 = .ok (.iload 5, 2) := by decide +kernel
theorem dL_law__870 : decode cL_law_ 870 = .ok (.if_icmp .eq 5, 3) := by decide +kernel
theorem dL_law__873 : decode cL_law_ 873 = .ok (.iconst 0, 1) := by decide +kernel
theorem dL_law__874 : decode cL_law_ 874 = .ok (.ireturn, 1) := by decide +kernel
theorem dL_law__875 : decode cL_law_ 875 = .ok (.iload 5, 2) := by decide +kernel
theorem dL_law__877 : decode cL_law_ 877 = .ok (.ifCond .ne 15, 3) := by decide +kernel
theorem dL_law__880 : decode cL_law_ 880 = .ok (.aload_n 3, 1) := by decide +kernel
theorem dL_law__881 : decode cL_law_ 881 = .ok (.iconst 0, 1) := by decide +kernel
theorem dL_law__882 : decode cL_law_ 882 = .ok (.laload, 1) := by decide +kernel
theorem dL_law__883 : decode cL_law_ 883 = .ok (.iload 6, 2) := by decide +kernel
theorem dL_law__885 : decode cL_law_ 885 = .ok (.i2l, 1) := by decide +kernel
theorem dL_law__886 : decode cL_law_ 886 = .ok (.lcmp, 1) := by decide +kernel
theorem dL_law__887 : decode cL_law_ 887 = .ok (.ifCond .eq 5, 3) := by decide +kernel
theorem dL_law__890 : decode cL_law_ 890 = .ok (.iconst 0, 1) := by decide +kernel
theorem dL_law__891 : decode cL_law_ 891 = .ok (.ireturn, 1) := by decide +kernel
theorem dL_law__892 : decode cL_law_ 892 = .ok (.goto 2695, 3) := by decide +kernel
theorem dL_law__895 : decode cL_law_ 895 = .ok (.aload_n 1, 1) := by decide +kernel
theorem dL_law__896 : decode cL_law_ 896 = .ok (.aload_n 0, 1) := by decide +kernel
theorem dL_law__897 : decode cL_law_ 897 = .ok (.iload 4, 2) := by decide +kernel
theorem dL_law__899 : decode cL_law_ 899 = .ok (.iconst 1, 1) := by decide +kernel
theorem dL_law__900 : decode cL_law_ 900 = .ok (.iadd, 1) := by decide +kernel
theorem dL_law__901 : decode cL_law_ 901 = .ok (.iaload, 1) := by decide +kernel
theorem dL_law__902 : decode cL_law_ 902 = .ok (.aload_n 0, 1) := by decide +kernel
theorem dL_law__903 : decode cL_law_ 903 = .ok (.iload 4, 2) := by decide +kernel
theorem dL_law__905 : decode cL_law_ 905 = .ok (.iconst 2, 1) := by decide +kernel
theorem dL_law__906 : decode cL_law_ 906 = .ok (.iadd, 1) := by decide +kernel
theorem dL_law__907 : decode cL_law_ 907 = .ok (.iaload, 1) := by decide +kernel
theorem dL_law__908 : decode cL_law_ 908 = .ok (.ifCond .eq 7, 3) := by decide +kernel
theorem dL_law__911 : decode cL_law_ 911 = .ok (.iconst 1, 1) := by decide +kernel
theorem dL_law__912 : decode cL_law_ 912 = .ok (.goto 4, 3) := by decide +kernel
theorem dL_law__915 : decode cL_law_ 915 = .ok (.iconst 0, 1) := by decide +kernel
theorem dL_law__916 : decode cL_law_ 916 = .ok (.aload_n 3, 1) := by decide +kernel
theorem dL_law__917 : decode cL_law_ 917 = .ok (.invokestatic 206, 3) := by decide +kernel
theorem dL_law__920 : decode cL_law_ 920 = .ok (.istore 5, 2) := by decide +kernel
theorem dL_law__922 : decode cL_law_ 922 = .ok (.aload_n 2, 1) := by decide +kernel
theorem dL_law__923 : decode cL_law_ 923 = .ok (.aload_n 0, 1) := by decide +kernel
theorem dL_law__924 : decode cL_law_ 924 = .ok (.iload 4, 2) := by decide +kernel
theorem dL_law__926 : decode cL_law_ 926 = .ok (.iconst 1, 1) := by decide +kernel
theorem dL_law__927 : decode cL_law_ 927 = .ok (.iadd, 1) := by decide +kernel
theorem dL_law__928 : decode cL_law_ 928 = .ok (.iaload, 1) := by decide +kernel
theorem dL_law__929 : decode cL_law_ 929 = .ok (.aload_n 0, 1) := by decide +kernel
theorem dL_law__930 : decode cL_law_ 930 = .ok (.iload 4, 2) := by decide +kernel
theorem dL_law__932 : decode cL_law_ 932 = .ok (.iconst 2, 1) := by decide +kernel
theorem dL_law__933 : decode cL_law_ 933 = .ok (.iadd, 1) := by decide +kernel
theorem dL_law__934 : decode cL_law_ 934 = .ok (.iaload, 1) := by decide +kernel
theorem dL_law__935 : decode cL_law_ 935 = .ok (.ifCond .eq 7, 3) := by decide +kernel
theorem dL_law__938 : decode cL_law_ 938 = .ok (.iconst 1, 1) := by decide +kernel
theorem dL_law__939 : decode cL_law_ 939 = .ok (.goto 4, 3) := by decide +kernel
theorem dL_law__942 : decode cL_law_ 942 = .ok (.iconst 0, 1) := by decide +kernel
theorem dL_law__943 : decode cL_law_ 943 = .ok (.invokevirtual 208, 3) := by decide +kernel
theorem dL_law__946 : decode cL_law_ 946 = .ok (.istore 6, 2) := by decide +kernel
theorem dL_law__948 : decode cL_law_ 948 = .ok (.aload_n 2, 1) := by decide +kernel
theorem dL_law__949 : decode cL_law_ 949 = .ok (.invokevirtual 174, 3) := by decide +kernel
theorem dL_law__952 : decode cL_law_ 952 = .ok (.iload 5, 2) := by decide +kernel
theorem dL_law__954 : decode cL_law_ 954 = .ok (.if_icmp .eq 5, 3) := by decide +kernel
theorem dL_law__957 : decode cL_law_ 957 = .ok (.iconst 0, 1) := by decide +kernel
theorem dL_law__958 : decode cL_law_ 958 = .ok (.ireturn, 1) := by decide +kernel
theorem dL_law__959 : decode cL_law_ 959 = .ok (.iload 5, 2) := by decide +kernel
theorem dL_law__961 : decode cL_law_ 961 = .ok (.ifCond .ne 22, 3) := by decide +kernel
theorem dL_law__964 : decode cL_law_ 964 = .ok (.aload_n 3, 1) := by decide +kernel
theorem dL_law__965 : decode cL_law_ 965 = .ok (.iconst 0, 1) := by decide +kernel
theorem dL_law__966 : decode cL_law_ 966 = .ok (.laload, 1) := by decide +kernel
theorem dL_law__967 : decode cL_law_ 967 = .ok (.iload 6, 2) := by decide +kernel
theorem dL_law__969 : decode cL_law_ 969 = .ok (.ifCond .eq 7, 3) := by decide +kernel
theorem dL_law__972 : decode cL_law_ 972 = .ok (.lconst 1, 1) := by decide +kernel
theorem dL_law__973 : decode cL_law_ 973 = .ok (.goto 4, 3) := by decide +kernel
theorem dL_law__976 : decode cL_law_ 976 = .ok (.lconst 0, 1) := by decide +kernel
theorem dL_law__977 : decode cL_law_ 977 = .ok (.lcmp, 1) := by decide +kernel
theorem dL_law__978 : decode cL_law_ 978 = .ok (.ifCond .eq 5, 3) := by decide +kernel
theorem dL_law__981 : decode cL_law_ 981 = .ok (.iconst 0, 1) := by decide +kernel
theorem dL_law__982 : decode cL_law_ 982 = .ok (.ireturn, 1) := by decide +kernel
theorem dL_law__983 : decode cL_law_ 983 = .ok (.goto 2604, 3) := by decide +kernel
theorem dL_law__986 : decode cL_law_ 986 = .ok (.aload_n 1, 1) := by decide +kernel
theorem dL_law__987 : decode cL_law_ 987 = .ok (.aload_n 0, 1) := by decide +kernel
theorem dL_law__988 : decode cL_law_ 988 = .ok (.iload 4, 2) := by decide +kernel
theorem dL_law__990 : decode cL_law_ 990 = .ok (.iconst 1, 1) := by decide +kernel
theorem dL_law__991 : decode cL_law_ 991 = .ok (.iadd, 1) := by decide +kernel
theorem dL_law__992 : decode cL_law_ 992 = .ok (.iaload, 1) := by decide +kernel
theorem dL_law__993 : decode cL_law_ 993 = .ok (.aload_n 3, 1) := by decide +kernel
theorem dL_law__994 : decode cL_law_ 994 = .ok (.invokestatic 209, 3) := by decide +kernel
theorem dL_law__997 : decode cL_law_ 997 = .ok (.istore 5, 2) := by decide +kernel
theorem dL_law__999 : decode cL_law_ 999 = .ok (.aload_n 2, 1) := by decide +kernel
theorem dL_law__1000 : decode cL_law_ 1000 = .ok (.aload_n 0, 1) := by decide +kernel
theorem dL_law__1001 : decode cL_law_ 1001 = .ok (.iload 4, 2) := by decide +kernel
theorem dL_law__1003 : decode cL_law_ 1003 = .ok (.iconst 1, 1) := by decide +kernel
theorem dL_law__1004 : decode cL_law_ 1004 = .ok (.iadd, 1) := by decide +kernel
theorem dL_law__1005 : decode cL_law_ 1005 = .ok (.iaload, 1) := by decide +kernel
theorem dL_law__1006 : decode cL_law_ 1006 = .ok (.invokevirtual 211, 3) := by decide +kernel
theorem dL_law__1009 : decode cL_law_ 1009 = .ok (.istore 6, 2) := by decide +kernel
theorem dL_law__1011 : decode cL_law_ 1011 = .ok (.aload_n 2, 1) := by decide +kernel
theorem dL_law__1012 : decode cL_law_ 1012 = .ok (.invokevirtual 174, 3) := by decide +kernel
theorem dL_law__1015 : decode cL_law_ 1015 = .ok (.iload 5, 2) := by decide +kernel
theorem dL_law__1017 : decode cL_law_ 1017 = .ok (.if_icmp .eq 5, 3) := by decide +kernel
theorem dL_law__1020 : decode cL_law_ 1020 = .ok (.iconst 0, 1) := by decide +kernel
theorem dL_law__1021 : decode cL_law_ 1021 = .ok (.ireturn, 1) := by decide +kernel
theorem dL_law__1022 : decode cL_law_ 1022 = .ok (.iload 5, 2) := by decide +kernel
theorem dL_law__1024 : decode cL_law_ 1024 = .ok (.ifCond .ne 15, 3) := by decide +kernel
theorem dL_law__1027 : decode cL_law_ 1027 = .ok (.aload_n 3, 1) := by decide +kernel
theorem dL_law__1028 : decode cL_law_ 1028 = .ok (.iconst 0, 1) := by decide +kernel
theorem dL_law__1029 : decode cL_law_ 1029 = .ok (.laload, 1) := by decide +kernel
theorem dL_law__1030 : decode cL_law_ 1030 = .ok (.iload 6, 2) := by decide +kernel
theorem dL_law__1032 : decode cL_law_ 1032 = .ok (.i2l, 1) := by decide +kernel
theorem dL_law__1033 : decode cL_law_ 1033 = .ok (.lcmp, 1) := by decide +kernel
theorem dL_law__1034 : decode cL_law_ 1034 = .ok (.ifCond .eq 5, 3) := by decide +kernel
theorem dL_law__1037 : decode cL_law_ 1037 = .ok (.iconst 0, 1) := by decide +kernel
theorem dL_law__1038 : decode cL_law_ 1038 = .ok (.ireturn, 1) := by decide +kernel
theorem dL_law__1039 : decode cL_law_ 1039 = .ok (.goto 2548, 3) := by decide +kernel
theorem dL_law__1042 : decode cL_law_ 1042 = .ok (.aload_n 1, 1) := by decide +kernel
theorem dL_law__1043 : decode cL_law_ 1043 = .ok (.aload_n 0, 1) := by decide +kernel
theorem dL_law__1044 : decode cL_law_ 1044 = .ok (.iload 4, 2) := by decide +kernel
theorem dL_law__1046 : decode cL_law_ 1046 = .ok (.iconst 1, 1) := by decide +kernel
theorem dL_law__1047 : decode cL_law_ 1047 = .ok (.iadd, 1) := by decide +kernel
theorem dL_law__1048 : decode cL_law_ 1048 = .ok (.iaload, 1) := by decide +kernel
theorem dL_law__1049 : decode cL_law_ 1049 = .ok (.aload_n 0, 1) := by decide +kernel
theorem dL_law__1050 : decode cL_law_ 1050 = .ok (.iload 4, 2) := by decide +kernel
theorem dL_law__1052 : decode cL_law_ 1052 = .ok (.iconst 2, 1) := by decide +kernel
theorem dL_law__1053 : decode cL_law_ 1053 = .ok (.iadd, 1) := by decide +kernel
theorem dL_law__1054 : decode cL_law_ 1054 = .ok (.iaload, 1) := by decide +kernel
theorem dL_law__1055 : decode cL_law_ 1055 = .ok (.aload_n 3, 1) := by decide +kernel
theorem dL_law__1056 : decode cL_law_ 1056 = .ok (.invokestatic 212, 3) := by decide +kernel
theorem dL_law__1059 : decode cL_law_ 1059 = .ok (.istore 5, 2) := by decide +kernel
theorem dL_law__1061 : decode cL_law_ 1061 = .ok (.aload_n 2, 1) := by decide +kernel
theorem dL_law__1062 : decode cL_law_ 1062 = .ok (.aload_n 0, 1) := by decide +kernel
theorem dL_law__1063 : decode cL_law_ 1063 = .ok (.iload 4, 2) := by decide +kernel
theorem dL_law__1065 : decode cL_law_ 1065 = .ok (.iconst 1, 1) := by decide +kernel
theorem dL_law__1066 : decode cL_law_ 1066 = .ok (.iadd, 1) := by decide +kernel
theorem dL_law__1067 : decode cL_law_ 1067 = .ok (.iaload, 1) := by decide +kernel
theorem dL_law__1068 : decode cL_law_ 1068 = .ok (.aload_n 0, 1) := by decide +kernel
theorem dL_law__1069 : decode cL_law_ 1069 = .ok (.iload 4, 2) := by decide +kernel
theorem dL_law__1071 : decode cL_law_ 1071 = .ok (.iconst 2, 1) := by decide +kernel
theorem dL_law__1072 : decode cL_law_ 1072 = .ok (.iadd, 1) := by decide +kernel
theorem dL_law__1073 : decode cL_law_ 1073 = .ok (.iaload, 1) := by decide +kernel
theorem dL_law__1074 : decode cL_law_ 1074 = .ok (.invokevirtual 214, 3) := by decide +kernel
theorem dL_law__1077 : decode cL_law_ 1077 = .ok (.istore 6, 2) := by decide +kernel
theorem dL_law__1079 : decode cL_law_ 1079 = .ok (.aload_n 2, 1) := by decide +kernel
theorem dL_law__1080 : decode cL_law_ 1080 = .ok (.invokevirtual 174, 3) := by decide +kernel
theorem dL_law__1083 : decode cL_law_ 1083 = .ok (.iload 5, 2) := by decide +kernel
theorem dL_law__1085 : decode cL_law_ 1085 = .ok (.if_icmp .eq 5, 3) := by decide +kernel
theorem dL_law__1088 : decode cL_law_ 1088 = .ok (.iconst 0, 1) := by decide +kernel
theorem dL_law__1089 : decode cL_law_ 1089 = .ok (.ireturn, 1) := by decide +kernel
theorem dL_law__1090 : decode cL_law_ 1090 = .ok (.iload 5, 2) := by decide +kernel
theorem dL_law__1092 : decode cL_law_ 1092 = .ok (.ifCond .ne 15, 3) := by decide +kernel
theorem dL_law__1095 : decode cL_law_ 1095 = .ok (.aload_n 3, 1) := by decide +kernel
theorem dL_law__1096 : decode cL_law_ 1096 = .ok (.iconst 0, 1) := by decide +kernel
theorem dL_law__1097 : decode cL_law_ 1097 = .ok (.laload, 1) := by decide +kernel
theorem dL_law__1098 : decode cL_law_ 1098 = .ok (.iload 6, 2) := by decide +kernel
theorem dL_law__1100 : decode cL_law_ 1100 = .ok (.i2l, 1) := by decide +kernel
theorem dL_law__1101 : decode cL_law_ 1101 = .ok (.lcmp, 1) := by decide +kernel
theorem dL_law__1102 : decode cL_law_ 1102 = .ok (.ifCond .eq 5, 3) := by decide +kernel
theorem dL_law__1105 : decode cL_law_ 1105 = .ok (.iconst 0, 1) := by decide +kernel
theorem dL_law__1106 : decode cL_law_ 1106 = .ok (.ireturn, 1) := by decide +kernel
theorem dL_law__1107 : decode cL_law_ 1107 = .ok (.goto 2480, 3) := by decide +kernel
theorem dL_law__1110 : decode cL_law_ 1110 = .ok (.aload_n 1, 1) := by decide +kernel
theorem dL_law__1111 : decode cL_law_ 1111 = .ok (.aload_n 0, 1) := by decide +kernel
theorem dL_law__1112 : decode cL_law_ 1112 = .ok (.iload 4, 2) := by decide +kernel
theorem dL_law__1114 : decode cL_law_ 1114 = .ok (.iconst 1, 1) := by decide +kernel
theorem dL_law__1115 : decode cL_law_ 1115 = .ok (.iadd, 1) := by decide +kernel
theorem dL_law__1116 : decode cL_law_ 1116 = .ok (.iaload, 1) := by decide +kernel
theorem dL_law__1117 : decode cL_law_ 1117 = .ok (.aload_n 0, 1) := by decide +kernel
theorem dL_law__1118 : decode cL_law_ 1118 = .ok (.iload 4, 2) := by decide +kernel
theorem dL_law__1120 : decode cL_law_ 1120 = .ok (.iconst 2, 1) := by decide +kernel
theorem dL_law__1121 : decode cL_law_ 1121 = .ok (.iadd, 1) := by decide +kernel
theorem dL_law__1122 : decode cL_law_ 1122 = .ok (.iaload, 1) := by decide +kernel
theorem dL_law__1123 : decode cL_law_ 1123 = .ok (.aload_n 3, 1) := by decide +kernel
theorem dL_law__1124 : decode cL_law_ 1124 = .ok (.invokestatic 215, 3) := by decide +kernel
theorem dL_law__1127 : decode cL_law_ 1127 = .ok (.istore 5, 2) := by decide +kernel
theorem dL_law__1129 : decode cL_law_ 1129 = .ok (.aload_n 2, 1) := by decide +kernel
theorem dL_law__1130 : decode cL_law_ 1130 = .ok (.aload_n 0, 1) := by decide +kernel
theorem dL_law__1131 : decode cL_law_ 1131 = .ok (.iload 4, 2) := by decide +kernel
theorem dL_law__1133 : decode cL_law_ 1133 = .ok (.iconst 1, 1) := by decide +kernel
theorem dL_law__1134 : decode cL_law_ 1134 = .ok (.iadd, 1) := by decide +kernel
theorem dL_law__1135 : decode cL_law_ 1135 = .ok (.iaload, 1) := by decide +kernel
theorem dL_law__1136 : decode cL_law_ 1136 = .ok (.aload_n 0, 1) := by decide +kernel
theorem dL_law__1137 : decode cL_law_ 1137 = .ok (.iload 4, 2) := by decide +kernel
theorem dL_law__1139 : decode cL_law_ 1139 = .ok (.iconst 2, 1) := by decide +kernel
theorem dL_law__1140 : decode cL_law_ 1140 = .ok (.iadd, 1) := by decide +kernel
theorem dL_law__1141 : decode cL_law_ 1141 = .ok (.iaload, 1) := by decide +kernel
theorem dL_law__1142 : decode cL_law_ 1142 = .ok (.invokevirtual 217, 3) := by decide +kernel
theorem dL_law__1145 : decode cL_law_ 1145 = .ok (.istore 6, 2) := by decide +kernel
theorem dL_law__1147 : decode cL_law_ 1147 = .ok (.aload_n 2, 1) := by decide +kernel
theorem dL_law__1148 : decode cL_law_ 1148 = .ok (.invokevirtual 174, 3) := by decide +kernel
theorem dL_law__1151 : decode cL_law_ 1151 = .ok (.iload 5, 2) := by decide +kernel
theorem dL_law__1153 : decode cL_law_ 1153 = .ok (.if_icmp .eq 5, 3) := by decide +kernel
theorem dL_law__1156 : decode cL_law_ 1156 = .ok (.iconst 0, 1) := by decide +kernel
theorem dL_law__1157 : decode cL_law_ 1157 = .ok (.ireturn, 1) := by decide +kernel
theorem dL_law__1158 : decode cL_law_ 1158 = .ok (.iload 5, 2) := by decide +kernel
theorem dL_law__1160 : decode cL_law_ 1160 = .ok (.ifCond .ne 15, 3) := by decide +kernel
theorem dL_law__1163 : decode cL_law_ 1163 = .ok (.aload_n 3, 1) := by decide +kernel
theorem dL_law__1164 : decode cL_law_ 1164 = .ok (.iconst 0, 1) := by decide +kernel
theorem dL_law__1165 : decode cL_law_ 1165 = .ok (.laload, 1) := by decide +kernel
theorem dL_law__1166 : decode cL_law_ 1166 = .ok (.iload 6, 2) := by decide +kernel
theorem dL_law__1168 : decode cL_law_ 1168 = .ok (.i2l, 1) := by decide +kernel
theorem dL_law__1169 : decode cL_law_ 1169 = .ok (.lcmp, 1) := by decide +kernel
theorem dL_law__1170 : decode cL_law_ 1170 = .ok (.ifCond .eq 5, 3) := by decide +kernel
theorem dL_law__1173 : decode cL_law_ 1173 = .ok (.iconst 0, 1) := by decide +kernel
theorem dL_law__1174 : decode cL_law_ 1174 = .ok (.ireturn, 1) := by decide +kernel
theorem dL_law__1175 : decode cL_law_ 1175 = .ok (.goto 2412, 3) := by decide +kernel
theorem dL_law__1178 : decode cL_law_ 1178 = .ok (.aload_n 1, 1) := by decide +kernel
theorem dL_law__1179 : decode cL_law_ 1179 = .ok (.aload_n 0, 1) := by decide +kernel
theorem dL_law__1180 : decode cL_law_ 1180 = .ok (.iload 4, 2) := by decide +kernel
theorem dL_law__1182 : decode cL_law_ 1182 = .ok (.iconst 1, 1) := by decide +kernel
theorem dL_law__1183 : decode cL_law_ 1183 = .ok (.iadd, 1) := by decide +kernel
theorem dL_law__1184 : decode cL_law_ 1184 = .ok (.iaload, 1) := by decide +kernel
theorem dL_law__1185 : decode cL_law_ 1185 = .ok (.aload_n 0, 1) := by decide +kernel
theorem dL_law__1186 : decode cL_law_ 1186 = .ok (.iload 4, 2) := by decide +kernel
theorem dL_law__1188 : decode cL_law_ 1188 = .ok (.iconst 2, 1) := by decide +kernel
theorem dL_law__1189 : decode cL_law_ 1189 = .ok (.iadd, 1) := by decide +kernel
theorem dL_law__1190 : decode cL_law_ 1190 = .ok (.iaload, 1) := by decide +kernel
theorem dL_law__1191 : decode cL_law_ 1191 = .ok (.ifCond .eq 7, 3) := by decide +kernel
theorem dL_law__1194 : decode cL_law_ 1194 = .ok (.iconst 1, 1) := by decide +kernel
theorem dL_law__1195 : decode cL_law_ 1195 = .ok (.goto 4, 3) := by decide +kernel
theorem dL_law__1198 : decode cL_law_ 1198 = .ok (.iconst 0, 1) := by decide +kernel
theorem dL_law__1199 : decode cL_law_ 1199 = .ok (.aload_n 3, 1) := by decide +kernel
theorem dL_law__1200 : decode cL_law_ 1200 = .ok (.invokestatic 218, 3) := by decide +kernel
theorem dL_law__1203 : decode cL_law_ 1203 = .ok (.istore 5, 2) := by decide +kernel
theorem dL_law__1205 : decode cL_law_ 1205 = .ok (.aload_n 2, 1) := by decide +kernel
theorem dL_law__1206 : decode cL_law_ 1206 = .ok (.aload_n 0, 1) := by decide +kernel
theorem dL_law__1207 : decode cL_law_ 1207 = .ok (.iload 4, 2) := by decide +kernel
theorem dL_law__1209 : decode cL_law_ 1209 = .ok (.iconst 1, 1) := by decide +kernel
theorem dL_law__1210 : decode cL_law_ 1210 = .ok (.iadd, 1) := by decide +kernel
theorem dL_law__1211 : decode cL_law_ 1211 = .ok (.iaload, 1) := by decide +kernel
theorem dL_law__1212 : decode cL_law_ 1212 = .ok (.aload_n 0, 1) := by decide +kernel
theorem dL_law__1213 : decode cL_law_ 1213 = .ok (.iload 4, 2) := by decide +kernel
theorem dL_law__1215 : decode cL_law_ 1215 = .ok (.iconst 2, 1) := by decide +kernel
theorem dL_law__1216 : decode cL_law_ 1216 = .ok (.iadd, 1) := by decide +kernel
theorem dL_law__1217 : decode cL_law_ 1217 = .ok (.iaload, 1) := by decide +kernel
theorem dL_law__1218 : decode cL_law_ 1218 = .ok (.ifCond .eq 7, 3) := by decide +kernel
theorem dL_law__1221 : decode cL_law_ 1221 = .ok (.iconst 1, 1) := by decide +kernel
theorem dL_law__1222 : decode cL_law_ 1222 = .ok (.goto 4, 3) := by decide +kernel
theorem dL_law__1225 : decode cL_law_ 1225 = .ok (.iconst 0, 1) := by decide +kernel
theorem dL_law__1226 : decode cL_law_ 1226 = .ok (.invokevirtual 220, 3) := by decide +kernel
theorem dL_law__1229 : decode cL_law_ 1229 = .ok (.istore 6, 2) := by decide +kernel
theorem dL_law__1231 : decode cL_law_ 1231 = .ok (.aload_n 2, 1) := by decide +kernel
theorem dL_law__1232 : decode cL_law_ 1232 = .ok (.invokevirtual 174, 3) := by decide +kernel
theorem dL_law__1235 : decode cL_law_ 1235 = .ok (.iload 5, 2) := by decide +kernel
theorem dL_law__1237 : decode cL_law_ 1237 = .ok (.if_icmp .eq 5, 3) := by decide +kernel
theorem dL_law__1240 : decode cL_law_ 1240 = .ok (.iconst 0, 1) := by decide +kernel
theorem dL_law__1241 : decode cL_law_ 1241 = .ok (.ireturn, 1) := by decide +kernel
theorem dL_law__1242 : decode cL_law_ 1242 = .ok (.iload 5, 2) := by decide +kernel
theorem dL_law__1244 : decode cL_law_ 1244 = .ok (.ifCond .ne 22, 3) := by decide +kernel
theorem dL_law__1247 : decode cL_law_ 1247 = .ok (.aload_n 3, 1) := by decide +kernel
theorem dL_law__1248 : decode cL_law_ 1248 = .ok (.iconst 0, 1) := by decide +kernel
theorem dL_law__1249 : decode cL_law_ 1249 = .ok (.laload, 1) := by decide +kernel
theorem dL_law__1250 : decode cL_law_ 1250 = .ok (.iload 6, 2) := by decide +kernel
theorem dL_law__1252 : decode cL_law_ 1252 = .ok (.ifCond .eq 7, 3) := by decide +kernel
theorem dL_law__1255 : decode cL_law_ 1255 = .ok (.lconst 1, 1) := by decide +kernel
theorem dL_law__1256 : decode cL_law_ 1256 = .ok (.goto 4, 3) := by decide +kernel
theorem dL_law__1259 : decode cL_law_ 1259 = .ok (.lconst 0, 1) := by decide +kernel
theorem dL_law__1260 : decode cL_law_ 1260 = .ok (.lcmp, 1) := by decide +kernel
theorem dL_law__1261 : decode cL_law_ 1261 = .ok (.ifCond .eq 5, 3) := by decide +kernel
theorem dL_law__1264 : decode cL_law_ 1264 = .ok (.iconst 0, 1) := by decide +kernel
theorem dL_law__1265 : decode cL_law_ 1265 = .ok (.ireturn, 1) := by decide +kernel
theorem dL_law__1266 : decode cL_law_ 1266 = .ok (.goto 2321, 3) := by decide +kernel
theorem dL_law__1269 : decode cL_law_ 1269 = .ok (.aload_n 1, 1) := by decide +kernel
theorem dL_law__1270 : decode cL_law_ 1270 = .ok (.aload_n 0, 1) := by decide +kernel
theorem dL_law__1271 : decode cL_law_ 1271 = .ok (.iload 4, 2) := by decide +kernel
theorem dL_law__1273 : decode cL_law_ 1273 = .ok (.iconst 1, 1) := by decide +kernel
theorem dL_law__1274 : decode cL_law_ 1274 = .ok (.iadd, 1) := by decide +kernel
theorem dL_law__1275 : decode cL_law_ 1275 = .ok (.iaload, 1) := by decide +kernel
theorem dL_law__1276 : decode cL_law_ 1276 = .ok (.aload_n 3, 1) := by decide +kernel
theorem dL_law__1277 : decode cL_law_ 1277 = .ok (.invokestatic 221, 3) := by decide +kernel
theorem dL_law__1280 : decode cL_law_ 1280 = .ok (.istore 5, 2) := by decide +kernel
theorem dL_law__1282 : decode cL_law_ 1282 = .ok (.aload_n 2, 1) := by decide +kernel
theorem dL_law__1283 : decode cL_law_ 1283 = .ok (.aload_n 0, 1) := by decide +kernel
theorem dL_law__1284 : decode cL_law_ 1284 = .ok (.iload 4, 2) := by decide +kernel
theorem dL_law__1286 : decode cL_law_ 1286 = .ok (.iconst 1, 1) := by decide +kernel
theorem dL_law__1287 : decode cL_law_ 1287 = .ok (.iadd, 1) := by decide +kernel
theorem dL_law__1288 : decode cL_law_ 1288 = .ok (.iaload, 1) := by decide +kernel
theorem dL_law__1289 : decode cL_law_ 1289 = .ok (.invokevirtual 223, 3) := by decide +kernel
theorem dL_law__1292 : decode cL_law_ 1292 = .ok (.istore 6, 2) := by decide +kernel
theorem dL_law__1294 : decode cL_law_ 1294 = .ok (.aload_n 2, 1) := by decide +kernel
theorem dL_law__1295 : decode cL_law_ 1295 = .ok (.invokevirtual 174, 3) := by decide +kernel
theorem dL_law__1298 : decode cL_law_ 1298 = .ok (.iload 5, 2) := by decide +kernel
theorem dL_law__1300 : decode cL_law_ 1300 = .ok (.if_icmp .eq 5, 3) := by decide +kernel
theorem dL_law__1303 : decode cL_law_ 1303 = .ok (.iconst 0, 1) := by decide +kernel
theorem dL_law__1304 : decode cL_law_ 1304 = .ok (.ireturn, 1) := by decide +kernel
theorem dL_law__1305 : decode cL_law_ 1305 = .ok (.iload 5, 2) := by decide +kernel
theorem dL_law__1307 : decode cL_law_ 1307 = .ok (.ifCond .ne 15, 3) := by decide +kernel
theorem dL_law__1310 : decode cL_law_ 1310 = .ok (.aload_n 3, 1) := by decide +kernel
theorem dL_law__1311 : decode cL_law_ 1311 = .ok (.iconst 0, 1) := by decide +kernel
theorem dL_law__1312 : decode cL_law_ 1312 = .ok (.laload, 1) := by decide +kernel
theorem dL_law__1313 : decode cL_law_ 1313 = .ok (.iload 6, 2) := by decide +kernel
theorem dL_law__1315 : decode cL_law_ 1315 = .ok (.i2l, 1) := by decide +kernel
theorem dL_law__1316 : decode cL_law_ 1316 = .ok (.lcmp, 1) := by decide +kernel
theorem dL_law__1317 : decode cL_law_ 1317 = .ok (.ifCond .eq 5, 3) := by decide +kernel
theorem dL_law__1320 : decode cL_law_ 1320 = .ok (.iconst 0, 1) := by decide +kernel
theorem dL_law__1321 : decode cL_law_ 1321 = .ok (.ireturn, 1) := by decide +kernel
theorem dL_law__1322 : decode cL_law_ 1322 = .ok (.goto 2265, 3) := by decide +kernel
theorem dL_law__1325 : decode cL_law_ 1325 = .ok (.aload_n 1, 1) := by decide +kernel
theorem dL_law__1326 : decode cL_law_ 1326 = .ok (.aload_n 0, 1) := by decide +kernel
theorem dL_law__1327 : decode cL_law_ 1327 = .ok (.iload 4, 2) := by decide +kernel
theorem dL_law__1329 : decode cL_law_ 1329 = .ok (.iconst 1, 1) := by decide +kernel
theorem dL_law__1330 : decode cL_law_ 1330 = .ok (.iadd, 1) := by decide +kernel
theorem dL_law__1331 : decode cL_law_ 1331 = .ok (.iaload, 1) := by decide +kernel
theorem dL_law__1332 : decode cL_law_ 1332 = .ok (.aload_n 3, 1) := by decide +kernel
theorem dL_law__1333 : decode cL_law_ 1333 = .ok (.invokestatic 224, 3) := by decide +kernel
theorem dL_law__1336 : decode cL_law_ 1336 = .ok (.istore 5, 2) := by decide +kernel
theorem dL_law__1338 : decode cL_law_ 1338 = .ok (.aload_n 2, 1) := by decide +kernel
theorem dL_law__1339 : decode cL_law_ 1339 = .ok (.aload_n 0, 1) := by decide +kernel
theorem dL_law__1340 : decode cL_law_ 1340 = .ok (.iload 4, 2) := by decide +kernel
theorem dL_law__1342 : decode cL_law_ 1342 = .ok (.iconst 1, 1) := by decide +kernel
theorem dL_law__1343 : decode cL_law_ 1343 = .ok (.iadd, 1) := by decide +kernel
theorem dL_law__1344 : decode cL_law_ 1344 = .ok (.iaload, 1) := by decide +kernel
theorem dL_law__1345 : decode cL_law_ 1345 = .ok (.invokevirtual 226, 3) := by decide +kernel
theorem dL_law__1348 : decode cL_law_ 1348 = .ok (.istore 6, 2) := by decide +kernel
theorem dL_law__1350 : decode cL_law_ 1350 = .ok (.aload_n 2, 1) := by decide +kernel
theorem dL_law__1351 : decode cL_law_ 1351 = .ok (.invokevirtual 174, 3) := by decide +kernel
theorem dL_law__1354 : decode cL_law_ 1354 = .ok (.iload 5, 2) := by decide +kernel
theorem dL_law__1356 : decode cL_law_ 1356 = .ok (.if_icmp .eq 5, 3) := by decide +kernel
theorem dL_law__1359 : decode cL_law_ 1359 = .ok (.iconst 0, 1) := by decide +kernel
theorem dL_law__1360 : decode cL_law_ 1360 = .ok (.ireturn, 1) := by decide +kernel
theorem dL_law__1361 : decode cL_law_ 1361 = .ok (.iload 5, 2) := by decide +kernel
theorem dL_law__1363 : decode cL_law_ 1363 = .ok (.ifCond .ne 15, 3) := by decide +kernel
theorem dL_law__1366 : decode cL_law_ 1366 = .ok (.aload_n 3, 1) := by decide +kernel
theorem dL_law__1367 : decode cL_law_ 1367 = .ok (.iconst 0, 1) := by decide +kernel
theorem dL_law__1368 : decode cL_law_ 1368 = .ok (.laload, 1) := by decide +kernel
theorem dL_law__1369 : decode cL_law_ 1369 = .ok (.iload 6, 2) := by decide +kernel
theorem dL_law__1371 : decode cL_law_ 1371 = .ok (.i2l, 1) := by decide +kernel
theorem dL_law__1372 : decode cL_law_ 1372 = .ok (.lcmp, 1) := by decide +kernel
theorem dL_law__1373 : decode cL_law_ 1373 = .ok (.ifCond .eq 5, 3) := by decide +kernel
theorem dL_law__1376 : decode cL_law_ 1376 = .ok (.iconst 0, 1) := by decide +kernel
theorem dL_law__1377 : decode cL_law_ 1377 = .ok (.ireturn, 1) := by decide +kernel
theorem dL_law__1378 : decode cL_law_ 1378 = .ok (.goto 2209, 3) := by decide +kernel
theorem dL_law__1381 : decode cL_law_ 1381 = .ok (.aload_n 1, 1) := by decide +kernel
theorem dL_law__1382 : decode cL_law_ 1382 = .ok (.aload_n 0, 1) := by decide +kernel
theorem dL_law__1383 : decode cL_law_ 1383 = .ok (.iload 4, 2) := by decide +kernel
theorem dL_law__1385 : decode cL_law_ 1385 = .ok (.iconst 1, 1) := by decide +kernel
theorem dL_law__1386 : decode cL_law_ 1386 = .ok (.iadd, 1) := by decide +kernel
theorem dL_law__1387 : decode cL_law_ 1387 = .ok (.iaload, 1) := by decide +kernel
theorem dL_law__1388 : decode cL_law_ 1388 = .ok (.aload_n 0, 1) := by decide +kernel
theorem dL_law__1389 : decode cL_law_ 1389 = .ok (.iload 4, 2) := by decide +kernel
theorem dL_law__1391 : decode cL_law_ 1391 = .ok (.iconst 2, 1) := by decide +kernel
theorem dL_law__1392 : decode cL_law_ 1392 = .ok (.iadd, 1) := by decide +kernel
theorem dL_law__1393 : decode cL_law_ 1393 = .ok (.iaload, 1) := by decide +kernel
theorem dL_law__1394 : decode cL_law_ 1394 = .ok (.aload_n 0, 1) := by decide +kernel
theorem dL_law__1395 : decode cL_law_ 1395 = .ok (.iload 4, 2) := by decide +kernel
theorem dL_law__1397 : decode cL_law_ 1397 = .ok (.iconst 3, 1) := by decide +kernel
theorem dL_law__1398 : decode cL_law_ 1398 = .ok (.iadd, 1) := by decide +kernel
theorem dL_law__1399 : decode cL_law_ 1399 = .ok (.iaload, 1) := by decide +kernel
theorem dL_law__1400 : decode cL_law_ 1400 = .ok (.aload_n 3, 1) := by decide +kernel
theorem dL_law__1401 : decode cL_law_ 1401 = .ok (.invokestatic 227, 3) := by decide +kernel
theorem dL_law__1404 : decode cL_law_ 1404 = .ok (.istore 5, 2) := by decide +kernel
theorem dL_law__1406 : decode cL_law_ 1406 = .ok (.aload_n 2, 1) := by decide +kernel
theorem dL_law__1407 : decode cL_law_ 1407 = .ok (.aload_n 0, 1) := by decide +kernel
theorem dL_law__1408 : decode cL_law_ 1408 = .ok (.iload 4, 2) := by decide +kernel
theorem dL_law__1410 : decode cL_law_ 1410 = .ok (.iconst 1, 1) := by decide +kernel
theorem dL_law__1411 : decode cL_law_ 1411 = .ok (.iadd, 1) := by decide +kernel
theorem dL_law__1412 : decode cL_law_ 1412 = .ok (.iaload, 1) := by decide +kernel
theorem dL_law__1413 : decode cL_law_ 1413 = .ok (.aload_n 0, 1) := by decide +kernel
theorem dL_law__1414 : decode cL_law_ 1414 = .ok (.iload 4, 2) := by decide +kernel
theorem dL_law__1416 : decode cL_law_ 1416 = .ok (.iconst 2, 1) := by decide +kernel
theorem dL_law__1417 : decode cL_law_ 1417 = .ok (.iadd, 1) := by decide +kernel
theorem dL_law__1418 : decode cL_law_ 1418 = .ok (.iaload, 1) := by decide +kernel
theorem dL_law__1419 : decode cL_law_ 1419 = .ok (.aload_n 0, 1) := by decide +kernel
theorem dL_law__1420 : decode cL_law_ 1420 = .ok (.iload 4, 2) := by decide +kernel
theorem dL_law__1422 : decode cL_law_ 1422 = .ok (.iconst 3, 1) := by decide +kernel
theorem dL_law__1423 : decode cL_law_ 1423 = .ok (.iadd, 1) := by decide +kernel
theorem dL_law__1424 : decode cL_law_ 1424 = .ok (.iaload, 1) := by decide +kernel
theorem dL_law__1425 : decode cL_law_ 1425 = .ok (.invokevirtual 230, 3) := by decide +kernel
theorem dL_law__1428 : decode cL_law_ 1428 = .ok (.istore 6, 2) := by decide +kernel
theorem dL_law__1430 : decode cL_law_ 1430 = .ok (.aload_n 2, 1) := by decide +kernel
theorem dL_law__1431 : decode cL_law_ 1431 = .ok (.invokevirtual 174, 3) := by decide +kernel
theorem dL_law__1434 : decode cL_law_ 1434 = .ok (.iload 5, 2) := by decide +kernel
theorem dL_law__1436 : decode cL_law_ 1436 = .ok (.if_icmp .eq 5, 3) := by decide +kernel
theorem dL_law__1439 : decode cL_law_ 1439 = .ok (.iconst 0, 1) := by decide +kernel
theorem dL_law__1440 : decode cL_law_ 1440 = .ok (.ireturn, 1) := by decide +kernel
theorem dL_law__1441 : decode cL_law_ 1441 = .ok (.iload 5, 2) := by decide +kernel
theorem dL_law__1443 : decode cL_law_ 1443 = .ok (.ifCond .ne 15, 3) := by decide +kernel
theorem dL_law__1446 : decode cL_law_ 1446 = .ok (.aload_n 3, 1) := by decide +kernel
theorem dL_law__1447 : decode cL_law_ 1447 = .ok (.iconst 0, 1) := by decide +kernel
theorem dL_law__1448 : decode cL_law_ 1448 = .ok (.laload, 1) := by decide +kernel
theorem dL_law__1449 : decode cL_law_ 1449 = .ok (.iload 6, 2) := by decide +kernel
theorem dL_law__1451 : decode cL_law_ 1451 = .ok (.i2l, 1) := by decide +kernel
theorem dL_law__1452 : decode cL_law_ 1452 = .ok (.lcmp, 1) := by decide +kernel
theorem dL_law__1453 : decode cL_law_ 1453 = .ok (.ifCond .eq 5, 3) := by decide +kernel
theorem dL_law__1456 : decode cL_law_ 1456 = .ok (.iconst 0, 1) := by decide +kernel
theorem dL_law__1457 : decode cL_law_ 1457 = .ok (.ireturn, 1) := by decide +kernel
theorem dL_law__1458 : decode cL_law_ 1458 = .ok (.goto 2129, 3) := by decide +kernel
theorem dL_law__1461 : decode cL_law_ 1461 = .ok (.aload_n 1, 1) := by decide +kernel
theorem dL_law__1462 : decode cL_law_ 1462 = .ok (.aload_n 0, 1) := by decide +kernel
theorem dL_law__1463 : decode cL_law_ 1463 = .ok (.iload 4, 2) := by decide +kernel
theorem dL_law__1465 : decode cL_law_ 1465 = .ok (.iconst 1, 1) := by decide +kernel
theorem dL_law__1466 : decode cL_law_ 1466 = .ok (.iadd, 1) := by decide +kernel
theorem dL_law__1467 : decode cL_law_ 1467 = .ok (.iaload, 1) := by decide +kernel
theorem dL_law__1468 : decode cL_law_ 1468 = .ok (.aload_n 0, 1) := by decide +kernel
theorem dL_law__1469 : decode cL_law_ 1469 = .ok (.iload 4, 2) := by decide +kernel
theorem dL_law__1471 : decode cL_law_ 1471 = .ok (.iconst 2, 1) := by decide +kernel
theorem dL_law__1472 : decode cL_law_ 1472 = .ok (.iadd, 1) := by decide +kernel
theorem dL_law__1473 : decode cL_law_ 1473 = .ok (.iaload, 1) := by decide +kernel
theorem dL_law__1474 : decode cL_law_ 1474 = .ok (.aload_n 0, 1) := by decide +kernel
theorem dL_law__1475 : decode cL_law_ 1475 = .ok (.iload 4, 2) := by decide +kernel
theorem dL_law__1477 : decode cL_law_ 1477 = .ok (.iconst 3, 1) := by decide +kernel
theorem dL_law__1478 : decode cL_law_ 1478 = .ok (.iadd, 1) := by decide +kernel
theorem dL_law__1479 : decode cL_law_ 1479 = .ok (.iaload, 1) := by decide +kernel
theorem dL_law__1480 : decode cL_law_ 1480 = .ok (.ifCond .eq 7, 3) := by decide +kernel
theorem dL_law__1483 : decode cL_law_ 1483 = .ok (.iconst 1, 1) := by decide +kernel
theorem dL_law__1484 : decode cL_law_ 1484 = .ok (.goto 4, 3) := by decide +kernel
theorem dL_law__1487 : decode cL_law_ 1487 = .ok (.iconst 0, 1) := by decide +kernel
theorem dL_law__1488 : decode cL_law_ 1488 = .ok (.aload_n 3, 1) := by decide +kernel
theorem dL_law__1489 : decode cL_law_ 1489 = .ok (.invokestatic 231, 3) := by decide +kernel
theorem dL_law__1492 : decode cL_law_ 1492 = .ok (.istore 5, 2) := by decide +kernel
theorem dL_law__1494 : decode cL_law_ 1494 = .ok (.aload_n 2, 1) := by decide +kernel
theorem dL_law__1495 : decode cL_law_ 1495 = .ok (.aload_n 0, 1) := by decide +kernel
theorem dL_law__1496 : decode cL_law_ 1496 = .ok (.iload 4, 2) := by decide +kernel
theorem dL_law__1498 : decode cL_law_ 1498 = .ok (.iconst 1, 1) := by decide +kernel
theorem dL_law__1499 : decode cL_law_ 1499 = .ok (.iadd, 1) := by decide +kernel
theorem dL_law__1500 : decode cL_law_ 1500 = .ok (.iaload, 1) := by decide +kernel
