theorem dL_signature_0 : decode cL_signature 0 = .ok (.aload_n 1, 1) := by decide +kernel
theorem dL_signature_1 : decode cL_signature 1 = .ok (.iconst 0, 1) := by decide +kernel
theorem dL_signature_2 : decode cL_signature 2 = .ok (.aload_n 0, 1) := by decide +kernel
theorem dL_signature_3 : decode cL_signature 3 = .ok (.invokevirtual 7, 3) := by decide +kernel
theorem dL_signature_6 : decode cL_signature 6 = .ok (.i2l, 1) := by decide +kernel
theorem dL_signature_7 : decode cL_signature 7 = .ok (.lastore, 1) := by decide +kernel
theorem dL_signature_8 : decode cL_signature 8 = .ok (.goto 6, 3) := by decide +kernel
theorem dL_signature_14 : decode cL_signature 14 = .ok (.iconst 0, 1) := by decide +kernel
theorem dL_signature_15 : decode cL_signature 15 = .ok (.ireturn, 1) := by decide +kernel
theorem dL_term_0 : decode cL_term 0 = .ok (.aload_n 1, 1) := by decide +kernel
theorem dL_term_1 : decode cL_term 1 = .ok (.iconst 0, 1) := by decide +kernel
theorem dL_term_2 : decode cL_term 2 = .ok (.aload_n 0, 1) := by decide +kernel
theorem dL_term_3 : decode cL_term 3 = .ok (.invokevirtual 15, 3) := by decide +kernel
theorem dL_term_11 : decode cL_term 11 = .ok (.astore_n 2, 1) := by decide +kernel
theorem dL_term_12 : decode cL_term 12 = .ok (.iconst 1, 1) := by decide +kernel
theorem dL_term_13 : decode cL_term 13 = .ok (.ireturn, 1) := by decide +kernel
theorem dL_rule_0 : decode cL_rule 0 = .ok (.aload_n 1, 1) := by decide +kernel
theorem dL_rule_1 : decode cL_rule 1 = .ok (.iconst 0, 1) := by decide +kernel
theorem dL_rule_2 : decode cL_rule 2 = .ok (.aload_n 0, 1) := by decide +kernel
theorem dL_rule_3 : decode cL_rule 3 = .ok (.invokevirtual 20, 3) := by decide +kernel
theorem dL_rule_11 : decode cL_rule 11 = .ok (.astore_n 2, 1) := by decide +kernel
theorem dL_rule_12 : decode cL_rule 12 = .ok (.iconst 1, 1) := by decide +kernel
theorem dL_rule_13 : decode cL_rule 13 = .ok (.ireturn, 1) := by decide +kernel
theorem dL_turn_0 : decode cL_turn 0 = .ok (.aload_n 3, 1) := by decide +kernel
theorem dL_turn_1 : decode cL_turn 1 = .ok (.iconst 0, 1) := by decide +kernel
theorem dL_turn_2 : decode cL_turn 2 = .ok (.aload_n 0, 1) := by decide +kernel
theorem dL_turn_3 : decode cL_turn 3 = .ok (.iload_n 1, 1) := by decide +kernel
theorem dL_turn_4 : decode cL_turn 4 = .ok (.iload_n 2, 1) := by decide +kernel
theorem dL_turn_5 : decode cL_turn 5 = .ok (.invokevirtual 23, 3) := by decide +kernel
theorem dL_turn_20 : decode cL_turn 20 = .ok (.astore 4, 2) := by decide +kernel
theorem dL_turn_22 : decode cL_turn 22 = .ok (.iconst 1, 1) := by decide +kernel
theorem dL_turn_23 : decode cL_turn 23 = .ok (.ireturn, 1) := by decide +kernel
theorem dL_operator_0 : decode cL_operator 0 = .ok (.aload_n 3, 1) := by decide +kernel
theorem dL_operator_1 : decode cL_operator 1 = .ok (.iconst 0, 1) := by decide +kernel
theorem dL_operator_2 : decode cL_operator 2 = .ok (.aload_n 0, 1) := by decide +kernel
theorem dL_operator_3 : decode cL_operator 3 = .ok (.iload_n 1, 1) := by decide +kernel
theorem dL_operator_4 : decode cL_operator 4 = .ok (.iload_n 2, 1) := by decide +kernel
theorem dL_operator_5 : decode cL_operator 5 = .ok (.invokevirtual 29, 3) := by decide +kernel
theorem dL_operator_13 : decode cL_operator 13 = .ok (.astore 4, 2) := by decide +kernel
theorem dL_operator_15 : decode cL_operator 15 = .ok (.iconst 1, 1) := by decide +kernel
theorem dL_operator_16 : decode cL_operator 16 = .ok (.ireturn, 1) := by decide +kernel
theorem dL_about_0 : decode cL_about 0 = .ok (.aload_n 3, 1) := by decide +kernel
theorem dL_about_1 : decode cL_about 1 = .ok (.iconst 0, 1) := by decide +kernel
theorem dL_about_2 : decode cL_about 2 = .ok (.aload_n 0, 1) := by decide +kernel
theorem dL_about_3 : decode cL_about 3 = .ok (.iload_n 1, 1) := by decide +kernel
theorem dL_about_4 : decode cL_about 4 = .ok (.iload_n 2, 1) := by decide +kernel
theorem dL_about_5 : decode cL_about 5 = .ok (.invokevirtual 35, 3) := by decide +kernel
theorem dL_about_13 : decode cL_about 13 = .ok (.astore 4, 2) := by decide +kernel
theorem dL_about_15 : decode cL_about 15 = .ok (.iconst 1, 1) := by decide +kernel
theorem dL_about_16 : decode cL_about 16 = .ok (.ireturn, 1) := by decide +kernel
theorem dL_order_0 : decode cL_order 0 = .ok (.aload_n 3, 1) := by decide +kernel
theorem dL_order_1 : decode cL_order 1 = .ok (.iconst 0, 1) := by decide +kernel
theorem dL_order_2 : decode cL_order 2 = .ok (.aload_n 0, 1) := by decide +kernel
theorem dL_order_3 : decode cL_order 3 = .ok (.iload_n 1, 1) := by decide +kernel
theorem dL_order_4 : decode cL_order 4 = .ok (.iload_n 2, 1) := by decide +kernel
theorem dL_order_5 : decode cL_order 5 = .ok (.invokevirtual 38, 3) := by decide +kernel
theorem dL_order_13 : decode cL_order 13 = .ok (.astore 4, 2) := by decide +kernel
theorem dL_order_15 : decode cL_order 15 = .ok (.iconst 1, 1) := by decide +kernel
theorem dL_order_16 : decode cL_order 16 = .ok (.ireturn, 1) := by decide +kernel
theorem dL_show_0 : decode cL_show 0 = .ok (.aload_n 2, 1) := by decide +kernel
theorem dL_show_1 : decode cL_show 1 = .ok (.iconst 0, 1) := by decide +kernel
theorem dL_show_2 : decode cL_show 2 = .ok (.aload_n 0, 1) := by decide +kernel
theorem dL_show_3 : decode cL_show 3 = .ok (.iload_n 1, 1) := by decide +kernel
theorem dL_show_4 : decode cL_show 4 = .ok (.invokevirtual 41, 3) := by decide +kernel
theorem dL_show_12 : decode cL_show 12 = .ok (.astore_n 3, 1) := by decide +kernel
theorem dL_show_13 : decode cL_show 13 = .ok (.iconst 1, 1) := by decide +kernel
theorem dL_show_14 : decode cL_show 14 = .ok (.ireturn, 1) := by decide +kernel
theorem dL_place_0 : decode cL_place 0 = .ok (.aload_n 3, 1) := by decide +kernel
theorem dL_place_1 : decode cL_place 1 = .ok (.iconst 0, 1) := by decide +kernel
theorem dL_place_2 : decode cL_place 2 = .ok (.aload_n 0, 1) := by decide +kernel
theorem dL_place_3 : decode cL_place 3 = .ok (.iload_n 1, 1) := by decide +kernel
theorem dL_place_4 : decode cL_place 4 = .ok (.iload_n 2, 1) := by decide +kernel
theorem dL_place_5 : decode cL_place 5 = .ok (.invokevirtual 45, 3) := by decide +kernel
theorem dL_place_13 : decode cL_place 13 = .ok (.astore 4, 2) := by decide +kernel
theorem dL_place_15 : decode cL_place 15 = .ok (.iconst 1, 1) := by decide +kernel
theorem dL_place_16 : decode cL_place 16 = .ok (.ireturn, 1) := by decide +kernel
theorem dL_side_0 : decode cL_side 0 = .ok (.aload_n 3, 1) := by decide +kernel
theorem dL_side_1 : decode cL_side 1 = .ok (.iconst 0, 1) := by decide +kernel
theorem dL_side_2 : decode cL_side 2 = .ok (.aload_n 0, 1) := by decide +kernel
theorem dL_side_3 : decode cL_side 3 = .ok (.iload_n 1, 1) := by decide +kernel
theorem dL_side_4 : decode cL_side 4 = .ok (.iload_n 2, 1) := by decide +kernel
theorem dL_side_5 : decode cL_side 5 = .ok (.invokevirtual 48, 3) := by decide +kernel
theorem dL_side_13 : decode cL_side 13 = .ok (.astore 4, 2) := by decide +kernel
theorem dL_side_15 : decode cL_side 15 = .ok (.iconst 1, 1) := by decide +kernel
theorem dL_side_16 : decode cL_side 16 = .ok (.ireturn, 1) := by decide +kernel
theorem dL_matches_0 : decode cL_matches 0 = .ok (.aload_n 3, 1) := by decide +kernel
theorem dL_matches_1 : decode cL_matches 1 = .ok (.iconst 0, 1) := by decide +kernel
theorem dL_matches_2 : decode cL_matches 2 = .ok (.aload_n 0, 1) := by decide +kernel
theorem dL_matches_3 : decode cL_matches 3 = .ok (.iload_n 1, 1) := by decide +kernel
theorem dL_matches_4 : decode cL_matches 4 = .ok (.iload_n 2, 1) := by decide +kernel
theorem dL_matches_5 : decode cL_matches 5 = .ok (.invokevirtual 52, 3) := by decide +kernel
theorem dL_matches_13 : decode cL_matches 13 = .ok (.astore 4, 2) := by decide +kernel
theorem dL_matches_15 : decode cL_matches 15 = .ok (.iconst 1, 1) := by decide +kernel
theorem dL_matches_16 : decode cL_matches 16 = .ok (.ireturn, 1) := by decide +kernel
theorem dL_bound_0 : decode cL_bound 0 = .ok (.aload 5, 2) := by decide +kernel
theorem dL_bound_2 : decode cL_bound 2 = .ok (.iconst 0, 1) := by decide +kernel
theorem dL_bound_3 : decode cL_bound 3 = .ok (.aload_n 0, 1) := by decide +kernel
theorem dL_bound_4 : decode cL_bound 4 = .ok (.iload_n 1, 1) := by decide +kernel
theorem dL_bound_5 : decode cL_bound 5 = .ok (.iload_n 2, 1) := by decide +kernel
theorem dL_bound_6 : decode cL_bound 6 = .ok (.iload_n 3, 1) := by decide +kernel
theorem dL_bound_7 : decode cL_bound 7 = .ok (.iload 4, 2) := by decide +kernel
theorem dL_bound_9 : decode cL_bound 9 = .ok (.invokevirtual 55, 3) := by decide +kernel
theorem dL_bound_17 : decode cL_bound 17 = .ok (.astore 6, 2) := by decide +kernel
theorem dL_bound_19 : decode cL_bound 19 = .ok (.iconst 1, 1) := by decide +kernel
theorem dL_bound_20 : decode cL_bound 20 = .ok (.ireturn, 1) := by decide +kernel
theorem dL_fill_0 : decode cL_fill 0 = .ok (.aload 4, 2) := by decide +kernel
theorem dL_fill_2 : decode cL_fill 2 = .ok (.iconst 0, 1) := by decide +kernel
theorem dL_fill_3 : decode cL_fill 3 = .ok (.aload_n 0, 1) := by decide +kernel
theorem dL_fill_4 : decode cL_fill 4 = .ok (.iload_n 1, 1) := by decide +kernel
theorem dL_fill_5 : decode cL_fill 5 = .ok (.iload_n 2, 1) := by decide +kernel
theorem dL_fill_6 : decode cL_fill 6 = .ok (.iload_n 3, 1) := by decide +kernel
theorem dL_fill_7 : decode cL_fill 7 = .ok (.invokevirtual 59, 3) := by decide +kernel
theorem dL_fill_15 : decode cL_fill 15 = .ok (.astore 5, 2) := by decide +kernel
theorem dL_fill_17 : decode cL_fill 17 = .ok (.iconst 1, 1) := by decide +kernel
theorem dL_fill_18 : decode cL_fill 18 = .ok (.ireturn, 1) := by decide +kernel
theorem dL_join_0 : decode cL_join 0 = .ok (.aload 4, 2) := by decide +kernel
theorem dL_join_2 : decode cL_join 2 = .ok (.iconst 0, 1) := by decide +kernel
theorem dL_join_3 : decode cL_join 3 = .ok (.aload_n 0, 1) := by decide +kernel
theorem dL_join_4 : decode cL_join 4 = .ok (.iload_n 1, 1) := by decide +kernel
theorem dL_join_5 : decode cL_join 5 = .ok (.iload_n 2, 1) := by decide +kernel
theorem dL_join_6 : decode cL_join 6 = .ok (.iload_n 3, 1) := by decide +kernel
theorem dL_join_7 : decode cL_join 7 = .ok (.invokevirtual 63, 3) := by decide +kernel
theorem dL_join_15 : decode cL_join 15 = .ok (.astore 5, 2) := by decide +kernel
theorem dL_join_17 : decode cL_join 17 = .ok (.iconst 1, 1) := by decide +kernel
theorem dL_join_18 : decode cL_join 18 = .ok (.ireturn, 1) := by decide +kernel
theorem dL_steps_0 : decode cL_steps 0 = .ok (.aload_n 2, 1) := by decide +kernel
theorem dL_steps_1 : decode cL_steps 1 = .ok (.iconst 0, 1) := by decide +kernel
theorem dL_steps_2 : decode cL_steps 2 = .ok (.aload_n 0, 1) := by decide +kernel
theorem dL_steps_3 : decode cL_steps 3 = .ok (.iload_n 1, 1) := by decide +kernel
theorem dL_steps_4 : decode cL_steps 4 = .ok (.invokevirtual 66, 3) := by decide +kernel
theorem dL_steps_12 : decode cL_steps 12 = .ok (.astore_n 3, 1) := by decide +kernel
theorem dL_steps_13 : decode cL_steps 13 = .ok (.iconst 1, 1) := by decide +kernel
theorem dL_steps_14 : decode cL_steps 14 = .ok (.ireturn, 1) := by decide +kernel
theorem dL_step_0 : decode cL_step 0 = .ok (.aload_n 3, 1) := by decide +kernel
theorem dL_step_1 : decode cL_step 1 = .ok (.iconst 0, 1) := by decide +kernel
theorem dL_step_2 : decode cL_step 2 = .ok (.aload_n 0, 1) := by decide +kernel
theorem dL_step_3 : decode cL_step 3 = .ok (.iload_n 1, 1) := by decide +kernel
theorem dL_step_4 : decode cL_step 4 = .ok (.iload_n 2, 1) := by decide +kernel
theorem dL_step_5 : decode cL_step 5 = .ok (.invokevirtual 69, 3) := by decide +kernel
theorem dL_step_13 : decode cL_step 13 = .ok (.astore 4, 2) := by decide +kernel
theorem dL_step_15 : decode cL_step 15 = .ok (.iconst 1, 1) := by decide +kernel
theorem dL_step_16 : decode cL_step 16 = .ok (.ireturn, 1) := by decide +kernel
theorem dL_stepAt_0 : decode cL_stepAt 0 = .ok (.aload 4, 2) := by decide +kernel
theorem dL_stepAt_2 : decode cL_stepAt 2 = .ok (.iconst 0, 1) := by decide +kernel
theorem dL_stepAt_3 : decode cL_stepAt 3 = .ok (.aload_n 0, 1) := by decide +kernel
theorem dL_stepAt_4 : decode cL_stepAt 4 = .ok (.iload_n 1, 1) := by decide +kernel
theorem dL_stepAt_5 : decode cL_stepAt 5 = .ok (.iload_n 2, 1) := by decide +kernel
theorem dL_stepAt_6 : decode cL_stepAt 6 = .ok (.iload_n 3, 1) := by decide +kernel
theorem dL_stepAt_7 : decode cL_stepAt 7 = .ok (.invokevirtual 72, 3) := by decide +kernel
theorem dL_stepAt_15 : decode cL_stepAt 15 = .ok (.astore 5, 2) := by decide +kernel
theorem dL_stepAt_17 : decode cL_stepAt 17 = .ok (.iconst 1, 1) := by decide +kernel
theorem dL_stepAt_18 : decode cL_stepAt 18 = .ok (.ireturn, 1) := by decide +kernel
theorem dL_atTop_0 : decode cL_atTop 0 = .ok (.aload_n 3, 1) := by decide +kernel
theorem dL_atTop_1 : decode cL_atTop 1 = .ok (.iconst 0, 1) := by decide +kernel
theorem dL_atTop_2 : decode cL_atTop 2 = .ok (.aload_n 0, 1) := by decide +kernel
theorem dL_atTop_3 : decode cL_atTop 3 = .ok (.iload_n 1, 1) := by decide +kernel
theorem dL_atTop_4 : decode cL_atTop 4 = .ok (.iload_n 2, 1) := by decide +kernel
theorem dL_atTop_5 : decode cL_atTop 5 = .ok (.invokevirtual 75, 3) := by decide +kernel
theorem dL_atTop_13 : decode cL_atTop 13 = .ok (.astore 4, 2) := by decide +kernel
theorem dL_atTop_15 : decode cL_atTop 15 = .ok (.iconst 1, 1) := by decide +kernel
theorem dL_atTop_16 : decode cL_atTop 16 = .ok (.ireturn, 1) := by decide +kernel
theorem dL_walk_0 : decode cL_walk 0 = .ok (.aload_n 2, 1) := by decide +kernel
theorem dL_walk_1 : decode cL_walk 1 = .ok (.iconst 0, 1) := by decide +kernel
theorem dL_walk_2 : decode cL_walk 2 = .ok (.aload_n 0, 1) := by decide +kernel
theorem dL_walk_3 : decode cL_walk 3 = .ok (.iload_n 1, 1) := by decide +kernel
theorem dL_walk_4 : decode cL_walk 4 = .ok (.invokevirtual 78, 3) := by decide +kernel
theorem dL_walk_12 : decode cL_walk 12 = .ok (.astore_n 3, 1) := by decide +kernel
theorem dL_walk_13 : decode cL_walk 13 = .ok (.iconst 1, 1) := by decide +kernel
theorem dL_walk_14 : decode cL_walk 14 = .ok (.ireturn, 1) := by decide +kernel
theorem dL_reach_0 : decode cL_reach 0 = .ok (.aload 4, 2) := by decide +kernel
theorem dL_reach_2 : decode cL_reach 2 = .ok (.iconst 0, 1) := by decide +kernel
theorem dL_reach_3 : decode cL_reach 3 = .ok (.aload_n 0, 1) := by decide +kernel
theorem dL_reach_4 : decode cL_reach 4 = .ok (.iload_n 1, 1) := by decide +kernel
theorem dL_reach_5 : decode cL_reach 5 = .ok (.iload_n 2, 1) := by decide +kernel
theorem dL_reach_6 : decode cL_reach 6 = .ok (.iload_n 3, 1) := by decide +kernel
theorem dL_reach_7 : decode cL_reach 7 = .ok (.invokevirtual 81, 3) := by decide +kernel
theorem dL_reach_15 : decode cL_reach 15 = .ok (.astore 5, 2) := by decide +kernel
theorem dL_reach_17 : decode cL_reach 17 = .ok (.iconst 1, 1) := by decide +kernel
theorem dL_reach_18 : decode cL_reach 18 = .ok (.ireturn, 1) := by decide +kernel
theorem dL_reached_0 : decode cL_reached 0 = .ok (.aload 5, 2) := by decide +kernel
theorem dL_reached_2 : decode cL_reached 2 = .ok (.iconst 0, 1) := by decide +kernel
theorem dL_reached_3 : decode cL_reached 3 = .ok (.aload_n 0, 1) := by decide +kernel
theorem dL_reached_4 : decode cL_reached 4 = .ok (.iload_n 1, 1) := by decide +kernel
theorem dL_reached_5 : decode cL_reached 5 = .ok (.iload_n 2, 1) := by decide +kernel
theorem dL_reached_6 : decode cL_reached 6 = .ok (.iload_n 3, 1) := by decide +kernel
theorem dL_reached_7 : decode cL_reached 7 = .ok (.iload 4, 2) := by decide +kernel
theorem dL_reached_9 : decode cL_reached 9 = .ok (.invokevirtual 85, 3) := by decide +kernel
theorem dL_reached_17 : decode cL_reached 17 = .ok (.astore 6, 2) := by decide +kernel
theorem dL_reached_19 : decode cL_reached 19 = .ok (.iconst 1, 1) := by decide +kernel
theorem dL_reached_20 : decode cL_reached 20 = .ok (.ireturn, 1) := by decide +kernel
theorem dL_meet_0 : decode cL_meet 0 = .ok (.aload 4, 2) := by decide +kernel
theorem dL_meet_2 : decode cL_meet 2 = .ok (.iconst 0, 1) := by decide +kernel
theorem dL_meet_3 : decode cL_meet 3 = .ok (.aload_n 0, 1) := by decide +kernel
theorem dL_meet_4 : decode cL_meet 4 = .ok (.iload_n 1, 1) := by decide +kernel
theorem dL_meet_5 : decode cL_meet 5 = .ok (.iload_n 2, 1) := by decide +kernel
theorem dL_meet_6 : decode cL_meet 6 = .ok (.iload_n 3, 1) := by decide +kernel
theorem dL_meet_7 : decode cL_meet 7 = .ok (.invokevirtual 89, 3) := by decide +kernel
theorem dL_meet_15 : decode cL_meet 15 = .ok (.astore 5, 2) := by decide +kernel
theorem dL_meet_17 : decode cL_meet 17 = .ok (.iconst 1, 1) := by decide +kernel
theorem dL_meet_18 : decode cL_meet 18 = .ok (.ireturn, 1) := by decide +kernel
theorem dL_keep_0 : decode cL_keep 0 = .ok (.aload_n 1, 1) := by decide +kernel
theorem dL_keep_1 : decode cL_keep 1 = .ok (.iconst 0, 1) := by decide +kernel
theorem dL_keep_2 : decode cL_keep 2 = .ok (.aload_n 0, 1) := by decide +kernel
theorem dL_keep_3 : decode cL_keep 3 = .ok (.invokevirtual 92, 3) := by decide +kernel
theorem dL_keep_11 : decode cL_keep 11 = .ok (.astore_n 2, 1) := by decide +kernel
theorem dL_keep_12 : decode cL_keep 12 = .ok (.iconst 1, 1) := by decide +kernel
theorem dL_keep_13 : decode cL_keep 13 = .ok (.ireturn, 1) := by decide +kernel
