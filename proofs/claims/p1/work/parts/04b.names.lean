theorem dX10_show_0 : decode cX10_show 0 = .ok (.aload_n 0, 1) := by decide +kernel
theorem dX10_show_1 : decode cX10_show 1 = .ok (.iconst 0, 1) := by decide +kernel
theorem dX10_show_2 : decode cX10_show 2 = .ok (.putfield 100, 3) := by decide +kernel
theorem dX10_show_5 : decode cX10_show 5 = .ok (.aload_n 0, 1) := by decide +kernel
theorem dX10_show_6 : decode cX10_show 6 = .ok (.iload_n 1, 1) := by decide +kernel
theorem dX10_show_7 : decode cX10_show 7 = .ok (.invokevirtual 371, 3) := by decide +kernel
theorem dX10_show_10 : decode cX10_show 10 = .ok (.ifCond .eq 7, 3) := by decide +kernel
theorem dX10_show_13 : decode cX10_show 13 = .ok (.iconst 0, 1) := by decide +kernel
theorem dX10_show_14 : decode cX10_show 14 = .ok (.goto 12, 3) := by decide +kernel
theorem dX10_show_26 : decode cX10_show 26 = .ok (.ireturn, 1) := by decide +kernel
theorem dX10_place_0 : decode cX10_place 0 = .ok (.aload_n 0, 1) := by decide +kernel
theorem dX10_place_1 : decode cX10_place 1 = .ok (.iconst 0, 1) := by decide +kernel
theorem dX10_place_2 : decode cX10_place 2 = .ok (.putfield 100, 3) := by decide +kernel
theorem dX10_place_5 : decode cX10_place 5 = .ok (.aload_n 0, 1) := by decide +kernel
theorem dX10_place_6 : decode cX10_place 6 = .ok (.iload_n 1, 1) := by decide +kernel
theorem dX10_place_7 : decode cX10_place 7 = .ok (.invokevirtual 371, 3) := by decide +kernel
theorem dX10_place_10 : decode cX10_place 10 = .ok (.ifCond .eq 5, 3) := by decide +kernel
theorem dX10_place_13 : decode cX10_place 13 = .ok (.iconst 0, 1) := by decide +kernel
theorem dX10_place_14 : decode cX10_place 14 = .ok (.ireturn, 1) := by decide +kernel
theorem dX10_side_0 : decode cX10_side 0 = .ok (.aload_n 0, 1) := by decide +kernel
theorem dX10_side_1 : decode cX10_side 1 = .ok (.iconst 0, 1) := by decide +kernel
theorem dX10_side_2 : decode cX10_side 2 = .ok (.putfield 100, 3) := by decide +kernel
theorem dX10_side_5 : decode cX10_side 5 = .ok (.aload_n 0, 1) := by decide +kernel
theorem dX10_side_6 : decode cX10_side 6 = .ok (.iload_n 1, 1) := by decide +kernel
theorem dX10_side_7 : decode cX10_side 7 = .ok (.invokevirtual 278, 3) := by decide +kernel
theorem dX10_side_10 : decode cX10_side 10 = .ok (.ifCond .eq 5, 3) := by decide +kernel
theorem dX10_side_13 : decode cX10_side 13 = .ok (.iconst 0, 1) := by decide +kernel
theorem dX10_side_14 : decode cX10_side 14 = .ok (.ireturn, 1) := by decide +kernel
theorem dX10_octet_0 : decode cX10_octet 0 = .ok (.aload_n 0, 1) := by decide +kernel
theorem dX10_octet_1 : decode cX10_octet 1 = .ok (.iconst 0, 1) := by decide +kernel
theorem dX10_octet_2 : decode cX10_octet 2 = .ok (.putfield 100, 3) := by decide +kernel
theorem dX10_octet_5 : decode cX10_octet 5 = .ok (.iload_n 1, 1) := by decide +kernel
theorem dX10_octet_6 : decode cX10_octet 6 = .ok (.iconst 0, 1) := by decide +kernel
theorem dX10_octet_7 : decode cX10_octet 7 = .ok (.aload_n 0, 1) := by decide +kernel
theorem dX10_octet_8 : decode cX10_octet 8 = .ok (.getfield 206, 3) := by decide +kernel
theorem dX10_octet_11 : decode cX10_octet 11 = .ok (.iconst 1, 1) := by decide +kernel
theorem dX10_octet_12 : decode cX10_octet 12 = .ok (.isub, 1) := by decide +kernel
theorem dX10_octet_13 : decode cX10_octet 13 = .ok (.invokestatic 132, 3) := by decide +kernel
theorem dX10_octet_16 : decode cX10_octet 16 = .ok (.ifCond .eq 12, 3) := by decide +kernel
theorem dX10_octet_28 : decode cX10_octet 28 = .ok (.iconst (-1), 1) := by decide +kernel
theorem dX10_octet_29 : decode cX10_octet 29 = .ok (.ireturn, 1) := by decide +kernel
theorem dX10_keep_0 : decode cX10_keep 0 = .ok (.aload_n 0, 1) := by decide +kernel
theorem dX10_keep_1 : decode cX10_keep 1 = .ok (.iconst 0, 1) := by decide +kernel
theorem dX10_keep_2 : decode cX10_keep 2 = .ok (.putfield 100, 3) := by decide +kernel
theorem dX10_keep_5 : decode cX10_keep 5 = .ok (.aload_n 0, 1) := by decide +kernel
theorem dX10_keep_6 : decode cX10_keep 6 = .ok (.aload_n 0, 1) := by decide +kernel
theorem dX10_keep_7 : decode cX10_keep 7 = .ok (.getfield 202, 3) := by decide +kernel
theorem dX10_keep_10 : decode cX10_keep 10 = .ok (.ifCond .ne 7, 3) := by decide +kernel
theorem dX10_keep_13 : decode cX10_keep 13 = .ok (.iconst 1, 1) := by decide +kernel
theorem dX10_keep_14 : decode cX10_keep 14 = .ok (.goto 4, 3) := by decide +kernel
theorem dX10_keep_18 : decode cX10_keep 18 = .ok (.iconst 1, 1) := by decide +kernel
theorem dX10_keep_19 : decode cX10_keep 19 = .ok (.invokevirtual 264, 3) := by decide +kernel
theorem dX10_keep_22 : decode cX10_keep 22 = .ok (.ifCond .eq 5, 3) := by decide +kernel
theorem dX10_keep_25 : decode cX10_keep 25 = .ok (.iconst 0, 1) := by decide +kernel
theorem dX10_keep_26 : decode cX10_keep 26 = .ok (.ireturn, 1) := by decide +kernel
theorem dX10_matches_0 : decode cX10_matches 0 = .ok (.aload_n 0, 1) := by decide +kernel
theorem dX10_matches_1 : decode cX10_matches 1 = .ok (.iconst 0, 1) := by decide +kernel
theorem dX10_matches_2 : decode cX10_matches 2 = .ok (.putfield 100, 3) := by decide +kernel
theorem dX10_matches_5 : decode cX10_matches 5 = .ok (.aload_n 0, 1) := by decide +kernel
theorem dX10_matches_6 : decode cX10_matches 6 = .ok (.iload_n 1, 1) := by decide +kernel
theorem dX10_matches_7 : decode cX10_matches 7 = .ok (.invokevirtual 371, 3) := by decide +kernel
theorem dX10_matches_10 : decode cX10_matches 10 = .ok (.ifCond .ne 11, 3) := by decide +kernel
theorem dX10_matches_21 : decode cX10_matches 21 = .ok (.iconst 0, 1) := by decide +kernel
theorem dX10_matches_22 : decode cX10_matches 22 = .ok (.ireturn, 1) := by decide +kernel
theorem dX10_bound_0 : decode cX10_bound 0 = .ok (.aload_n 0, 1) := by decide +kernel
theorem dX10_bound_1 : decode cX10_bound 1 = .ok (.iconst 0, 1) := by decide +kernel
theorem dX10_bound_2 : decode cX10_bound 2 = .ok (.putfield 100, 3) := by decide +kernel
theorem dX10_bound_5 : decode cX10_bound 5 = .ok (.aload_n 0, 1) := by decide +kernel
theorem dX10_bound_6 : decode cX10_bound 6 = .ok (.iload_n 1, 1) := by decide +kernel
theorem dX10_bound_7 : decode cX10_bound 7 = .ok (.invokevirtual 371, 3) := by decide +kernel
theorem dX10_bound_10 : decode cX10_bound 10 = .ok (.ifCond .ne 20, 3) := by decide +kernel
theorem dX10_bound_30 : decode cX10_bound 30 = .ok (.iconst 0, 1) := by decide +kernel
theorem dX10_bound_31 : decode cX10_bound 31 = .ok (.ireturn, 1) := by decide +kernel
theorem dX10_fill_0 : decode cX10_fill 0 = .ok (.aload_n 0, 1) := by decide +kernel
theorem dX10_fill_1 : decode cX10_fill 1 = .ok (.iconst 0, 1) := by decide +kernel
theorem dX10_fill_2 : decode cX10_fill 2 = .ok (.putfield 100, 3) := by decide +kernel
theorem dX10_fill_5 : decode cX10_fill 5 = .ok (.aload_n 0, 1) := by decide +kernel
theorem dX10_fill_6 : decode cX10_fill 6 = .ok (.iload_n 1, 1) := by decide +kernel
theorem dX10_fill_7 : decode cX10_fill 7 = .ok (.invokevirtual 371, 3) := by decide +kernel
theorem dX10_fill_10 : decode cX10_fill 10 = .ok (.ifCond .ne 19, 3) := by decide +kernel
theorem dX10_fill_29 : decode cX10_fill 29 = .ok (.iconst 0, 1) := by decide +kernel
theorem dX10_fill_30 : decode cX10_fill 30 = .ok (.ireturn, 1) := by decide +kernel
theorem dX10_noOperator_0 : decode cX10_noOperator 0 = .ok (.aload_n 0, 1) := by decide +kernel
theorem dX10_noOperator_1 : decode cX10_noOperator 1 = .ok (.iload_n 1, 1) := by decide +kernel
theorem dX10_noOperator_2 : decode cX10_noOperator 2 = .ok (.iconst 0, 1) := by decide +kernel
theorem dX10_noOperator_3 : decode cX10_noOperator 3 = .ok (.aload_n 0, 1) := by decide +kernel
theorem dX10_noOperator_4 : decode cX10_noOperator 4 = .ok (.getfield 190, 3) := by decide +kernel
theorem dX10_noOperator_7 : decode cX10_noOperator 7 = .ok (.iconst 1, 1) := by decide +kernel
theorem dX10_noOperator_8 : decode cX10_noOperator 8 = .ok (.isub, 1) := by decide +kernel
theorem dX10_noOperator_9 : decode cX10_noOperator 9 = .ok (.invokestatic 132, 3) := by decide +kernel
theorem dX10_noOperator_12 : decode cX10_noOperator 12 = .ok (.ifCond .ne 7, 3) := by decide +kernel
theorem dX10_noOperator_15 : decode cX10_noOperator 15 = .ok (.iconst 1, 1) := by decide +kernel
theorem dX10_noOperator_16 : decode cX10_noOperator 16 = .ok (.goto 4, 3) := by decide +kernel
theorem dX10_noOperator_20 : decode cX10_noOperator 20 = .ok (.iconst 1, 1) := by decide +kernel
theorem dX10_noOperator_21 : decode cX10_noOperator 21 = .ok (.invokevirtual 264, 3) := by decide +kernel
theorem dX10_noOperator_24 : decode cX10_noOperator 24 = .ok (.ireturn, 1) := by decide +kernel
theorem dX10_join_0 : decode cX10_join 0 = .ok (.aload_n 0, 1) := by decide +kernel
theorem dX10_join_1 : decode cX10_join 1 = .ok (.iconst 0, 1) := by decide +kernel
theorem dX10_join_2 : decode cX10_join 2 = .ok (.putfield 100, 3) := by decide +kernel
theorem dX10_join_5 : decode cX10_join 5 = .ok (.aload_n 0, 1) := by decide +kernel
theorem dX10_join_6 : decode cX10_join 6 = .ok (.iload_n 1, 1) := by decide +kernel
theorem dX10_join_7 : decode cX10_join 7 = .ok (.invokevirtual 386, 3) := by decide +kernel
theorem dX10_join_10 : decode cX10_join 10 = .ok (.ifCond .ne 42, 3) := by decide +kernel
theorem dX10_join_52 : decode cX10_join 52 = .ok (.iconst 0, 1) := by decide +kernel
theorem dX10_join_53 : decode cX10_join 53 = .ok (.ireturn, 1) := by decide +kernel
theorem dX10_steps_0 : decode cX10_steps 0 = .ok (.aload_n 0, 1) := by decide +kernel
theorem dX10_steps_1 : decode cX10_steps 1 = .ok (.iconst 0, 1) := by decide +kernel
theorem dX10_steps_2 : decode cX10_steps 2 = .ok (.putfield 100, 3) := by decide +kernel
theorem dX10_steps_5 : decode cX10_steps 5 = .ok (.aload_n 0, 1) := by decide +kernel
theorem dX10_steps_6 : decode cX10_steps 6 = .ok (.iload_n 1, 1) := by decide +kernel
theorem dX10_steps_7 : decode cX10_steps 7 = .ok (.invokevirtual 371, 3) := by decide +kernel
theorem dX10_steps_10 : decode cX10_steps 10 = .ok (.ifCond .ne 12, 3) := by decide +kernel
theorem dX10_steps_22 : decode cX10_steps 22 = .ok (.iconst 0, 1) := by decide +kernel
theorem dX10_steps_23 : decode cX10_steps 23 = .ok (.goto 7, 3) := by decide +kernel
theorem dX10_steps_30 : decode cX10_steps 30 = .ok (.ireturn, 1) := by decide +kernel
