theorem dX10_step_0 : decode cX10_step 0 = .ok (.aload_n 0, 1) := by decide +kernel
theorem dX10_step_1 : decode cX10_step 1 = .ok (.iconst 0, 1) := by decide +kernel
theorem dX10_step_2 : decode cX10_step 2 = .ok (.putfield 100, 3) := by decide +kernel
theorem dX10_step_5 : decode cX10_step 5 = .ok (.aload_n 0, 1) := by decide +kernel
theorem dX10_step_6 : decode cX10_step 6 = .ok (.iload_n 1, 1) := by decide +kernel
theorem dX10_step_7 : decode cX10_step 7 = .ok (.invokevirtual 371, 3) := by decide +kernel
theorem dX10_step_10 : decode cX10_step 10 = .ok (.ifCond .ne 39, 3) := by decide +kernel
theorem dX10_step_49 : decode cX10_step 49 = .ok (.iconst 0, 1) := by decide +kernel
theorem dX10_step_50 : decode cX10_step 50 = .ok (.ireturn, 1) := by decide +kernel
theorem dX10_stepAt_0 : decode cX10_stepAt 0 = .ok (.aload_n 0, 1) := by decide +kernel
theorem dX10_stepAt_1 : decode cX10_stepAt 1 = .ok (.iconst 0, 1) := by decide +kernel
theorem dX10_stepAt_2 : decode cX10_stepAt 2 = .ok (.putfield 100, 3) := by decide +kernel
theorem dX10_stepAt_5 : decode cX10_stepAt 5 = .ok (.aload_n 0, 1) := by decide +kernel
theorem dX10_stepAt_6 : decode cX10_stepAt 6 = .ok (.iload_n 1, 1) := by decide +kernel
theorem dX10_stepAt_7 : decode cX10_stepAt 7 = .ok (.invokevirtual 371, 3) := by decide +kernel
theorem dX10_stepAt_10 : decode cX10_stepAt 10 = .ok (.ifCond .ne 48, 3) := by decide +kernel
theorem dX10_stepAt_58 : decode cX10_stepAt 58 = .ok (.iconst 0, 1) := by decide +kernel
theorem dX10_stepAt_59 : decode cX10_stepAt 59 = .ok (.ireturn, 1) := by decide +kernel
theorem dX10_atTop_0 : decode cX10_atTop 0 = .ok (.aload_n 0, 1) := by decide +kernel
theorem dX10_atTop_1 : decode cX10_atTop 1 = .ok (.iconst 0, 1) := by decide +kernel
theorem dX10_atTop_2 : decode cX10_atTop 2 = .ok (.putfield 100, 3) := by decide +kernel
theorem dX10_atTop_5 : decode cX10_atTop 5 = .ok (.aload_n 0, 1) := by decide +kernel
theorem dX10_atTop_6 : decode cX10_atTop 6 = .ok (.iload_n 1, 1) := by decide +kernel
theorem dX10_atTop_7 : decode cX10_atTop 7 = .ok (.invokevirtual 371, 3) := by decide +kernel
theorem dX10_atTop_10 : decode cX10_atTop 10 = .ok (.ifCond .ne 11, 3) := by decide +kernel
theorem dX10_atTop_21 : decode cX10_atTop 21 = .ok (.iconst 0, 1) := by decide +kernel
theorem dX10_atTop_22 : decode cX10_atTop 22 = .ok (.ireturn, 1) := by decide +kernel
theorem dX10_walk_0 : decode cX10_walk 0 = .ok (.aload_n 0, 1) := by decide +kernel
theorem dX10_walk_1 : decode cX10_walk 1 = .ok (.iconst 0, 1) := by decide +kernel
theorem dX10_walk_2 : decode cX10_walk 2 = .ok (.putfield 100, 3) := by decide +kernel
theorem dX10_walk_5 : decode cX10_walk 5 = .ok (.aload_n 0, 1) := by decide +kernel
theorem dX10_walk_6 : decode cX10_walk 6 = .ok (.iload_n 1, 1) := by decide +kernel
theorem dX10_walk_7 : decode cX10_walk 7 = .ok (.invokevirtual 371, 3) := by decide +kernel
theorem dX10_walk_10 : decode cX10_walk 10 = .ok (.ifCond .eq 5, 3) := by decide +kernel
theorem dX10_walk_13 : decode cX10_walk 13 = .ok (.iconst 0, 1) := by decide +kernel
theorem dX10_walk_14 : decode cX10_walk 14 = .ok (.ireturn, 1) := by decide +kernel
theorem dX10_reach_0 : decode cX10_reach 0 = .ok (.aload_n 0, 1) := by decide +kernel
theorem dX10_reach_1 : decode cX10_reach 1 = .ok (.iconst 0, 1) := by decide +kernel
theorem dX10_reach_2 : decode cX10_reach 2 = .ok (.putfield 100, 3) := by decide +kernel
theorem dX10_reach_5 : decode cX10_reach 5 = .ok (.aload_n 0, 1) := by decide +kernel
theorem dX10_reach_6 : decode cX10_reach 6 = .ok (.iload_n 1, 1) := by decide +kernel
theorem dX10_reach_7 : decode cX10_reach 7 = .ok (.invokevirtual 371, 3) := by decide +kernel
theorem dX10_reach_10 : decode cX10_reach 10 = .ok (.ifCond .ne 23, 3) := by decide +kernel
theorem dX10_reach_33 : decode cX10_reach 33 = .ok (.iconst 0, 1) := by decide +kernel
theorem dX10_reach_34 : decode cX10_reach 34 = .ok (.ireturn, 1) := by decide +kernel
theorem dX10_reached_0 : decode cX10_reached 0 = .ok (.aload_n 0, 1) := by decide +kernel
theorem dX10_reached_1 : decode cX10_reached 1 = .ok (.iconst 0, 1) := by decide +kernel
theorem dX10_reached_2 : decode cX10_reached 2 = .ok (.putfield 100, 3) := by decide +kernel
theorem dX10_reached_5 : decode cX10_reached 5 = .ok (.aload_n 0, 1) := by decide +kernel
theorem dX10_reached_6 : decode cX10_reached 6 = .ok (.iload_n 1, 1) := by decide +kernel
theorem dX10_reached_7 : decode cX10_reached 7 = .ok (.invokevirtual 371, 3) := by decide +kernel
theorem dX10_reached_10 : decode cX10_reached 10 = .ok (.ifCond .ne 23, 3) := by decide +kernel
theorem dX10_reached_33 : decode cX10_reached 33 = .ok (.iconst 0, 1) := by decide +kernel
theorem dX10_reached_34 : decode cX10_reached 34 = .ok (.ireturn, 1) := by decide +kernel
theorem dX10_meet_0 : decode cX10_meet 0 = .ok (.aload_n 0, 1) := by decide +kernel
theorem dX10_meet_1 : decode cX10_meet 1 = .ok (.iconst 0, 1) := by decide +kernel
theorem dX10_meet_2 : decode cX10_meet 2 = .ok (.putfield 100, 3) := by decide +kernel
theorem dX10_meet_5 : decode cX10_meet 5 = .ok (.aload_n 0, 1) := by decide +kernel
theorem dX10_meet_6 : decode cX10_meet 6 = .ok (.iload_n 1, 1) := by decide +kernel
theorem dX10_meet_7 : decode cX10_meet 7 = .ok (.invokevirtual 371, 3) := by decide +kernel
theorem dX10_meet_10 : decode cX10_meet 10 = .ok (.ifCond .ne 20, 3) := by decide +kernel
theorem dX10_meet_30 : decode cX10_meet 30 = .ok (.iconst 0, 1) := by decide +kernel
theorem dX10_meet_31 : decode cX10_meet 31 = .ok (.ireturn, 1) := by decide +kernel
theorem dX10_operator_0 : decode cX10_operator 0 = .ok (.aload_n 0, 1) := by decide +kernel
theorem dX10_operator_1 : decode cX10_operator 1 = .ok (.iconst 0, 1) := by decide +kernel
theorem dX10_operator_2 : decode cX10_operator 2 = .ok (.putfield 100, 3) := by decide +kernel
theorem dX10_operator_5 : decode cX10_operator 5 = .ok (.aload_n 0, 1) := by decide +kernel
theorem dX10_operator_6 : decode cX10_operator 6 = .ok (.iload_n 1, 1) := by decide +kernel
theorem dX10_operator_7 : decode cX10_operator 7 = .ok (.invokevirtual 386, 3) := by decide +kernel
theorem dX10_operator_10 : decode cX10_operator 10 = .ok (.ifCond .ne 25, 3) := by decide +kernel
theorem dX10_operator_35 : decode cX10_operator 35 = .ok (.iconst 0, 1) := by decide +kernel
theorem dX10_operator_36 : decode cX10_operator 36 = .ok (.ireturn, 1) := by decide +kernel
theorem dX10_about_0 : decode cX10_about 0 = .ok (.aload_n 0, 1) := by decide +kernel
theorem dX10_about_1 : decode cX10_about 1 = .ok (.iconst 0, 1) := by decide +kernel
theorem dX10_about_2 : decode cX10_about 2 = .ok (.putfield 100, 3) := by decide +kernel
theorem dX10_about_5 : decode cX10_about 5 = .ok (.aload_n 0, 1) := by decide +kernel
theorem dX10_about_6 : decode cX10_about 6 = .ok (.iload_n 1, 1) := by decide +kernel
theorem dX10_about_7 : decode cX10_about 7 = .ok (.invokevirtual 371, 3) := by decide +kernel
theorem dX10_about_10 : decode cX10_about 10 = .ok (.ifCond .ne 26, 3) := by decide +kernel
theorem dX10_about_36 : decode cX10_about 36 = .ok (.iconst 0, 1) := by decide +kernel
theorem dX10_about_37 : decode cX10_about 37 = .ok (.ireturn, 1) := by decide +kernel
theorem dX10_order_0 : decode cX10_order 0 = .ok (.aload_n 0, 1) := by decide +kernel
theorem dX10_order_1 : decode cX10_order 1 = .ok (.iconst 0, 1) := by decide +kernel
theorem dX10_order_2 : decode cX10_order 2 = .ok (.putfield 100, 3) := by decide +kernel
theorem dX10_order_5 : decode cX10_order 5 = .ok (.aload_n 0, 1) := by decide +kernel
theorem dX10_order_6 : decode cX10_order 6 = .ok (.iload_n 1, 1) := by decide +kernel
theorem dX10_order_7 : decode cX10_order 7 = .ok (.invokevirtual 371, 3) := by decide +kernel
theorem dX10_order_10 : decode cX10_order 10 = .ok (.ifCond .ne 11, 3) := by decide +kernel
theorem dX10_order_21 : decode cX10_order 21 = .ok (.iconst 0, 1) := by decide +kernel
theorem dX10_order_22 : decode cX10_order 22 = .ok (.ireturn, 1) := by decide +kernel
theorem dX10_rank_0 : decode cX10_rank 0 = .ok (.aload_n 0, 1) := by decide +kernel
theorem dX10_rank_1 : decode cX10_rank 1 = .ok (.iconst 0, 1) := by decide +kernel
theorem dX10_rank_2 : decode cX10_rank 2 = .ok (.putfield 100, 3) := by decide +kernel
theorem dX10_rank_5 : decode cX10_rank 5 = .ok (.iconst 0, 1) := by decide +kernel
theorem dX10_rank_6 : decode cX10_rank 6 = .ok (.istore_n 2, 1) := by decide +kernel
theorem dX10_rank_7 : decode cX10_rank 7 = .ok (.iload_n 2, 1) := by decide +kernel
theorem dX10_rank_8 : decode cX10_rank 8 = .ok (.aload_n 0, 1) := by decide +kernel
theorem dX10_rank_9 : decode cX10_rank 9 = .ok (.getfield 196, 3) := by decide +kernel
theorem dX10_rank_12 : decode cX10_rank 12 = .ok (.if_icmp .ge 72, 3) := by decide +kernel
theorem dX10_rank_84 : decode cX10_rank 84 = .ok (.iconst (-1), 1) := by decide +kernel
theorem dX10_rank_85 : decode cX10_rank 85 = .ok (.ireturn, 1) := by decide +kernel
theorem dX10_normalTerms_0 : decode cX10_normalTerms 0 = .ok (.iconst 0, 1) := by decide +kernel
theorem dX10_normalTerms_1 : decode cX10_normalTerms 1 = .ok (.istore_n 1, 1) := by decide +kernel
theorem dX10_normalTerms_2 : decode cX10_normalTerms 2 = .ok (.iconst 0, 1) := by decide +kernel
theorem dX10_normalTerms_3 : decode cX10_normalTerms 3 = .ok (.istore_n 2, 1) := by decide +kernel
theorem dX10_normalTerms_4 : decode cX10_normalTerms 4 = .ok (.iload_n 2, 1) := by decide +kernel
theorem dX10_normalTerms_5 : decode cX10_normalTerms 5 = .ok (.aload_n 0, 1) := by decide +kernel
theorem dX10_normalTerms_6 : decode cX10_normalTerms 6 = .ok (.getfield 196, 3) := by decide +kernel
theorem dX10_normalTerms_9 : decode cX10_normalTerms 9 = .ok (.if_icmp .ge 49, 3) := by decide +kernel
theorem dX10_normalTerms_58 : decode cX10_normalTerms 58 = .ok (.iload_n 1, 1) := by decide +kernel
theorem dX10_normalTerms_59 : decode cX10_normalTerms 59 = .ok (.ireturn, 1) := by decide +kernel
theorem dX10_greatest_0 : decode cX10_greatest 0 = .ok (.iconst 0, 1) := by decide +kernel
theorem dX10_greatest_1 : decode cX10_greatest 1 = .ok (.istore_n 1, 1) := by decide +kernel
theorem dX10_greatest_2 : decode cX10_greatest 2 = .ok (.iconst 0, 1) := by decide +kernel
theorem dX10_greatest_3 : decode cX10_greatest 3 = .ok (.istore_n 2, 1) := by decide +kernel
theorem dX10_greatest_4 : decode cX10_greatest 4 = .ok (.iload_n 2, 1) := by decide +kernel
theorem dX10_greatest_5 : decode cX10_greatest 5 = .ok (.aload_n 0, 1) := by decide +kernel
theorem dX10_greatest_6 : decode cX10_greatest 6 = .ok (.getfield 196, 3) := by decide +kernel
theorem dX10_greatest_9 : decode cX10_greatest 9 = .ok (.if_icmp .ge 38, 3) := by decide +kernel
theorem dX10_greatest_47 : decode cX10_greatest 47 = .ok (.iload_n 1, 1) := by decide +kernel
theorem dX10_greatest_48 : decode cX10_greatest 48 = .ok (.ireturn, 1) := by decide +kernel
theorem dX10_allMatches_0 : decode cX10_allMatches 0 = .ok (.iconst 0, 1) := by decide +kernel
theorem dX10_allMatches_1 : decode cX10_allMatches 1 = .ok (.istore_n 1, 1) := by decide +kernel
theorem dX10_allMatches_2 : decode cX10_allMatches 2 = .ok (.iconst 0, 1) := by decide +kernel
theorem dX10_allMatches_3 : decode cX10_allMatches 3 = .ok (.istore_n 2, 1) := by decide +kernel
theorem dX10_allMatches_4 : decode cX10_allMatches 4 = .ok (.iload_n 2, 1) := by decide +kernel
theorem dX10_allMatches_5 : decode cX10_allMatches 5 = .ok (.aload_n 0, 1) := by decide +kernel
theorem dX10_allMatches_6 : decode cX10_allMatches 6 = .ok (.getfield 196, 3) := by decide +kernel
theorem dX10_allMatches_9 : decode cX10_allMatches 9 = .ok (.if_icmp .ge 78, 3) := by decide +kernel
theorem dX10_allMatches_87 : decode cX10_allMatches 87 = .ok (.iload_n 1, 1) := by decide +kernel
theorem dX10_allMatches_88 : decode cX10_allMatches 88 = .ok (.ireturn, 1) := by decide +kernel
theorem dX10_count_0 : decode cX10_count 0 = .ok (.aload_n 0, 1) := by decide +kernel
theorem dX10_count_1 : decode cX10_count 1 = .ok (.iconst 0, 1) := by decide +kernel
theorem dX10_count_2 : decode cX10_count 2 = .ok (.putfield 100, 3) := by decide +kernel
theorem dX10_count_5 : decode cX10_count 5 = .ok (.iload_n 1, 1) := by decide +kernel
theorem dX10_count_6 : decode cX10_count 6 = .ok (.tableswitch 95 0 8 #[50, 55, 60, 65, 70, 75, 80, 85, 90], 50) := by decide +kernel
theorem dX10_count_56 : decode cX10_count 56 = .ok (.aload_n 0, 1) := by decide +kernel
theorem dX10_count_57 : decode cX10_count 57 = .ok (.getfield 190, 3) := by decide +kernel
theorem dX10_count_60 : decode cX10_count 60 = .ok (.ireturn, 1) := by decide +kernel
theorem dX10_count_61 : decode cX10_count 61 = .ok (.aload_n 0, 1) := by decide +kernel
theorem dX10_count_62 : decode cX10_count 62 = .ok (.getfield 193, 3) := by decide +kernel
theorem dX10_count_65 : decode cX10_count 65 = .ok (.ireturn, 1) := by decide +kernel
theorem dX10_count_66 : decode cX10_count 66 = .ok (.aload_n 0, 1) := by decide +kernel
theorem dX10_count_67 : decode cX10_count 67 = .ok (.getfield 196, 3) := by decide +kernel
theorem dX10_count_70 : decode cX10_count 70 = .ok (.ireturn, 1) := by decide +kernel
theorem dX10_count_71 : decode cX10_count 71 = .ok (.aload_n 0, 1) := by decide +kernel
theorem dX10_count_72 : decode cX10_count 72 = .ok (.getfield 199, 3) := by decide +kernel
theorem dX10_count_75 : decode cX10_count 75 = .ok (.ireturn, 1) := by decide +kernel
theorem dX10_count_76 : decode cX10_count 76 = .ok (.aload_n 0, 1) := by decide +kernel
theorem dX10_count_77 : decode cX10_count 77 = .ok (.invokevirtual 389, 3) := by decide +kernel
theorem dX10_count_80 : decode cX10_count 80 = .ok (.ireturn, 1) := by decide +kernel
theorem dX10_count_81 : decode cX10_count 81 = .ok (.aload_n 0, 1) := by decide +kernel
theorem dX10_count_82 : decode cX10_count 82 = .ok (.getfield 206, 3) := by decide +kernel
theorem dX10_count_85 : decode cX10_count 85 = .ok (.ireturn, 1) := by decide +kernel
theorem dX10_count_86 : decode cX10_count 86 = .ok (.aload_n 0, 1) := by decide +kernel
theorem dX10_count_87 : decode cX10_count 87 = .ok (.invokevirtual 459, 3) := by decide +kernel
theorem dX10_count_90 : decode cX10_count 90 = .ok (.ireturn, 1) := by decide +kernel
theorem dX10_count_91 : decode cX10_count 91 = .ok (.aload_n 0, 1) := by decide +kernel
theorem dX10_count_92 : decode cX10_count 92 = .ok (.invokevirtual 462, 3) := by decide +kernel
theorem dX10_count_95 : decode cX10_count 95 = .ok (.ireturn, 1) := by decide +kernel
theorem dX10_count_96 : decode cX10_count 96 = .ok (.aload_n 0, 1) := by decide +kernel
theorem dX10_count_97 : decode cX10_count 97 = .ok (.invokevirtual 465, 3) := by decide +kernel
theorem dX10_count_100 : decode cX10_count 100 = .ok (.ireturn, 1) := by decide +kernel
theorem dX10_count_101 : decode cX10_count 101 = .ok (.iconst (-1), 1) := by decide +kernel
theorem dX10_count_102 : decode cX10_count 102 = .ok (.ireturn, 1) := by decide +kernel

