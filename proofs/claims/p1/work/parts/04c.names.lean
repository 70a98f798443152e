set_option maxRecDepth 20000 in
theorem ggX10_step_X10_noTerm : GoodIn wsX10_step wsX10_noTerm := goodIn_r _ [7, 8, 9, 10, 6, 11, 12, 13, 14, 15, 1, 216, 217, 218, 219, 220, 221, 222, 223, 224, 225, 226, 227, 228, 229, 230, 231, 232, 233, 234, 235, 236, 237, 238, 239, 240, 241, 242, 243, 244, 245, 246, 247, 248, 249, 250, 251, 252, 253, 254, 255, 256, 257, 258, 259, 260, 261, 262, 263, 264, 265] rfl (by decide +kernel)
set_option maxRecDepth 20000 in
theorem gX10_step_X10_noTerm : GoodIn wsX10_step (wsV RX10 371 RX10 yX10_noTerm wsX10_noTerm) := goodIn_app (goodIn_of _ (by decide +kernel)) ggX10_step_X10_noTerm
theorem dX10_step_0 : decode cX10_step 0 = .ok (.aload_n 0, 1) := by decide +kernel
theorem dX10_step_1 : decode cX10_step 1 = .ok (.iconst 0, 1) := by decide +kernel
theorem dX10_step_2 : decode cX10_step 2 = .ok (.putfield 100, 3) := by decide +kernel
theorem dX10_step_5 : decode cX10_step 5 = .ok (.aload_n 0, 1) := by decide +kernel
theorem dX10_step_6 : decode cX10_step 6 = .ok (.iload_n 1, 1) := by decide +kernel
theorem dX10_step_7 : decode cX10_step 7 = .ok (.invokevirtual 371, 3) := by decide +kernel
theorem dX10_step_10 : decode cX10_step 10 = .ok (.ifCond .ne 39, 3) := by decide +kernel
theorem dX10_step_49 : decode cX10_step 49 = .ok (.iconst 0, 1) := by decide +kernel
theorem dX10_step_50 : decode cX10_step 50 = .ok (.ireturn, 1) := by decide +kernel
set_option maxRecDepth 20000 in
theorem ggX10_stepAt_X10_noTerm : GoodIn wsX10_stepAt wsX10_noTerm := goodIn_r _ [9, 10, 11, 12, 8, 13, 14, 15, 16, 17, 1, 194, 195, 196, 197, 198, 199, 200, 201, 202, 203, 204, 205, 206, 207, 208, 209, 210, 211, 212, 213, 214, 215, 216, 217, 218, 219, 220, 221, 222, 223, 224, 225, 226, 227, 228, 229, 230, 231, 232, 233, 234, 235, 236, 237, 238, 239, 240, 241, 242, 243] rfl (by decide +kernel)
set_option maxRecDepth 20000 in
theorem gX10_stepAt_X10_noTerm : GoodIn wsX10_stepAt (wsV RX10 371 RX10 yX10_noTerm wsX10_noTerm) := goodIn_app (goodIn_of _ (by decide +kernel)) ggX10_stepAt_X10_noTerm
theorem dX10_stepAt_0 : decode cX10_stepAt 0 = .ok (.aload_n 0, 1) := by decide +kernel
theorem dX10_stepAt_1 : decode cX10_stepAt 1 = .ok (.iconst 0, 1) := by decide +kernel
theorem dX10_stepAt_2 : decode cX10_stepAt 2 = .ok (.putfield 100, 3) := by decide +kernel
theorem dX10_stepAt_5 : decode cX10_stepAt 5 = .ok (.aload_n 0, 1) := by decide +kernel
theorem dX10_stepAt_6 : decode cX10_stepAt 6 = .ok (.iload_n 1, 1) := by decide +kernel
theorem dX10_stepAt_7 : decode cX10_stepAt 7 = .ok (.invokevirtual 371, 3) := by decide +kernel
theorem dX10_stepAt_10 : decode cX10_stepAt 10 = .ok (.ifCond .ne 48, 3) := by decide +kernel
theorem dX10_stepAt_58 : decode cX10_stepAt 58 = .ok (.iconst 0, 1) := by decide +kernel
theorem dX10_stepAt_59 : decode cX10_stepAt 59 = .ok (.ireturn, 1) := by decide +kernel
set_option maxRecDepth 20000 in
theorem ggX10_atTop_X10_noTerm : GoodIn wsX10_atTop wsX10_noTerm := goodIn_r _ [7, 8, 9, 10, 6, 11, 12, 13, 14, 15, 1, 189, 190, 191, 192, 193, 194, 195, 196, 197, 198, 199, 200, 201, 202, 203, 204, 205, 206, 207, 208, 209, 210, 211, 212, 213, 214, 215, 216, 217, 218, 219, 220, 221, 222, 223, 224, 225, 226, 227, 228, 229, 230, 231, 232, 233, 234, 235, 236, 237, 238] rfl (by decide +kernel)
set_option maxRecDepth 20000 in
theorem gX10_atTop_X10_noTerm : GoodIn wsX10_atTop (wsV RX10 371 RX10 yX10_noTerm wsX10_noTerm) := goodIn_app (goodIn_of _ (by decide +kernel)) ggX10_atTop_X10_noTerm
theorem dX10_atTop_0 : decode cX10_atTop 0 = .ok (.aload_n 0, 1) := by decide +kernel
theorem dX10_atTop_1 : decode cX10_atTop 1 = .ok (.iconst 0, 1) := by decide +kernel
theorem dX10_atTop_2 : decode cX10_atTop 2 = .ok (.putfield 100, 3) := by decide +kernel
theorem dX10_atTop_5 : decode cX10_atTop 5 = .ok (.aload_n 0, 1) := by decide +kernel
theorem dX10_atTop_6 : decode cX10_atTop 6 = .ok (.iload_n 1, 1) := by decide +kernel
theorem dX10_atTop_7 : decode cX10_atTop 7 = .ok (.invokevirtual 371, 3) := by decide +kernel
theorem dX10_atTop_10 : decode cX10_atTop 10 = .ok (.ifCond .ne 11, 3) := by decide +kernel
theorem dX10_atTop_21 : decode cX10_atTop 21 = .ok (.iconst 0, 1) := by decide +kernel
theorem dX10_atTop_22 : decode cX10_atTop 22 = .ok (.ireturn, 1) := by decide +kernel
set_option maxRecDepth 20000 in
theorem ggX10_walk_X10_noTerm : GoodIn wsX10_walk wsX10_noTerm := goodIn_r _ [8, 9, 10, 11, 7, 12, 13, 14, 15, 16, 1, 212, 213, 214, 215, 216, 217, 218, 219, 220, 221, 222, 223, 224, 225, 226, 227, 228, 229, 230, 231, 232, 233, 234, 235, 236, 237, 238, 239, 240, 241, 242, 243, 244, 245, 246, 247, 248, 249, 250, 251, 252, 253, 254, 255, 256, 257, 258, 259, 260, 261] rfl (by decide +kernel)
set_option maxRecDepth 20000 in
theorem gX10_walk_X10_noTerm : GoodIn wsX10_walk (wsV RX10 371 RX10 yX10_noTerm wsX10_noTerm) := goodIn_app (goodIn_of _ (by decide +kernel)) ggX10_walk_X10_noTerm
theorem dX10_walk_0 : decode cX10_walk 0 = .ok (.aload_n 0, 1) := by decide +kernel
theorem dX10_walk_1 : decode cX10_walk 1 = .ok (.iconst 0, 1) := by decide +kernel
theorem dX10_walk_2 : decode cX10_walk 2 = .ok (.putfield 100, 3) := by decide +kernel
theorem dX10_walk_5 : decode cX10_walk 5 = .ok (.aload_n 0, 1) := by decide +kernel
theorem dX10_walk_6 : decode cX10_walk 6 = .ok (.iload_n 1, 1) := by decide +kernel
theorem dX10_walk_7 : decode cX10_walk 7 = .ok (.invokevirtual 371, 3) := by decide +kernel
theorem dX10_walk_10 : decode cX10_walk 10 = .ok (.ifCond .eq 5, 3) := by decide +kernel
theorem dX10_walk_13 : decode cX10_walk 13 = .ok (.iconst 0, 1) := by decide +kernel
theorem dX10_walk_14 : decode cX10_walk 14 = .ok (.ireturn, 1) := by decide +kernel
set_option maxRecDepth 20000 in
theorem ggX10_reach_X10_noTerm : GoodIn wsX10_reach wsX10_noTerm := goodIn_r _ [7, 8, 9, 10, 6, 11, 12, 13, 14, 15, 1, 235, 236, 237, 238, 239, 240, 241, 242, 243, 244, 245, 246, 247, 248, 249, 250, 251, 252, 253, 254, 255, 256, 257, 258, 259, 260, 261, 262, 263, 264, 265, 266, 267, 268, 269, 270, 271, 272, 273, 274, 275, 276, 277, 278, 279, 280, 281, 282, 283, 284] rfl (by decide +kernel)
set_option maxRecDepth 20000 in
theorem gX10_reach_X10_noTerm : GoodIn wsX10_reach (wsV RX10 371 RX10 yX10_noTerm wsX10_noTerm) := goodIn_app (goodIn_of _ (by decide +kernel)) ggX10_reach_X10_noTerm
theorem dX10_reach_0 : decode cX10_reach 0 = .ok (.aload_n 0, 1) := by decide +kernel
theorem dX10_reach_1 : decode cX10_reach 1 = .ok (.iconst 0, 1) := by decide +kernel
theorem dX10_reach_2 : decode cX10_reach 2 = .ok (.putfield 100, 3) := by decide +kernel
theorem dX10_reach_5 : decode cX10_reach 5 = .ok (.aload_n 0, 1) := by decide +kernel
theorem dX10_reach_6 : decode cX10_reach 6 = .ok (.iload_n 1, 1) := by decide +kernel
theorem dX10_reach_7 : decode cX10_reach 7 = .ok (.invokevirtual 371, 3) := by decide +kernel
theorem dX10_reach_10 : decode cX10_reach 10 = .ok (.ifCond .ne 23, 3) := by decide +kernel
theorem dX10_reach_33 : decode cX10_reach 33 = .ok (.iconst 0, 1) := by decide +kernel
theorem dX10_reach_34 : decode cX10_reach 34 = .ok (.ireturn, 1) := by decide +kernel
set_option maxRecDepth 20000 in
theorem ggX10_reached_X10_noTerm : GoodIn wsX10_reached wsX10_noTerm := goodIn_r _ [8, 9, 10, 11, 7, 12, 13, 14, 15, 16, 1, 253, 254, 255, 256, 257, 258, 259, 260, 261, 262, 263, 264, 265, 266, 267, 268, 269, 270, 271, 272, 273, 274, 275, 276, 277, 278, 279, 280, 281, 282, 283, 284, 285, 286, 287, 288, 289, 290, 291, 292, 293, 294, 295, 296, 297, 298, 299, 300, 301, 302] rfl (by decide +kernel)
set_option maxRecDepth 20000 in
theorem gX10_reached_X10_noTerm : GoodIn wsX10_reached (wsV RX10 371 RX10 yX10_noTerm wsX10_noTerm) := goodIn_app (goodIn_of _ (by decide +kernel)) ggX10_reached_X10_noTerm
theorem dX10_reached_0 : decode cX10_reached 0 = .ok (.aload_n 0, 1) := by decide +kernel
theorem dX10_reached_1 : decode cX10_reached 1 = .ok (.iconst 0, 1) := by decide +kernel
theorem dX10_reached_2 : decode cX10_reached 2 = .ok (.putfield 100, 3) := by decide +kernel
theorem dX10_reached_5 : decode cX10_reached 5 = .ok (.aload_n 0, 1) := by decide +kernel
theorem dX10_reached_6 : decode cX10_reached 6 = .ok (.iload_n 1, 1) := by decide +kernel
theorem dX10_reached_7 : decode cX10_reached 7 = .ok (.invokevirtual 371, 3) := by decide +kernel
theorem dX10_reached_10 : decode cX10_reached 10 = .ok (.ifCond .ne 23, 3) := by decide +kernel
theorem dX10_reached_33 : decode cX10_reached 33 = .ok (.iconst 0, 1) := by decide +kernel
theorem dX10_reached_34 : decode cX10_reached 34 = .ok (.ireturn, 1) := by decide +kernel
set_option maxRecDepth 20000 in
theorem ggX10_meet_X10_noTerm : GoodIn wsX10_meet wsX10_noTerm := goodIn_r _ [6, 7, 8, 9, 5, 10, 11, 12, 13, 14, 1, 229, 230, 231, 232, 233, 234, 235, 236, 237, 238, 239, 240, 241, 242, 243, 244, 245, 246, 247, 248, 249, 250, 251, 252, 253, 254, 255, 256, 257, 258, 259, 260, 261, 262, 263, 264, 265, 266, 267, 268, 269, 270, 271, 272, 273, 274, 275, 276, 277, 278] rfl (by decide +kernel)
set_option maxRecDepth 20000 in
theorem gX10_meet_X10_noTerm : GoodIn wsX10_meet (wsV RX10 371 RX10 yX10_noTerm wsX10_noTerm) := goodIn_app (goodIn_of _ (by decide +kernel)) ggX10_meet_X10_noTerm
theorem dX10_meet_0 : decode cX10_meet 0 = .ok (.aload_n 0, 1) := by decide +kernel
theorem dX10_meet_1 : decode cX10_meet 1 = .ok (.iconst 0, 1) := by decide +kernel
theorem dX10_meet_2 : decode cX10_meet 2 = .ok (.putfield 100, 3) := by decide +kernel
theorem dX10_meet_5 : decode cX10_meet 5 = .ok (.aload_n 0, 1) := by decide +kernel
theorem dX10_meet_6 : decode cX10_meet 6 = .ok (.iload_n 1, 1) := by decide +kernel
theorem dX10_meet_7 : decode cX10_meet 7 = .ok (.invokevirtual 371, 3) := by decide +kernel
theorem dX10_meet_10 : decode cX10_meet 10 = .ok (.ifCond .ne 20, 3) := by decide +kernel
theorem dX10_meet_30 : decode cX10_meet 30 = .ok (.iconst 0, 1) := by decide +kernel
theorem dX10_meet_31 : decode cX10_meet 31 = .ok (.ireturn, 1) := by decide +kernel
set_option maxRecDepth 20000 in
theorem ggX10_operator_X10_noOperator : GoodIn wsX10_operator wsX10_noOperator := goodIn_r _ [9, 10, 11, 12, 8, 13, 14, 15, 16, 17, 1, 58, 59, 60, 61, 62, 63, 64, 65, 66, 67, 68, 69, 70, 71, 72, 73, 74, 75, 76, 77, 78, 79, 80, 81, 82, 83, 84, 85, 86, 87, 88, 89, 90, 91, 92, 93, 94, 95, 96, 97, 98, 99, 100, 101, 102, 103, 104, 105, 106, 107] rfl (by decide +kernel)
set_option maxRecDepth 20000 in
theorem gX10_operator_X10_noOperator : GoodIn wsX10_operator (wsV RX10 386 RX10 yX10_noOperator wsX10_noOperator) := goodIn_app (goodIn_of _ (by decide +kernel)) ggX10_operator_X10_noOperator
theorem dX10_operator_0 : decode cX10_operator 0 = .ok (.aload_n 0, 1) := by decide +kernel
theorem dX10_operator_1 : decode cX10_operator 1 = .ok (.iconst 0, 1) := by decide +kernel
theorem dX10_operator_2 : decode cX10_operator 2 = .ok (.putfield 100, 3) := by decide +kernel
theorem dX10_operator_5 : decode cX10_operator 5 = .ok (.aload_n 0, 1) := by decide +kernel
theorem dX10_operator_6 : decode cX10_operator 6 = .ok (.iload_n 1, 1) := by decide +kernel
theorem dX10_operator_7 : decode cX10_operator 7 = .ok (.invokevirtual 386, 3) := by decide +kernel
theorem dX10_operator_10 : decode cX10_operator 10 = .ok (.ifCond .ne 25, 3) := by decide +kernel
theorem dX10_operator_35 : decode cX10_operator 35 = .ok (.iconst 0, 1) := by decide +kernel
theorem dX10_operator_36 : decode cX10_operator 36 = .ok (.ireturn, 1) := by decide +kernel
set_option maxRecDepth 20000 in
theorem ggX10_about_X10_noTerm : GoodIn wsX10_about wsX10_noTerm := goodIn_r _ [7, 8, 9, 10, 6, 11, 12, 13, 14, 15, 1, 87, 88, 89, 90, 91, 92, 93, 94, 95, 96, 97, 98, 99, 100, 101, 102, 103, 104, 105, 106, 107, 108, 109, 110, 111, 112, 113, 114, 115, 116, 117, 118, 119, 120, 121, 122, 123, 124, 125, 126, 127, 128, 129, 130, 131, 132, 133, 134, 135, 136] rfl (by decide +kernel)
set_option maxRecDepth 20000 in
theorem gX10_about_X10_noTerm : GoodIn wsX10_about (wsV RX10 371 RX10 yX10_noTerm wsX10_noTerm) := goodIn_app (goodIn_of _ (by decide +kernel)) ggX10_about_X10_noTerm
theorem dX10_about_0 : decode cX10_about 0 = .ok (.aload_n 0, 1) := by decide +kernel
theorem dX10_about_1 : decode cX10_about 1 = .ok (.iconst 0, 1) := by decide +kernel
theorem dX10_about_2 : decode cX10_about 2 = .ok (.putfield 100, 3) := by decide +kernel
theorem dX10_about_5 : decode cX10_about 5 = .ok (.aload_n 0, 1) := by decide +kernel
theorem dX10_about_6 : decode cX10_about 6 = .ok (.iload_n 1, 1) := by decide +kernel
theorem dX10_about_7 : decode cX10_about 7 = .ok (.invokevirtual 371, 3) := by decide +kernel
theorem dX10_about_10 : decode cX10_about 10 = .ok (.ifCond .ne 26, 3) := by decide +kernel
theorem dX10_about_36 : decode cX10_about 36 = .ok (.iconst 0, 1) := by decide +kernel
theorem dX10_about_37 : decode cX10_about 37 = .ok (.ireturn, 1) := by decide +kernel
set_option maxRecDepth 20000 in
theorem ggX10_order_X10_noTerm : GoodIn wsX10_order wsX10_noTerm := goodIn_r _ [6, 7, 8, 9, 5, 10, 11, 12, 13, 14, 1, 43, 44, 45, 46, 47, 48, 49, 50, 51, 52, 53, 54, 55, 56, 57, 58, 59, 60, 61, 62, 63, 64, 65, 66, 67, 68, 69, 70, 71, 72, 73, 74, 75, 76, 77, 78, 79, 80, 81, 82, 83, 84, 85, 86, 87, 88, 89, 90, 91, 92] rfl (by decide +kernel)
set_option maxRecDepth 20000 in
theorem gX10_order_X10_noTerm : GoodIn wsX10_order (wsV RX10 371 RX10 yX10_noTerm wsX10_noTerm) := goodIn_app (goodIn_of _ (by decide +kernel)) ggX10_order_X10_noTerm
theorem dX10_order_0 : decode cX10_order 0 = .ok (.aload_n 0, 1) := by decide +kernel
theorem dX10_order_1 : decode cX10_order 1 = .ok (.iconst 0, 1) := by decide +kernel
theorem dX10_order_2 : decode cX10_order 2 = .ok (.putfield 100, 3) := by decide +kernel
theorem dX10_order_5 : decode cX10_order 5 = .ok (.aload_n 0, 1) := by decide +kernel
theorem dX10_order_6 : decode cX10_order 6 = .ok (.iload_n 1, 1) := by decide +kernel
theorem dX10_order_7 : decode cX10_order 7 = .ok (.invokevirtual 371, 3) := by decide +kernel
theorem dX10_order_10 : decode cX10_order 10 = .ok (.ifCond .ne 11, 3) := by decide +kernel
theorem dX10_order_21 : decode cX10_order 21 = .ok (.iconst 0, 1) := by decide +kernel
theorem dX10_order_22 : decode cX10_order 22 = .ok (.ireturn, 1) := by decide +kernel
theorem dX10_rank_0 : decode cX10_rank 0 = .ok (.aload_n 0, 1) := by decide +kernel
theorem dX10_rank_1 : decode cX10_rank 1 = .ok (.iconst 0, 1) := by decide +kernel
theorem dX10_rank_2 : decode cX10_rank 2 = .ok (.putfield 100, 3) := by decide +kernel
theorem dX10_rank_5 : decode cX10_rank 5 = .ok (.iconst 0, 1) := by decide +kernel
theorem dX10_rank_6 : decode cX10_rank 6 = .ok (.istore_n 2, 1) := by decide +kernel
theorem dX10_rank_7 : decode cX10_rank 7 = .ok (.iload_n 2, 1) := by decide +kernel
theorem dX10_rank_8 : decode cX10_rank 8 = .ok (.aload_n 0, 1) := by decide +kernel
theorem dX10_rank_9 : decode cX10_rank 9 = .ok (.getfield 196, 3) := by decide +kernel
theorem dX10_rank_12 : decode cX10_rank 12 = .ok (.if_icmp .ge 72, 3) := by decide +kernel
theorem dX10_rank_84 : decode cX10_rank 84 = .ok (.iconst (-1), 1) := by decide +kernel
theorem dX10_rank_85 : decode cX10_rank 85 = .ok (.ireturn, 1) := by decide +kernel
theorem dX10_normalTerms_0 : decode cX10_normalTerms 0 = .ok (.iconst 0, 1) := by decide +kernel
theorem dX10_normalTerms_1 : decode cX10_normalTerms 1 = .ok (.istore_n 1, 1) := by decide +kernel
theorem dX10_normalTerms_2 : decode cX10_normalTerms 2 = .ok (.iconst 0, 1) := by decide +kernel
theorem dX10_normalTerms_3 : decode cX10_normalTerms 3 = .ok (.istore_n 2, 1) := by decide +kernel
theorem dX10_normalTerms_4 : decode cX10_normalTerms 4 = .ok (.iload_n 2, 1) := by decide +kernel
theorem dX10_normalTerms_5 : decode cX10_normalTerms 5 = .ok (.aload_n 0, 1) := by decide +kernel
theorem dX10_normalTerms_6 : decode cX10_normalTerms 6 = .ok (.getfield 196, 3) := by decide +kernel
theorem dX10_normalTerms_9 : decode cX10_normalTerms 9 = .ok (.if_icmp .ge 49, 3) := by decide +kernel
theorem dX10_normalTerms_58 : decode cX10_normalTerms 58 = .ok (.iload_n 1, 1) := by decide +kernel
theorem dX10_normalTerms_59 : decode cX10_normalTerms 59 = .ok (.ireturn, 1) := by decide +kernel
theorem dX10_greatest_0 : decode cX10_greatest 0 = .ok (.iconst 0, 1) := by decide +kernel
theorem dX10_greatest_1 : decode cX10_greatest 1 = .ok (.istore_n 1, 1) := by decide +kernel
theorem dX10_greatest_2 : decode cX10_greatest 2 = .ok (.iconst 0, 1) := by decide +kernel
theorem dX10_greatest_3 : decode cX10_greatest 3 = .ok (.istore_n 2, 1) := by decide +kernel
theorem dX10_greatest_4 : decode cX10_greatest 4 = .ok (.iload_n 2, 1) := by decide +kernel
theorem dX10_greatest_5 : decode cX10_greatest 5 = .ok (.aload_n 0, 1) := by decide +kernel
theorem dX10_greatest_6 : decode cX10_greatest 6 = .ok (.getfield 196, 3) := by decide +kernel
theorem dX10_greatest_9 : decode cX10_greatest 9 = .ok (.if_icmp .ge 38, 3) := by decide +kernel
theorem dX10_greatest_47 : decode cX10_greatest 47 = .ok (.iload_n 1, 1) := by decide +kernel
theorem dX10_greatest_48 : decode cX10_greatest 48 = .ok (.ireturn, 1) := by decide +kernel
theorem dX10_allMatches_0 : decode cX10_allMatches 0 = .ok (.iconst 0, 1) := by decide +kernel
theorem dX10_allMatches_1 : decode cX10_allMatches 1 = .ok (.istore_n 1, 1) := by decide +kernel
theorem dX10_allMatches_2 : decode cX10_allMatches 2 = .ok (.iconst 0, 1) := by decide +kernel
theorem dX10_allMatches_3 : decode cX10_allMatches 3 = .ok (.istore_n 2, 1) := by decide +kernel
theorem dX10_allMatches_4 : decode cX10_allMatches 4 = .ok (.iload_n 2, 1) := by decide +kernel
theorem dX10_allMatches_5 : decode cX10_allMatches 5 = .ok (.aload_n 0, 1) := by decide +kernel
theorem dX10_allMatches_6 : decode cX10_allMatches 6 = .ok (.getfield 196, 3) := by decide +kernel
theorem dX10_allMatches_9 : decode cX10_allMatches 9 = .ok (.if_icmp .ge 78, 3) := by decide +kernel
theorem dX10_allMatches_87 : decode cX10_allMatches 87 = .ok (.iload_n 1, 1) := by decide +kernel
theorem dX10_allMatches_88 : decode cX10_allMatches 88 = .ok (.ireturn, 1) := by decide +kernel
set_option maxRecDepth 20000 in
theorem ggX10_count_X10_rulesOn : GoodIn wsX10_count wsX10_rulesOn := goodIn_r _ [11, 12, 5, 190, 191, 192, 193, 194, 195, 196, 197, 198, 199, 200, 201, 202, 203, 204, 205, 206, 207, 208, 209, 210, 211, 212, 213, 214, 215, 216, 217, 218, 219, 220, 221, 222, 223, 224, 225, 226, 227, 228, 229, 230, 231, 232, 233, 234, 235, 236, 237, 238, 239] rfl (by decide +kernel)
set_option maxRecDepth 20000 in
theorem gX10_count_X10_rulesOn : GoodIn wsX10_count (wsV RX10 389 RX10 yX10_rulesOn wsX10_rulesOn) := goodIn_app (goodIn_of _ (by decide +kernel)) ggX10_count_X10_rulesOn
set_option maxRecDepth 20000 in
theorem ggX10_count_X10_normalTerms : GoodIn wsX10_count wsX10_normalTerms := goodIn_r _ [16, 4, 17, 18, 19, 20, 21, 10, 22, 23, 24, 25, 26, 27, 28, 29, 30, 31, 32, 33, 34, 35, 36, 37, 7, 8, 9, 11, 12, 5, 38, 39, 40, 41, 42, 43, 44, 45, 46, 47, 48, 49, 50, 51, 52, 53, 54, 55, 56, 57, 58, 59, 60, 61, 62, 63, 64, 65, 66, 67, 68, 69, 70, 71, 72, 73, 74, 75, 76, 77, 78, 79, 80, 81, 82, 83, 84, 85, 86, 87, 88, 89, 90, 91, 92, 93, 94, 95, 96, 97, 98, 99, 100, 101, 102, 103, 104, 105, 106, 107, 108, 109, 110, 111, 112, 113, 114, 115, 116, 117, 118, 119, 120, 121, 122, 123, 124, 125, 126, 127, 128, 129, 130, 131, 132, 133, 134, 135, 136, 137, 138, 139, 140, 141, 142, 143, 144, 145, 146, 147, 148, 149, 150, 151, 152, 153, 154, 155, 156, 157, 158, 159, 160, 161, 162, 163, 164, 165, 166, 167, 168, 169, 170, 171, 172, 173, 174, 175, 176, 177, 178, 179, 180, 181, 190, 191, 192, 193, 194, 195, 196, 197, 198, 199, 200, 201, 202, 203, 204, 205, 206, 207, 208, 209, 210, 211, 212, 213, 214, 215, 216, 217, 218, 219, 220, 221, 222, 223, 224, 225, 226, 227, 228, 229, 230, 231, 232, 233, 234, 235, 236, 237, 238, 239] rfl (by decide +kernel)
set_option maxRecDepth 20000 in
theorem gX10_count_X10_normalTerms : GoodIn wsX10_count (wsV RX10 459 RX10 yX10_normalTerms wsX10_normalTerms) := goodIn_app (goodIn_of _ (by decide +kernel)) ggX10_count_X10_normalTerms
set_option maxRecDepth 20000 in
theorem ggX10_count_X10_greatest : GoodIn wsX10_count wsX10_greatest := goodIn_r _ [185, 4, 19, 20, 21, 10, 22, 23, 17, 24, 25, 26, 27, 28, 29, 30, 31, 32, 33, 34, 35, 36, 37, 44, 45, 46, 47, 190, 191, 192, 193, 194, 195, 196, 197, 198, 199, 200, 201, 202, 203, 204, 205, 206, 207, 208, 209, 210, 211, 212, 213, 214, 215, 216, 217, 218, 219, 220, 221, 222, 223, 224, 225, 226, 227, 228, 229, 230, 231, 232, 233, 234, 235, 236, 237, 238, 239] rfl (by decide +kernel)
set_option maxRecDepth 20000 in
theorem gX10_count_X10_greatest : GoodIn wsX10_count (wsV RX10 462 RX10 yX10_greatest wsX10_greatest) := goodIn_app (goodIn_of _ (by decide +kernel)) ggX10_count_X10_greatest
set_option maxRecDepth 20000 in
theorem ggX10_count_X10_allMatches : GoodIn wsX10_count wsX10_allMatches := goodIn_r _ [189, 4, 5, 17, 59, 7, 8, 9, 10, 11, 12, 48, 49, 50, 19, 20, 21, 22, 23, 24, 25, 26, 27, 28, 29, 30, 31, 32, 33, 34, 35, 36, 37, 51, 52, 53, 54, 55, 56, 57, 58, 60, 61, 62, 63, 64, 65, 66, 44, 45, 46, 47, 67, 68, 69, 70, 71, 72, 73, 74, 75, 76, 42, 77, 78, 79, 80, 81, 82, 83, 84, 85, 86, 87, 88, 89, 90, 91, 92, 93, 94, 95, 96, 97, 98, 99, 100, 101, 102, 103, 104, 105, 43, 106, 107, 108, 109, 110, 111, 112, 113, 114, 115, 116, 117, 118, 119, 120, 121, 122, 123, 124, 125, 126, 127, 128, 129, 130, 131, 132, 133, 134, 135, 136, 137, 190, 191, 192, 193, 194, 195, 196, 197, 198, 199, 200, 201, 202, 203, 204, 205, 206, 207, 208, 209, 210, 211, 212, 213, 214, 215, 216, 217, 218, 219, 220, 221, 222, 223, 224, 225, 226, 227, 228, 229, 230, 231, 232, 233, 234, 235, 236, 237, 238, 239] rfl (by decide +kernel)
set_option maxRecDepth 20000 in
theorem gX10_count_X10_allMatches : GoodIn wsX10_count (wsV RX10 465 RX10 yX10_allMatches wsX10_allMatches) := goodIn_app (goodIn_of _ (by decide +kernel)) ggX10_count_X10_allMatches
theorem dX10_count_0 : decode cX10_count 0 = .ok (.aload_n 0, 1) := by decide +kernel
theorem dX10_count_1 : decode cX10_count 1 = .ok (.iconst 0, 1) := by decide +kernel
theorem dX10_count_2 : decode cX10_count 2 = .ok (.putfield 100, 3) := by decide +kernel
theorem dX10_count_5 : decode cX10_count 5 = .ok (.iload_n 1, 1) := by decide +kernel
theorem dX10_count_6 : decode cX10_count 6 = .ok (.tableswitch 95 0 8 #[50, 55, 60, 65, 70, 75, 80, 85, 90], 50) := by decide +kernel
theorem dX10_count_56 : decode cX10_count 56 = .ok (.aload_n 0, 1) := by decide +kernel
theorem dX10_count_57 : decode cX10_count 57 = .ok (.getfield 190, 3) := by decide +kernel
theorem dX10_count_60 : decode cX10_count 60 = .ok (.ireturn, 1) := by decide +kernel
theorem dX10_count_61 : decode cX10_count 61 = .ok (.aload_n 0, 1) := by decide +kernel
theorem dX10_count_62 : decode cX10_count 62 = .ok (.getfield 193, 3) := by decide +kernel
theorem dX10_count_65 : decode cX10_count 65 = .ok (.ireturn, 1) := by decide +kernel
theorem dX10_count_66 : decode cX10_count 66 = .ok (.aload_n 0, 1) := by decide +kernel
theorem dX10_count_67 : decode cX10_count 67 = .ok (.getfield 196, 3) := by decide +kernel
theorem dX10_count_70 : decode cX10_count 70 = .ok (.ireturn, 1) := by decide +kernel
theorem dX10_count_71 : decode cX10_count 71 = .ok (.aload_n 0, 1) := by decide +kernel
theorem dX10_count_72 : decode cX10_count 72 = .ok (.getfield 199, 3) := by decide +kernel
theorem dX10_count_75 : decode cX10_count 75 = .ok (.ireturn, 1) := by decide +kernel
theorem dX10_count_76 : decode cX10_count 76 = .ok (.aload_n 0, 1) := by decide +kernel
theorem dX10_count_77 : decode cX10_count 77 = .ok (.invokevirtual 389, 3) := by decide +kernel
theorem dX10_count_80 : decode cX10_count 80 = .ok (.ireturn, 1) := by decide +kernel
theorem dX10_count_81 : decode cX10_count 81 = .ok (.aload_n 0, 1) := by decide +kernel
theorem dX10_count_82 : decode cX10_count 82 = .ok (.getfield 206, 3) := by decide +kernel
theorem dX10_count_85 : decode cX10_count 85 = .ok (.ireturn, 1) := by decide +kernel
theorem dX10_count_86 : decode cX10_count 86 = .ok (.aload_n 0, 1) := by decide +kernel
theorem dX10_count_87 : decode cX10_count 87 = .ok (.invokevirtual 459, 3) := by decide +kernel
theorem dX10_count_90 : decode cX10_count 90 = .ok (.ireturn, 1) := by decide +kernel
theorem dX10_count_91 : decode cX10_count 91 = .ok (.aload_n 0, 1) := by decide +kernel
theorem dX10_count_92 : decode cX10_count 92 = .ok (.invokevirtual 462, 3) := by decide +kernel
theorem dX10_count_95 : decode cX10_count 95 = .ok (.ireturn, 1) := by decide +kernel
theorem dX10_count_96 : decode cX10_count 96 = .ok (.aload_n 0, 1) := by decide +kernel
theorem dX10_count_97 : decode cX10_count 97 = .ok (.invokevirtual 465, 3) := by decide +kernel
theorem dX10_count_100 : decode cX10_count 100 = .ok (.ireturn, 1) := by decide +kernel
theorem dX10_count_101 : decode cX10_count 101 = .ok (.iconst (-1), 1) := by decide +kernel
theorem dX10_count_102 : decode cX10_count 102 = .ok (.ireturn, 1) := by decide +kernel

