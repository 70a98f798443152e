theorem dX9_order_16 : decode cX9_order 16 = .ok (.getfield 49, 3) := by decide +kernel
theorem dX9_order_19 : decode cX9_order 19 = .ok (.iload_n 2, 1) := by decide +kernel
theorem dX9_order_20 : decode cX9_order 20 = .ok (.invokevirtual 262, 3) := by decide +kernel
theorem dX9_order_23 : decode cX9_order 23 = .ok (.ireturn, 1) := by decide +kernel
theorem dX9_rank_0 : decode cX9_rank 0 = .ok (.aload_n 0, 1) := by decide +kernel
theorem dX9_rank_1 : decode cX9_rank 1 = .ok (.getfield 49, 3) := by decide +kernel
theorem dX9_rank_4 : decode cX9_rank 4 = .ok (.iload_n 1, 1) := by decide +kernel
theorem dX9_rank_5 : decode cX9_rank 5 = .ok (.ldc2_w 266, 3) := by decide +kernel
theorem dX9_rank_8 : decode cX9_rank 8 = .ok (.invokevirtual 268, 3) := by decide +kernel
theorem dX9_rank_11 : decode cX9_rank 11 = .ok (.ireturn, 1) := by decide +kernel
theorem dX9_show_0 : decode cX9_show 0 = .ok (.aload_n 0, 1) := by decide +kernel
theorem dX9_show_1 : decode cX9_show 1 = .ok (.iload_n 1, 1) := by decide +kernel
theorem dX9_show_2 : decode cX9_show 2 = .ok (.invokevirtual 227, 3) := by decide +kernel
theorem dX9_show_5 : decode cX9_show 5 = .ok (.aload_n 0, 1) := by decide +kernel
theorem dX9_show_6 : decode cX9_show 6 = .ok (.getfield 62, 3) := by decide +kernel
theorem dX9_show_9 : decode cX9_show 9 = .ok (.aload_n 0, 1) := by decide +kernel
theorem dX9_show_10 : decode cX9_show 10 = .ok (.getfield 49, 3) := by decide +kernel
theorem dX9_show_13 : decode cX9_show 13 = .ok (.iload_n 1, 1) := by decide +kernel
theorem dX9_show_14 : decode cX9_show 14 = .ok (.invokevirtual 272, 3) := by decide +kernel
theorem dX9_show_17 : decode cX9_show 17 = .ok (.ireturn, 1) := by decide +kernel
theorem dX9_place_0 : decode cX9_place 0 = .ok (.aload_n 0, 1) := by decide +kernel
theorem dX9_place_1 : decode cX9_place 1 = .ok (.iload_n 1, 1) := by decide +kernel
theorem dX9_place_2 : decode cX9_place 2 = .ok (.invokevirtual 227, 3) := by decide +kernel
theorem dX9_place_5 : decode cX9_place 5 = .ok (.iload_n 2, 1) := by decide +kernel
theorem dX9_place_6 : decode cX9_place 6 = .ok (.ifCond .lt 15, 3) := by decide +kernel
theorem dX9_place_9 : decode cX9_place 9 = .ok (.iload_n 2, 1) := by decide +kernel
theorem dX9_place_10 : decode cX9_place 10 = .ok (.aload_n 0, 1) := by decide +kernel
theorem dX9_place_11 : decode cX9_place 11 = .ok (.getfield 49, 3) := by decide +kernel
theorem dX9_place_14 : decode cX9_place 14 = .ok (.iload_n 1, 1) := by decide +kernel
theorem dX9_place_15 : decode cX9_place 15 = .ok (.invokevirtual 240, 3) := by decide +kernel
theorem dX9_place_18 : decode cX9_place 18 = .ok (.if_icmp .lt 14, 3) := by decide +kernel
theorem dX9_place_21 : decode cX9_place 21 = .ok (.new 219, 3) := by decide +kernel
theorem dX9_place_24 : decode cX9_place 24 = .ok (.dup, 1) := by decide +kernel
theorem dX9_place_25 : decode cX9_place 25 = .ok (.ldc_w 275, 3) := by decide +kernel
theorem dX9_place_28 : decode cX9_place 28 = .ok (.invokespecial 223, 3) := by decide +kernel
theorem dX9_place_31 : decode cX9_place 31 = .ok (.athrow, 1) := by decide +kernel
theorem dX9_place_32 : decode cX9_place 32 = .ok (.aload_n 0, 1) := by decide +kernel
theorem dX9_place_33 : decode cX9_place 33 = .ok (.getfield 56, 3) := by decide +kernel
theorem dX9_place_36 : decode cX9_place 36 = .ok (.invokevirtual 135, 3) := by decide +kernel
theorem dX9_place_39 : decode cX9_place 39 = .ok (.aload_n 0, 1) := by decide +kernel
theorem dX9_place_40 : decode cX9_place 40 = .ok (.getfield 56, 3) := by decide +kernel
theorem dX9_place_43 : decode cX9_place 43 = .ok (.aload_n 0, 1) := by decide +kernel
theorem dX9_place_44 : decode cX9_place 44 = .ok (.getfield 49, 3) := by decide +kernel
theorem dX9_place_47 : decode cX9_place 47 = .ok (.iload_n 1, 1) := by decide +kernel
theorem dX9_place_48 : decode cX9_place 48 = .ok (.iload_n 2, 1) := by decide +kernel
theorem dX9_place_49 : decode cX9_place 49 = .ok (.aload_n 0, 1) := by decide +kernel
theorem dX9_place_50 : decode cX9_place 50 = .ok (.getfield 49, 3) := by decide +kernel
theorem dX9_place_53 : decode cX9_place 53 = .ok (.iload_n 1, 1) := by decide +kernel
theorem dX9_place_54 : decode cX9_place 54 = .ok (.iload_n 2, 1) := by decide +kernel
theorem dX9_place_55 : decode cX9_place 55 = .ok (.invokevirtual 277, 3) := by decide +kernel
theorem dX9_place_58 : decode cX9_place 58 = .ok (.invokevirtual 280, 3) := by decide +kernel
theorem dX9_place_61 : decode cX9_place 61 = .ok (.aload_n 0, 1) := by decide +kernel
theorem dX9_place_62 : decode cX9_place 62 = .ok (.getfield 62, 3) := by decide +kernel
theorem dX9_place_65 : decode cX9_place 65 = .ok (.aload_n 0, 1) := by decide +kernel
theorem dX9_place_66 : decode cX9_place 66 = .ok (.getfield 56, 3) := by decide +kernel
theorem dX9_place_69 : decode cX9_place 69 = .ok (.iconst 0, 1) := by decide +kernel
theorem dX9_place_70 : decode cX9_place 70 = .ok (.invokevirtual 272, 3) := by decide +kernel
theorem dX9_place_73 : decode cX9_place 73 = .ok (.ireturn, 1) := by decide +kernel
theorem dX9_side_0 : decode cX9_side 0 = .ok (.aload_n 0, 1) := by decide +kernel
theorem dX9_side_1 : decode cX9_side 1 = .ok (.iload_n 1, 1) := by decide +kernel
theorem dX9_side_2 : decode cX9_side 2 = .ok (.invokevirtual 201, 3) := by decide +kernel
theorem dX9_side_5 : decode cX9_side 5 = .ok (.aload_n 0, 1) := by decide +kernel
theorem dX9_side_6 : decode cX9_side 6 = .ok (.getfield 62, 3) := by decide +kernel
theorem dX9_side_9 : decode cX9_side 9 = .ok (.aload_n 0, 1) := by decide +kernel
theorem dX9_side_10 : decode cX9_side 10 = .ok (.getfield 53, 3) := by decide +kernel
theorem dX9_side_13 : decode cX9_side 13 = .ok (.iload_n 2, 1) := by decide +kernel
theorem dX9_side_14 : decode cX9_side 14 = .ok (.ifCond .eq 11, 3) := by decide +kernel
theorem dX9_side_17 : decode cX9_side 17 = .ok (.iconst 2, 1) := by decide +kernel
theorem dX9_side_18 : decode cX9_side 18 = .ok (.iload_n 1, 1) := by decide +kernel
theorem dX9_side_19 : decode cX9_side 19 = .ok (.imul, 1) := by decide +kernel
theorem dX9_side_20 : decode cX9_side 20 = .ok (.iconst 1, 1) := by decide +kernel
theorem dX9_side_21 : decode cX9_side 21 = .ok (.iadd, 1) := by decide +kernel
theorem dX9_side_22 : decode cX9_side 22 = .ok (.goto 6, 3) := by decide +kernel
theorem dX9_side_25 : decode cX9_side 25 = .ok (.iconst 2, 1) := by decide +kernel
theorem dX9_side_26 : decode cX9_side 26 = .ok (.iload_n 1, 1) := by decide +kernel
theorem dX9_side_27 : decode cX9_side 27 = .ok (.imul, 1) := by decide +kernel
theorem dX9_side_28 : decode cX9_side 28 = .ok (.invokevirtual 272, 3) := by decide +kernel
theorem dX9_side_31 : decode cX9_side 31 = .ok (.ireturn, 1) := by decide +kernel
theorem dX9_keep_0 : decode cX9_keep 0 = .ok (.aload_n 0, 1) := by decide +kernel
theorem dX9_keep_1 : decode cX9_keep 1 = .ok (.getfield 62, 3) := by decide +kernel
theorem dX9_keep_4 : decode cX9_keep 4 = .ok (.getfield 284, 3) := by decide +kernel
theorem dX9_keep_7 : decode cX9_keep 7 = .ok (.getfield 192, 3) := by decide +kernel
theorem dX9_keep_10 : decode cX9_keep 10 = .ok (.ifCond .ne 14, 3) := by decide +kernel
theorem dX9_keep_13 : decode cX9_keep 13 = .ok (.new 153, 3) := by decide +kernel
theorem dX9_keep_16 : decode cX9_keep 16 = .ok (.dup, 1) := by decide +kernel
theorem dX9_keep_17 : decode cX9_keep 17 = .ok (.ldc_w 287, 3) := by decide +kernel
theorem dX9_keep_20 : decode cX9_keep 20 = .ok (.invokespecial 157, 3) := by decide +kernel
theorem dX9_keep_23 : decode cX9_keep 23 = .ok (.athrow, 1) := by decide +kernel
theorem dX9_keep_24 : decode cX9_keep 24 = .ok (.aload_n 0, 1) := by decide +kernel
theorem dX9_keep_25 : decode cX9_keep 25 = .ok (.aload_n 0, 1) := by decide +kernel
theorem dX9_keep_26 : decode cX9_keep 26 = .ok (.getfield 62, 3) := by decide +kernel
theorem dX9_keep_29 : decode cX9_keep 29 = .ok (.getfield 284, 3) := by decide +kernel
theorem dX9_keep_32 : decode cX9_keep 32 = .ok (.invokevirtual 162, 3) := by decide +kernel
theorem dX9_keep_35 : decode cX9_keep 35 = .ok (.ireturn, 1) := by decide +kernel
theorem dX9_octet_0 : decode cX9_octet 0 = .ok (.aload_n 0, 1) := by decide +kernel
theorem dX9_octet_1 : decode cX9_octet 1 = .ok (.getfield 62, 3) := by decide +kernel
theorem dX9_octet_4 : decode cX9_octet 4 = .ok (.iload_n 1, 1) := by decide +kernel
theorem dX9_octet_5 : decode cX9_octet 5 = .ok (.invokevirtual 289, 3) := by decide +kernel
theorem dX9_octet_8 : decode cX9_octet 8 = .ok (.ireturn, 1) := by decide +kernel
theorem dX9_showNode_0 : decode cX9_showNode 0 = .ok (.aload_n 0, 1) := by decide +kernel
theorem dX9_showNode_1 : decode cX9_showNode 1 = .ok (.getfield 56, 3) := by decide +kernel
theorem dX9_showNode_4 : decode cX9_showNode 4 = .ok (.invokevirtual 135, 3) := by decide +kernel
theorem dX9_showNode_7 : decode cX9_showNode 7 = .ok (.aload_n 0, 1) := by decide +kernel
theorem dX9_showNode_8 : decode cX9_showNode 8 = .ok (.getfield 31, 3) := by decide +kernel
theorem dX9_showNode_11 : decode cX9_showNode 11 = .ok (.iload_n 1, 1) := by decide +kernel
theorem dX9_showNode_12 : decode cX9_showNode 12 = .ok (.aload_n 0, 1) := by decide +kernel
theorem dX9_showNode_13 : decode cX9_showNode 13 = .ok (.getfield 56, 3) := by decide +kernel
theorem dX9_showNode_16 : decode cX9_showNode 16 = .ok (.invokevirtual 158, 3) := by decide +kernel
theorem dX9_showNode_19 : decode cX9_showNode 19 = .ok (.aload_n 0, 1) := by decide +kernel
theorem dX9_showNode_20 : decode cX9_showNode 20 = .ok (.getfield 62, 3) := by decide +kernel
theorem dX9_showNode_23 : decode cX9_showNode 23 = .ok (.aload_n 0, 1) := by decide +kernel
theorem dX9_showNode_24 : decode cX9_showNode 24 = .ok (.getfield 56, 3) := by decide +kernel
theorem dX9_showNode_27 : decode cX9_showNode 27 = .ok (.iconst 0, 1) := by decide +kernel
theorem dX9_showNode_28 : decode cX9_showNode 28 = .ok (.invokevirtual 272, 3) := by decide +kernel
theorem dX9_showNode_31 : decode cX9_showNode 31 = .ok (.ireturn, 1) := by decide +kernel
theorem dX9_matches_0 : decode cX9_matches 0 = .ok (.aload_n 0, 1) := by decide +kernel
theorem dX9_matches_1 : decode cX9_matches 1 = .ok (.iload_n 1, 1) := by decide +kernel
theorem dX9_matches_2 : decode cX9_matches 2 = .ok (.invokevirtual 227, 3) := by decide +kernel
theorem dX9_matches_5 : decode cX9_matches 5 = .ok (.aload_n 0, 1) := by decide +kernel
theorem dX9_matches_6 : decode cX9_matches 6 = .ok (.iload_n 2, 1) := by decide +kernel
theorem dX9_matches_7 : decode cX9_matches 7 = .ok (.invokevirtual 227, 3) := by decide +kernel
theorem dX9_matches_10 : decode cX9_matches 10 = .ok (.aload_n 0, 1) := by decide +kernel
theorem dX9_matches_11 : decode cX9_matches 11 = .ok (.iload_n 1, 1) := by decide +kernel
theorem dX9_matches_12 : decode cX9_matches 12 = .ok (.iload_n 2, 1) := by decide +kernel
theorem dX9_matches_13 : decode cX9_matches 13 = .ok (.invokevirtual 292, 3) := by decide +kernel
theorem dX9_matches_16 : decode cX9_matches 16 = .ok (.aload_n 0, 1) := by decide +kernel
theorem dX9_matches_17 : decode cX9_matches 17 = .ok (.getfield 71, 3) := by decide +kernel
theorem dX9_matches_20 : decode cX9_matches 20 = .ok (.getfield 296, 3) := by decide +kernel
theorem dX9_matches_23 : decode cX9_matches 23 = .ok (.ireturn, 1) := by decide +kernel
theorem dX9_bound_0 : decode cX9_bound 0 = .ok (.aload_n 0, 1) := by decide +kernel
theorem dX9_bound_1 : decode cX9_bound 1 = .ok (.iload_n 1, 1) := by decide +kernel
theorem dX9_bound_2 : decode cX9_bound 2 = .ok (.invokevirtual 227, 3) := by decide +kernel
theorem dX9_bound_5 : decode cX9_bound 5 = .ok (.aload_n 0, 1) := by decide +kernel
theorem dX9_bound_6 : decode cX9_bound 6 = .ok (.iload_n 2, 1) := by decide +kernel
theorem dX9_bound_7 : decode cX9_bound 7 = .ok (.invokevirtual 227, 3) := by decide +kernel
theorem dX9_bound_10 : decode cX9_bound 10 = .ok (.aload_n 0, 1) := by decide +kernel
theorem dX9_bound_11 : decode cX9_bound 11 = .ok (.iload 4, 2) := by decide +kernel
theorem dX9_bound_13 : decode cX9_bound 13 = .ok (.invokevirtual 297, 3) := by decide +kernel
theorem dX9_bound_16 : decode cX9_bound 16 = .ok (.aload_n 0, 1) := by decide +kernel
theorem dX9_bound_17 : decode cX9_bound 17 = .ok (.iload_n 1, 1) := by decide +kernel
theorem dX9_bound_18 : decode cX9_bound 18 = .ok (.iload_n 2, 1) := by decide +kernel
theorem dX9_bound_19 : decode cX9_bound 19 = .ok (.invokevirtual 292, 3) := by decide +kernel
theorem dX9_bound_22 : decode cX9_bound 22 = .ok (.iload_n 3, 1) := by decide +kernel
theorem dX9_bound_23 : decode cX9_bound 23 = .ok (.ifCond .lt 30, 3) := by decide +kernel
theorem dX9_bound_26 : decode cX9_bound 26 = .ok (.iload_n 3, 1) := by decide +kernel
theorem dX9_bound_27 : decode cX9_bound 27 = .ok (.aload_n 0, 1) := by decide +kernel
theorem dX9_bound_28 : decode cX9_bound 28 = .ok (.getfield 71, 3) := by decide +kernel
theorem dX9_bound_31 : decode cX9_bound 31 = .ok (.getfield 296, 3) := by decide +kernel
theorem dX9_bound_34 : decode cX9_bound 34 = .ok (.if_icmp .ge 19, 3) := by decide +kernel
theorem dX9_bound_37 : decode cX9_bound 37 = .ok (.aload_n 0, 1) := by decide +kernel
theorem dX9_bound_38 : decode cX9_bound 38 = .ok (.getfield 49, 3) := by decide +kernel
theorem dX9_bound_41 : decode cX9_bound 41 = .ok (.iload_n 1, 1) := by decide +kernel
theorem dX9_bound_42 : decode cX9_bound 42 = .ok (.invokevirtual 246, 3) := by decide +kernel
theorem dX9_bound_45 : decode cX9_bound 45 = .ok (.iload 4, 2) := by decide +kernel
theorem dX9_bound_47 : decode cX9_bound 47 = .ok (.ishr, 1) := by decide +kernel
theorem dX9_bound_48 : decode cX9_bound 48 = .ok (.iconst 1, 1) := by decide +kernel
theorem dX9_bound_49 : decode cX9_bound 49 = .ok (.iand, 1) := by decide +kernel
theorem dX9_bound_50 : decode cX9_bound 50 = .ok (.ifCond .ne 14, 3) := by decide +kernel
theorem dX9_bound_53 : decode cX9_bound 53 = .ok (.new 219, 3) := by decide +kernel
theorem dX9_bound_56 : decode cX9_bound 56 = .ok (.dup, 1) := by decide +kernel
theorem dX9_bound_57 : decode cX9_bound 57 = .ok (.ldc_w 300, 3) := by decide +kernel
theorem dX9_bound_60 : decode cX9_bound 60 = .ok (.invokespecial 223, 3) := by decide +kernel
theorem dX9_bound_63 : decode cX9_bound 63 = .ok (.athrow, 1) := by decide +kernel
theorem dX9_bound_64 : decode cX9_bound 64 = .ok (.aload_n 0, 1) := by decide +kernel
theorem dX9_bound_65 : decode cX9_bound 65 = .ok (.aload_n 0, 1) := by decide +kernel
theorem dX9_bound_66 : decode cX9_bound 66 = .ok (.getfield 71, 3) := by decide +kernel
theorem dX9_bound_69 : decode cX9_bound 69 = .ok (.iload_n 3, 1) := by decide +kernel
theorem dX9_bound_70 : decode cX9_bound 70 = .ok (.iload 4, 2) := by decide +kernel
theorem dX9_bound_72 : decode cX9_bound 72 = .ok (.invokevirtual 302, 3) := by decide +kernel
theorem dX9_bound_75 : decode cX9_bound 75 = .ok (.invokevirtual 305, 3) := by decide +kernel
theorem dX9_bound_78 : decode cX9_bound 78 = .ok (.ireturn, 1) := by decide +kernel
theorem dX9_matchTold_0 : decode cX9_matchTold 0 = .ok (.aload_n 0, 1) := by decide +kernel
theorem dX9_matchTold_1 : decode cX9_matchTold 1 = .ok (.getfield 31, 3) := by decide +kernel
theorem dX9_matchTold_4 : decode cX9_matchTold 4 = .ok (.invokevirtual 142, 3) := by decide +kernel
theorem dX9_matchTold_7 : decode cX9_matchTold 7 = .ok (.aload_n 0, 1) := by decide +kernel
theorem dX9_matchTold_8 : decode cX9_matchTold 8 = .ok (.getfield 31, 3) := by decide +kernel
theorem dX9_matchTold_11 : decode cX9_matchTold 11 = .ok (.aload_n 0, 1) := by decide +kernel
theorem dX9_matchTold_12 : decode cX9_matchTold 12 = .ok (.getfield 49, 3) := by decide +kernel
theorem dX9_matchTold_15 : decode cX9_matchTold 15 = .ok (.iload_n 1, 1) := by decide +kernel
theorem dX9_matchTold_16 : decode cX9_matchTold 16 = .ok (.invokevirtual 308, 3) := by decide +kernel
theorem dX9_matchTold_19 : decode cX9_matchTold 19 = .ok (.istore_n 3, 1) := by decide +kernel
theorem dX9_matchTold_20 : decode cX9_matchTold 20 = .ok (.aload_n 0, 1) := by decide +kernel
theorem dX9_matchTold_21 : decode cX9_matchTold 21 = .ok (.getfield 71, 3) := by decide +kernel
theorem dX9_matchTold_24 : decode cX9_matchTold 24 = .ok (.iload_n 3, 1) := by decide +kernel
theorem dX9_matchTold_25 : decode cX9_matchTold 25 = .ok (.aload_n 0, 1) := by decide +kernel
theorem dX9_matchTold_26 : decode cX9_matchTold 26 = .ok (.getfield 31, 3) := by decide +kernel
theorem dX9_matchTold_29 : decode cX9_matchTold 29 = .ok (.aload_n 0, 1) := by decide +kernel
theorem dX9_matchTold_30 : decode cX9_matchTold 30 = .ok (.getfield 49, 3) := by decide +kernel
theorem dX9_matchTold_33 : decode cX9_matchTold 33 = .ok (.iload_n 2, 1) := by decide +kernel
theorem dX9_matchTold_34 : decode cX9_matchTold 34 = .ok (.invokevirtual 308, 3) := by decide +kernel
theorem dX9_matchTold_37 : decode cX9_matchTold 37 = .ok (.invokevirtual 311, 3) := by decide +kernel
theorem dX9_matchTold_40 : decode cX9_matchTold 40 = .ok (.ifCond .ne 14, 3) := by decide +kernel
theorem dX9_matchTold_43 : decode cX9_matchTold 43 = .ok (.new 153, 3) := by decide +kernel
theorem dX9_matchTold_46 : decode cX9_matchTold 46 = .ok (.dup, 1) := by decide +kernel
theorem dX9_matchTold_47 : decode cX9_matchTold 47 = .ok (.ldc_w 314, 3) := by decide +kernel
theorem dX9_matchTold_50 : decode cX9_matchTold 50 = .ok (.invokespecial 157, 3) := by decide +kernel
theorem dX9_matchTold_53 : decode cX9_matchTold 53 = .ok (.athrow, 1) := by decide +kernel
theorem dX9_matchTold_54 : decode cX9_matchTold 54 = .ok (.return_, 1) := by decide +kernel
theorem dX9_fill_0 : decode cX9_fill 0 = .ok (.aload_n 0, 1) := by decide +kernel
theorem dX9_fill_1 : decode cX9_fill 1 = .ok (.iload_n 1, 1) := by decide +kernel
theorem dX9_fill_2 : decode cX9_fill 2 = .ok (.invokevirtual 227, 3) := by decide +kernel
theorem dX9_fill_5 : decode cX9_fill 5 = .ok (.aload_n 0, 1) := by decide +kernel
theorem dX9_fill_6 : decode cX9_fill 6 = .ok (.iload_n 2, 1) := by decide +kernel
theorem dX9_fill_7 : decode cX9_fill 7 = .ok (.invokevirtual 297, 3) := by decide +kernel
theorem dX9_fill_10 : decode cX9_fill 10 = .ok (.aload_n 0, 1) := by decide +kernel
theorem dX9_fill_11 : decode cX9_fill 11 = .ok (.iload_n 3, 1) := by decide +kernel
theorem dX9_fill_12 : decode cX9_fill 12 = .ok (.invokevirtual 227, 3) := by decide +kernel
theorem dX9_fill_15 : decode cX9_fill 15 = .ok (.aload_n 0, 1) := by decide +kernel
theorem dX9_fill_16 : decode cX9_fill 16 = .ok (.getfield 31, 3) := by decide +kernel
theorem dX9_fill_19 : decode cX9_fill 19 = .ok (.invokevirtual 142, 3) := by decide +kernel
theorem dX9_fill_22 : decode cX9_fill 22 = .ok (.iconst 0, 1) := by decide +kernel
theorem dX9_fill_23 : decode cX9_fill 23 = .ok (.istore 4, 2) := by decide +kernel
theorem dX9_fill_25 : decode cX9_fill 25 = .ok (.iload 4, 2) := by decide +kernel
theorem dX9_fill_27 : decode cX9_fill 27 = .ok (.aload_n 0, 1) := by decide +kernel
theorem dX9_fill_28 : decode cX9_fill 28 = .ok (.getfield 96, 3) := by decide +kernel
theorem dX9_fill_31 : decode cX9_fill 31 = .ok (.arraylength, 1) := by decide +kernel
theorem dX9_fill_32 : decode cX9_fill 32 = .ok (.if_icmp .ge 38, 3) := by decide +kernel
theorem dX9_fill_35 : decode cX9_fill 35 = .ok (.aload_n 0, 1) := by decide +kernel
theorem dX9_fill_36 : decode cX9_fill 36 = .ok (.getfield 96, 3) := by decide +kernel
theorem dX9_fill_39 : decode cX9_fill 39 = .ok (.iload 4, 2) := by decide +kernel
theorem dX9_fill_41 : decode cX9_fill 41 = .ok (.iload 4, 2) := by decide +kernel
theorem dX9_fill_43 : decode cX9_fill 43 = .ok (.iload_n 2, 1) := by decide +kernel
theorem dX9_fill_44 : decode cX9_fill 44 = .ok (.if_icmp .ne 18, 3) := by decide +kernel
theorem dX9_fill_47 : decode cX9_fill 47 = .ok (.aload_n 0, 1) := by decide +kernel
theorem dX9_fill_48 : decode cX9_fill 48 = .ok (.getfield 31, 3) := by decide +kernel
theorem dX9_fill_51 : decode cX9_fill 51 = .ok (.aload_n 0, 1) := by decide +kernel
theorem dX9_fill_52 : decode cX9_fill 52 = .ok (.getfield 49, 3) := by decide +kernel
theorem dX9_fill_55 : decode cX9_fill 55 = .ok (.iload_n 3, 1) := by decide +kernel
theorem dX9_fill_56 : decode cX9_fill 56 = .ok (.invokevirtual 308, 3) := by decide +kernel
theorem dX9_fill_59 : decode cX9_fill 59 = .ok (.goto 4, 3) := by decide +kernel
theorem dX9_fill_62 : decode cX9_fill 62 = .ok (.iconst (-1), 1) := by decide +kernel
theorem dX9_fill_63 : decode cX9_fill 63 = .ok (.iastore, 1) := by decide +kernel
theorem dX9_fill_64 : decode cX9_fill 64 = .ok (.iinc 4 1, 3) := by decide +kernel
theorem dX9_fill_67 : decode cX9_fill 67 = .ok (.goto (-42), 3) := by decide +kernel
theorem dX9_fill_70 : decode cX9_fill 70 = .ok (.aload_n 0, 1) := by decide +kernel
theorem dX9_fill_71 : decode cX9_fill 71 = .ok (.aload_n 0, 1) := by decide +kernel
theorem dX9_fill_72 : decode cX9_fill 72 = .ok (.getfield 31, 3) := by decide +kernel
theorem dX9_fill_75 : decode cX9_fill 75 = .ok (.aload_n 0, 1) := by decide +kernel
theorem dX9_fill_76 : decode cX9_fill 76 = .ok (.getfield 31, 3) := by decide +kernel
theorem dX9_fill_79 : decode cX9_fill 79 = .ok (.aload_n 0, 1) := by decide +kernel
theorem dX9_fill_80 : decode cX9_fill 80 = .ok (.getfield 49, 3) := by decide +kernel
theorem dX9_fill_83 : decode cX9_fill 83 = .ok (.iload_n 1, 1) := by decide +kernel
theorem dX9_fill_84 : decode cX9_fill 84 = .ok (.invokevirtual 308, 3) := by decide +kernel
theorem dX9_fill_87 : decode cX9_fill 87 = .ok (.aload_n 0, 1) := by decide +kernel
theorem dX9_fill_88 : decode cX9_fill 88 = .ok (.getfield 96, 3) := by decide +kernel
theorem dX9_fill_91 : decode cX9_fill 91 = .ok (.iconst 0, 1) := by decide +kernel
theorem dX9_fill_92 : decode cX9_fill 92 = .ok (.iconst 0, 1) := by decide +kernel
theorem dX9_fill_93 : decode cX9_fill 93 = .ok (.invokevirtual 316, 3) := by decide +kernel
theorem dX9_fill_96 : decode cX9_fill 96 = .ok (.invokevirtual 320, 3) := by decide +kernel
theorem dX9_fill_99 : decode cX9_fill 99 = .ok (.ireturn, 1) := by decide +kernel
theorem dX9_join_0 : decode cX9_join 0 = .ok (.aload_n 0, 1) := by decide +kernel
theorem dX9_join_1 : decode cX9_join 1 = .ok (.iload_n 1, 1) := by decide +kernel
theorem dX9_join_2 : decode cX9_join 2 = .ok (.invokevirtual 204, 3) := by decide +kernel
theorem dX9_join_5 : decode cX9_join 5 = .ok (.aload_n 0, 1) := by decide +kernel
theorem dX9_join_6 : decode cX9_join 6 = .ok (.iload_n 2, 1) := by decide +kernel
theorem dX9_join_7 : decode cX9_join 7 = .ok (.invokevirtual 227, 3) := by decide +kernel
theorem dX9_join_10 : decode cX9_join 10 = .ok (.aload_n 0, 1) := by decide +kernel
theorem dX9_join_11 : decode cX9_join 11 = .ok (.iload_n 3, 1) := by decide +kernel
theorem dX9_join_12 : decode cX9_join 12 = .ok (.invokevirtual 227, 3) := by decide +kernel
theorem dX9_join_15 : decode cX9_join 15 = .ok (.aload_n 0, 1) := by decide +kernel
theorem dX9_join_16 : decode cX9_join 16 = .ok (.getfield 19, 3) := by decide +kernel
theorem dX9_join_19 : decode cX9_join 19 = .ok (.iload_n 1, 1) := by decide +kernel
theorem dX9_join_20 : decode cX9_join 20 = .ok (.invokevirtual 207, 3) := by decide +kernel
theorem dX9_join_23 : decode cX9_join 23 = .ok (.iconst 2, 1) := by decide +kernel
theorem dX9_join_24 : decode cX9_join 24 = .ok (.if_icmp .eq 14, 3) := by decide +kernel
theorem dX9_join_27 : decode cX9_join 27 = .ok (.new 125, 3) := by decide +kernel
theorem dX9_join_30 : decode cX9_join 30 = .ok (.dup, 1) := by decide +kernel
theorem dX9_join_31 : decode cX9_join 31 = .ok (.ldc_w 323, 3) := by decide +kernel
theorem dX9_join_34 : decode cX9_join 34 = .ok (.invokespecial 129, 3) := by decide +kernel
theorem dX9_join_37 : decode cX9_join 37 = .ok (.athrow, 1) := by decide +kernel
theorem dX9_join_38 : decode cX9_join 38 = .ok (.aload_n 0, 1) := by decide +kernel
theorem dX9_join_39 : decode cX9_join 39 = .ok (.getfield 31, 3) := by decide +kernel
theorem dX9_join_42 : decode cX9_join 42 = .ok (.invokevirtual 142, 3) := by decide +kernel
theorem dX9_join_45 : decode cX9_join 45 = .ok (.aload_n 0, 1) := by decide +kernel
theorem dX9_join_46 : decode cX9_join 46 = .ok (.getfield 31, 3) := by decide +kernel
theorem dX9_join_49 : decode cX9_join 49 = .ok (.aload_n 0, 1) := by decide +kernel
theorem dX9_join_50 : decode cX9_join 50 = .ok (.getfield 49, 3) := by decide +kernel
theorem dX9_join_53 : decode cX9_join 53 = .ok (.iload_n 2, 1) := by decide +kernel
theorem dX9_join_54 : decode cX9_join 54 = .ok (.invokevirtual 308, 3) := by decide +kernel
theorem dX9_join_57 : decode cX9_join 57 = .ok (.istore 4, 2) := by decide +kernel
theorem dX9_join_59 : decode cX9_join 59 = .ok (.aload_n 0, 1) := by decide +kernel
theorem dX9_join_60 : decode cX9_join 60 = .ok (.getfield 31, 3) := by decide +kernel
theorem dX9_join_63 : decode cX9_join 63 = .ok (.aload_n 0, 1) := by decide +kernel
theorem dX9_join_64 : decode cX9_join 64 = .ok (.getfield 49, 3) := by decide +kernel
theorem dX9_join_67 : decode cX9_join 67 = .ok (.iload_n 3, 1) := by decide +kernel
theorem dX9_join_68 : decode cX9_join 68 = .ok (.invokevirtual 308, 3) := by decide +kernel
theorem dX9_join_71 : decode cX9_join 71 = .ok (.istore 5, 2) := by decide +kernel
theorem dX9_join_73 : decode cX9_join 73 = .ok (.aload_n 0, 1) := by decide +kernel
theorem dX9_join_74 : decode cX9_join 74 = .ok (.getfield 31, 3) := by decide +kernel
theorem dX9_join_77 : decode cX9_join 77 = .ok (.iload_n 1, 1) := by decide +kernel
theorem dX9_join_78 : decode cX9_join 78 = .ok (.invokevirtual 325, 3) := by decide +kernel
theorem dX9_join_81 : decode cX9_join 81 = .ok (.aload_n 0, 1) := by decide +kernel
theorem dX9_join_82 : decode cX9_join 82 = .ok (.getfield 31, 3) := by decide +kernel
theorem dX9_join_85 : decode cX9_join 85 = .ok (.iload 4, 2) := by decide +kernel
theorem dX9_join_87 : decode cX9_join 87 = .ok (.invokevirtual 328, 3) := by decide +kernel
theorem dX9_join_90 : decode cX9_join 90 = .ok (.aload_n 0, 1) := by decide +kernel
theorem dX9_join_91 : decode cX9_join 91 = .ok (.getfield 31, 3) := by decide +kernel
theorem dX9_join_94 : decode cX9_join 94 = .ok (.iload 5, 2) := by decide +kernel
theorem dX9_join_96 : decode cX9_join 96 = .ok (.invokevirtual 328, 3) := by decide +kernel
theorem dX9_join_99 : decode cX9_join 99 = .ok (.aload_n 0, 1) := by decide +kernel
theorem dX9_join_100 : decode cX9_join 100 = .ok (.aload_n 0, 1) := by decide +kernel
theorem dX9_join_101 : decode cX9_join 101 = .ok (.getfield 31, 3) := by decide +kernel
theorem dX9_join_104 : decode cX9_join 104 = .ok (.invokevirtual 331, 3) := by decide +kernel
theorem dX9_join_107 : decode cX9_join 107 = .ok (.invokevirtual 320, 3) := by decide +kernel
theorem dX9_join_110 : decode cX9_join 110 = .ok (.ireturn, 1) := by decide +kernel
theorem dX9_showBuilt_0 : decode cX9_showBuilt 0 = .ok (.iload_n 1, 1) := by decide +kernel
theorem dX9_showBuilt_1 : decode cX9_showBuilt 1 = .ok (.ifCond .ge 14, 3) := by decide +kernel
theorem dX9_showBuilt_4 : decode cX9_showBuilt 4 = .ok (.new 153, 3) := by decide +kernel
theorem dX9_showBuilt_7 : decode cX9_showBuilt 7 = .ok (.dup, 1) := by decide +kernel
theorem dX9_showBuilt_8 : decode cX9_showBuilt 8 = .ok (.ldc_w 334, 3) := by decide +kernel
theorem dX9_showBuilt_11 : decode cX9_showBuilt 11 = .ok (.invokespecial 157, 3) := by decide +kernel
theorem dX9_showBuilt_14 : decode cX9_showBuilt 14 = .ok (.athrow, 1) := by decide +kernel
theorem dX9_showBuilt_15 : decode cX9_showBuilt 15 = .ok (.aload_n 0, 1) := by decide +kernel
theorem dX9_showBuilt_16 : decode cX9_showBuilt 16 = .ok (.iload_n 1, 1) := by decide +kernel
theorem dX9_showBuilt_17 : decode cX9_showBuilt 17 = .ok (.invokevirtual 305, 3) := by decide +kernel
theorem dX9_showBuilt_20 : decode cX9_showBuilt 20 = .ok (.ireturn, 1) := by decide +kernel
theorem dX9_checkStep_0 : decode cX9_checkStep 0 = .ok (.iload_n 1, 1) := by decide +kernel
theorem dX9_checkStep_1 : decode cX9_checkStep 1 = .ok (.ifCond .lt 14, 3) := by decide +kernel
theorem dX9_checkStep_4 : decode cX9_checkStep 4 = .ok (.iload_n 1, 1) := by decide +kernel
theorem dX9_checkStep_5 : decode cX9_checkStep 5 = .ok (.aload_n 0, 1) := by decide +kernel
theorem dX9_checkStep_6 : decode cX9_checkStep 6 = .ok (.getfield 80, 3) := by decide +kernel
theorem dX9_checkStep_9 : decode cX9_checkStep 9 = .ok (.invokevirtual 343, 3) := by decide +kernel
theorem dX9_checkStep_12 : decode cX9_checkStep 12 = .ok (.if_icmp .lt 14, 3) := by decide +kernel
theorem dX9_checkStep_15 : decode cX9_checkStep 15 = .ok (.new 219, 3) := by decide +kernel
theorem dX9_checkStep_18 : decode cX9_checkStep 18 = .ok (.dup, 1) := by decide +kernel
theorem dX9_checkStep_19 : decode cX9_checkStep 19 = .ok (.ldc_w 366, 3) := by decide +kernel
theorem dX9_checkStep_22 : decode cX9_checkStep 22 = .ok (.invokespecial 223, 3) := by decide +kernel
theorem dX9_checkStep_25 : decode cX9_checkStep 25 = .ok (.athrow, 1) := by decide +kernel
theorem dX9_checkStep_26 : decode cX9_checkStep 26 = .ok (.return_, 1) := by decide +kernel
theorem dX9_rules_0 : decode cX9_rules 0 = .ok (.aload_n 0, 1) := by decide +kernel
theorem dX9_rules_1 : decode cX9_rules 1 = .ok (.getfield 53, 3) := by decide +kernel
theorem dX9_rules_4 : decode cX9_rules 4 = .ok (.getfield 192, 3) := by decide +kernel
theorem dX9_rules_7 : decode cX9_rules 7 = .ok (.iconst 1, 1) := by decide +kernel
theorem dX9_rules_8 : decode cX9_rules 8 = .ok (.ishr, 1) := by decide +kernel
theorem dX9_rules_9 : decode cX9_rules 9 = .ok (.ireturn, 1) := by decide +kernel
theorem dX9_checkTerm_0 : decode cX9_checkTerm 0 = .ok (.iload_n 1, 1) := by decide +kernel
theorem dX9_checkTerm_1 : decode cX9_checkTerm 1 = .ok (.ifCond .lt 14, 3) := by decide +kernel
theorem dX9_checkTerm_4 : decode cX9_checkTerm 4 = .ok (.iload_n 1, 1) := by decide +kernel
theorem dX9_checkTerm_5 : decode cX9_checkTerm 5 = .ok (.aload_n 0, 1) := by decide +kernel
theorem dX9_checkTerm_6 : decode cX9_checkTerm 6 = .ok (.getfield 49, 3) := by decide +kernel
theorem dX9_checkTerm_9 : decode cX9_checkTerm 9 = .ok (.getfield 192, 3) := by decide +kernel
theorem dX9_checkTerm_12 : decode cX9_checkTerm 12 = .ok (.if_icmp .lt 14, 3) := by decide +kernel
theorem dX9_checkTerm_15 : decode cX9_checkTerm 15 = .ok (.new 415, 3) := by decide +kernel
theorem dX9_checkTerm_18 : decode cX9_checkTerm 18 = .ok (.dup, 1) := by decide +kernel
theorem dX9_checkTerm_19 : decode cX9_checkTerm 19 = .ok (.ldc_w 417, 3) := by decide +kernel
theorem dX9_checkTerm_22 : decode cX9_checkTerm 22 = .ok (.invokespecial 419, 3) := by decide +kernel
theorem dX9_checkTerm_25 : decode cX9_checkTerm 25 = .ok (.athrow, 1) := by decide +kernel
theorem dX9_checkTerm_26 : decode cX9_checkTerm 26 = .ok (.return_, 1) := by decide +kernel
theorem dX9_checkRule_0 : decode cX9_checkRule 0 = .ok (.iload_n 1, 1) := by decide +kernel
theorem dX9_checkRule_1 : decode cX9_checkRule 1 = .ok (.ifCond .lt 11, 3) := by decide +kernel
theorem dX9_checkRule_4 : decode cX9_checkRule 4 = .ok (.iload_n 1, 1) := by decide +kernel
theorem dX9_checkRule_5 : decode cX9_checkRule 5 = .ok (.aload_n 0, 1) := by decide +kernel
theorem dX9_checkRule_6 : decode cX9_checkRule 6 = .ok (.invokevirtual 181, 3) := by decide +kernel
theorem dX9_checkRule_9 : decode cX9_checkRule 9 = .ok (.if_icmp .lt 14, 3) := by decide +kernel
theorem dX9_checkRule_12 : decode cX9_checkRule 12 = .ok (.new 415, 3) := by decide +kernel
theorem dX9_checkRule_15 : decode cX9_checkRule 15 = .ok (.dup, 1) := by decide +kernel
theorem dX9_checkRule_16 : decode cX9_checkRule 16 = .ok (.ldc_w 420, 3) := by decide +kernel
theorem dX9_checkRule_19 : decode cX9_checkRule 19 = .ok (.invokespecial 419, 3) := by decide +kernel
theorem dX9_checkRule_22 : decode cX9_checkRule 22 = .ok (.athrow, 1) := by decide +kernel
theorem dX9_checkRule_23 : decode cX9_checkRule 23 = .ok (.return_, 1) := by decide +kernel
theorem dX9_checkOperator_0 : decode cX9_checkOperator 0 = .ok (.iload_n 1, 1) := by decide +kernel
theorem dX9_checkOperator_1 : decode cX9_checkOperator 1 = .ok (.ifCond .lt 14, 3) := by decide +kernel
theorem dX9_checkOperator_4 : decode cX9_checkOperator 4 = .ok (.iload_n 1, 1) := by decide +kernel
theorem dX9_checkOperator_5 : decode cX9_checkOperator 5 = .ok (.aload_n 0, 1) := by decide +kernel
theorem dX9_checkOperator_6 : decode cX9_checkOperator 6 = .ok (.getfield 19, 3) := by decide +kernel
theorem dX9_checkOperator_9 : decode cX9_checkOperator 9 = .ok (.getfield 139, 3) := by decide +kernel
theorem dX9_checkOperator_12 : decode cX9_checkOperator 12 = .ok (.if_icmp .lt 14, 3) := by decide +kernel
theorem dX9_checkOperator_15 : decode cX9_checkOperator 15 = .ok (.new 415, 3) := by decide +kernel
theorem dX9_checkOperator_18 : decode cX9_checkOperator 18 = .ok (.dup, 1) := by decide +kernel
theorem dX9_checkOperator_19 : decode cX9_checkOperator 19 = .ok (.ldc_w 422, 3) := by decide +kernel
theorem dX9_checkOperator_22 : decode cX9_checkOperator 22 = .ok (.invokespecial 419, 3) := by decide +kernel
theorem dX9_checkOperator_25 : decode cX9_checkOperator 25 = .ok (.athrow, 1) := by decide +kernel
theorem dX9_checkOperator_26 : decode cX9_checkOperator 26 = .ok (.return_, 1) := by decide +kernel
theorem dX9_checkVariable_0 : decode cX9_checkVariable 0 = .ok (.iload_n 1, 1) := by decide +kernel
theorem dX9_checkVariable_1 : decode cX9_checkVariable 1 = .ok (.ifCond .lt 14, 3) := by decide +kernel
theorem dX9_checkVariable_4 : decode cX9_checkVariable 4 = .ok (.iload_n 1, 1) := by decide +kernel
theorem dX9_checkVariable_5 : decode cX9_checkVariable 5 = .ok (.aload_n 0, 1) := by decide +kernel
theorem dX9_checkVariable_6 : decode cX9_checkVariable 6 = .ok (.getfield 19, 3) := by decide +kernel
theorem dX9_checkVariable_9 : decode cX9_checkVariable 9 = .ok (.getfield 395, 3) := by decide +kernel
theorem dX9_checkVariable_12 : decode cX9_checkVariable 12 = .ok (.if_icmp .lt 14, 3) := by decide +kernel
theorem dX9_checkVariable_15 : decode cX9_checkVariable 15 = .ok (.new 415, 3) := by decide +kernel
theorem dX9_checkVariable_18 : decode cX9_checkVariable 18 = .ok (.dup, 1) := by decide +kernel
theorem dX9_checkVariable_19 : decode cX9_checkVariable 19 = .ok (.ldc_w 424, 3) := by decide +kernel
theorem dX9_checkVariable_22 : decode cX9_checkVariable 22 = .ok (.invokespecial 419, 3) := by decide +kernel
theorem dX9_checkVariable_25 : decode cX9_checkVariable 25 = .ok (.athrow, 1) := by decide +kernel
theorem dX9_checkVariable_26 : decode cX9_checkVariable 26 = .ok (.return_, 1) := by decide +kernel
theorem dX9_checkDistance_0 : decode cX9_checkDistance 0 = .ok (.iload_n 1, 1) := by decide +kernel
theorem dX9_checkDistance_1 : decode cX9_checkDistance 1 = .ok (.ifCond .lt 8, 3) := by decide +kernel
theorem dX9_checkDistance_4 : decode cX9_checkDistance 4 = .ok (.iload_n 1, 1) := by decide +kernel
theorem dX9_checkDistance_5 : decode cX9_checkDistance 5 = .ok (.iconst 4, 1) := by decide +kernel
theorem dX9_checkDistance_6 : decode cX9_checkDistance 6 = .ok (.if_icmp .le 14, 3) := by decide +kernel
theorem dX9_checkDistance_9 : decode cX9_checkDistance 9 = .ok (.new 125, 3) := by decide +kernel
theorem dX9_checkDistance_12 : decode cX9_checkDistance 12 = .ok (.dup, 1) := by decide +kernel
theorem dX9_checkDistance_13 : decode cX9_checkDistance 13 = .ok (.ldc_w 426, 3) := by decide +kernel
theorem dX9_checkDistance_16 : decode cX9_checkDistance 16 = .ok (.invokespecial 129, 3) := by decide +kernel
theorem dX9_checkDistance_19 : decode cX9_checkDistance 19 = .ok (.athrow, 1) := by decide +kernel
theorem dX9_checkDistance_20 : decode cX9_checkDistance 20 = .ok (.return_, 1) := by decide +kernel

theorem dX10_init_0 : decode cX10_init 0 = .ok (.aload_n 0, 1) := by decide +kernel
theorem dX10_init_1 : decode cX10_init 1 = .ok (.invokespecial 3, 3) := by decide +kernel
theorem dX10_init_4 : decode cX10_init 4 = .ok (.aload_n 0, 1) := by decide +kernel
theorem dX10_init_5 : decode cX10_init 5 = .ok (.sipush 400, 3) := by decide +kernel
theorem dX10_init_8 : decode cX10_init 8 = .ok (.newarray .byte, 2) := by decide +kernel
theorem dX10_init_10 : decode cX10_init 10 = .ok (.putfield 9, 3) := by decide +kernel
theorem dX10_init_13 : decode cX10_init 13 = .ok (.aload_n 0, 1) := by decide +kernel
theorem dX10_init_14 : decode cX10_init 14 = .ok (.iconst 5, 1) := by decide +kernel
theorem dX10_init_15 : decode cX10_init 15 = .ok (.newarray .int, 2) := by decide +kernel
theorem dX10_init_17 : decode cX10_init 17 = .ok (.putfield 13, 3) := by decide +kernel
theorem dX10_init_20 : decode cX10_init 20 = .ok (.aload_n 0, 1) := by decide +kernel
theorem dX10_init_21 : decode cX10_init 21 = .ok (.iconst (-1), 1) := by decide +kernel
theorem dX10_init_22 : decode cX10_init 22 = .ok (.putfield 17, 3) := by decide +kernel
theorem dX10_init_25 : decode cX10_init 25 = .ok (.aload_n 0, 1) := by decide +kernel
theorem dX10_init_26 : decode cX10_init 26 = .ok (.bipush 90, 2) := by decide +kernel
theorem dX10_init_28 : decode cX10_init 28 = .ok (.newarray .byte, 2) := by decide +kernel
theorem dX10_init_30 : decode cX10_init 30 = .ok (.putfield 21, 3) := by decide +kernel
theorem dX10_init_33 : decode cX10_init 33 = .ok (.aload_n 0, 1) := by decide +kernel
theorem dX10_init_34 : decode cX10_init 34 = .ok (.bipush 90, 2) := by decide +kernel
theorem dX10_init_36 : decode cX10_init 36 = .ok (.newarray .byte, 2) := by decide +kernel
theorem dX10_init_38 : decode cX10_init 38 = .ok (.putfield 24, 3) := by decide +kernel
theorem dX10_init_41 : decode cX10_init 41 = .ok (.aload_n 0, 1) := by decide +kernel
theorem dX10_init_42 : decode cX10_init 42 = .ok (.bipush 15, 2) := by decide +kernel
theorem dX10_init_44 : decode cX10_init 44 = .ok (.newarray .int, 2) := by decide +kernel
theorem dX10_init_46 : decode cX10_init 46 = .ok (.putfield 27, 3) := by decide +kernel
theorem dX10_init_49 : decode cX10_init 49 = .ok (.aload_n 0, 1) := by decide +kernel
theorem dX10_init_50 : decode cX10_init 50 = .ok (.bipush 15, 2) := by decide +kernel
theorem dX10_init_52 : decode cX10_init 52 = .ok (.newarray .int, 2) := by decide +kernel
theorem dX10_init_54 : decode cX10_init 54 = .ok (.putfield 30, 3) := by decide +kernel
theorem dX10_init_57 : decode cX10_init 57 = .ok (.aload_n 0, 1) := by decide +kernel
theorem dX10_init_58 : decode cX10_init 58 = .ok (.bipush 10, 2) := by decide +kernel
theorem dX10_init_60 : decode cX10_init 60 = .ok (.newarray .int, 2) := by decide +kernel
theorem dX10_init_62 : decode cX10_init 62 = .ok (.putfield 33, 3) := by decide +kernel
theorem dX10_init_65 : decode cX10_init 65 = .ok (.aload_n 0, 1) := by decide +kernel
theorem dX10_init_66 : decode cX10_init 66 = .ok (.bipush 10, 2) := by decide +kernel
theorem dX10_init_68 : decode cX10_init 68 = .ok (.newarray .int, 2) := by decide +kernel
theorem dX10_init_70 : decode cX10_init 70 = .ok (.putfield 36, 3) := by decide +kernel
theorem dX10_init_73 : decode cX10_init 73 = .ok (.aload_n 0, 1) := by decide +kernel
theorem dX10_init_74 : decode cX10_init 74 = .ok (.bipush 10, 2) := by decide +kernel
theorem dX10_init_76 : decode cX10_init 76 = .ok (.newarray .int, 2) := by decide +kernel
theorem dX10_init_78 : decode cX10_init 78 = .ok (.putfield 39, 3) := by decide +kernel
theorem dX10_init_81 : decode cX10_init 81 = .ok (.aload_n 0, 1) := by decide +kernel
theorem dX10_init_82 : decode cX10_init 82 = .ok (.bipush 10, 2) := by decide +kernel
theorem dX10_init_84 : decode cX10_init 84 = .ok (.newarray .int, 2) := by decide +kernel
theorem dX10_init_86 : decode cX10_init 86 = .ok (.putfield 42, 3) := by decide +kernel
theorem dX10_init_89 : decode cX10_init 89 = .ok (.aload_n 0, 1) := by decide +kernel
theorem dX10_init_90 : decode cX10_init 90 = .ok (.bipush 10, 2) := by decide +kernel
theorem dX10_init_92 : decode cX10_init 92 = .ok (.newarray .int, 2) := by decide +kernel
theorem dX10_init_94 : decode cX10_init 94 = .ok (.putfield 45, 3) := by decide +kernel
theorem dX10_init_97 : decode cX10_init 97 = .ok (.aload_n 0, 1) := by decide +kernel
theorem dX10_init_98 : decode cX10_init 98 = .ok (.bipush 10, 2) := by decide +kernel
theorem dX10_init_100 : decode cX10_init 100 = .ok (.newarray .int, 2) := by decide +kernel
theorem dX10_init_102 : decode cX10_init 102 = .ok (.putfield 48, 3) := by decide +kernel
theorem dX10_init_105 : decode cX10_init 105 = .ok (.aload_n 0, 1) := by decide +kernel
theorem dX10_init_106 : decode cX10_init 106 = .ok (.ldc 51, 2) := by decide +kernel
theorem dX10_init_108 : decode cX10_init 108 = .ok (.newarray .int, 2) := by decide +kernel
theorem dX10_init_110 : decode cX10_init 110 = .ok (.putfield 52, 3) := by decide +kernel
theorem dX10_init_113 : decode cX10_init 113 = .ok (.aload_n 0, 1) := by decide +kernel
theorem dX10_init_114 : decode cX10_init 114 = .ok (.sipush 512, 3) := by decide +kernel
theorem dX10_init_117 : decode cX10_init 117 = .ok (.newarray .int, 2) := by decide +kernel
theorem dX10_init_119 : decode cX10_init 119 = .ok (.putfield 55, 3) := by decide +kernel
theorem dX10_init_122 : decode cX10_init 122 = .ok (.aload_n 0, 1) := by decide +kernel
theorem dX10_init_123 : decode cX10_init 123 = .ok (.sipush 966, 3) := by decide +kernel
theorem dX10_init_126 : decode cX10_init 126 = .ok (.newarray .int, 2) := by decide +kernel
theorem dX10_init_128 : decode cX10_init 128 = .ok (.putfield 58, 3) := by decide +kernel
theorem dX10_init_131 : decode cX10_init 131 = .ok (.aload_n 0, 1) := by decide +kernel
theorem dX10_init_132 : decode cX10_init 132 = .ok (.sipush 512, 3) := by decide +kernel
theorem dX10_init_135 : decode cX10_init 135 = .ok (.newarray .int, 2) := by decide +kernel
theorem dX10_init_137 : decode cX10_init 137 = .ok (.putfield 61, 3) := by decide +kernel
theorem dX10_init_140 : decode cX10_init 140 = .ok (.aload_n 0, 1) := by decide +kernel
theorem dX10_init_141 : decode cX10_init 141 = .ok (.sipush 512, 3) := by decide +kernel
theorem dX10_init_144 : decode cX10_init 144 = .ok (.newarray .int, 2) := by decide +kernel
theorem dX10_init_146 : decode cX10_init 146 = .ok (.putfield 64, 3) := by decide +kernel
theorem dX10_init_149 : decode cX10_init 149 = .ok (.aload_n 0, 1) := by decide +kernel
theorem dX10_init_150 : decode cX10_init 150 = .ok (.iconst 5, 1) := by decide +kernel
theorem dX10_init_151 : decode cX10_init 151 = .ok (.newarray .int, 2) := by decide +kernel
theorem dX10_init_153 : decode cX10_init 153 = .ok (.putfield 67, 3) := by decide +kernel
theorem dX10_init_156 : decode cX10_init 156 = .ok (.aload_n 0, 1) := by decide +kernel
theorem dX10_init_157 : decode cX10_init 157 = .ok (.sipush 4096, 3) := by decide +kernel
theorem dX10_init_160 : decode cX10_init 160 = .ok (.newarray .int, 2) := by decide +kernel
theorem dX10_init_162 : decode cX10_init 162 = .ok (.putfield 70, 3) := by decide +kernel
theorem dX10_init_165 : decode cX10_init 165 = .ok (.aload_n 0, 1) := by decide +kernel
theorem dX10_init_166 : decode cX10_init 166 = .ok (.sipush 31710, 3) := by decide +kernel
theorem dX10_init_169 : decode cX10_init 169 = .ok (.newarray .int, 2) := by decide +kernel
theorem dX10_init_171 : decode cX10_init 171 = .ok (.putfield 73, 3) := by decide +kernel
theorem dX10_init_174 : decode cX10_init 174 = .ok (.aload_n 0, 1) := by decide +kernel
theorem dX10_init_175 : decode cX10_init 175 = .ok (.sipush 201, 3) := by decide +kernel
theorem dX10_init_178 : decode cX10_init 178 = .ok (.newarray .int, 2) := by decide +kernel
theorem dX10_init_180 : decode cX10_init 180 = .ok (.putfield 76, 3) := by decide +kernel
theorem dX10_init_183 : decode cX10_init 183 = .ok (.aload_n 0, 1) := by decide +kernel
theorem dX10_init_184 : decode cX10_init 184 = .ok (.sipush 201, 3) := by decide +kernel
theorem dX10_init_187 : decode cX10_init 187 = .ok (.newarray .int, 2) := by decide +kernel
theorem dX10_init_189 : decode cX10_init 189 = .ok (.putfield 79, 3) := by decide +kernel
theorem dX10_init_192 : decode cX10_init 192 = .ok (.aload_n 0, 1) := by decide +kernel
theorem dX10_init_193 : decode cX10_init 193 = .ok (.sipush 4221, 3) := by decide +kernel
theorem dX10_init_196 : decode cX10_init 196 = .ok (.newarray .int, 2) := by decide +kernel
theorem dX10_init_198 : decode cX10_init 198 = .ok (.putfield 82, 3) := by decide +kernel
theorem dX10_init_201 : decode cX10_init 201 = .ok (.aload_n 0, 1) := by decide +kernel
theorem dX10_init_202 : decode cX10_init 202 = .ok (.bipush 21, 2) := by decide +kernel
theorem dX10_init_204 : decode cX10_init 204 = .ok (.newarray .int, 2) := by decide +kernel
theorem dX10_init_206 : decode cX10_init 206 = .ok (.putfield 85, 3) := by decide +kernel
theorem dX10_init_209 : decode cX10_init 209 = .ok (.aload_n 0, 1) := by decide +kernel
theorem dX10_init_210 : decode cX10_init 210 = .ok (.sipush 336, 3) := by decide +kernel
theorem dX10_init_213 : decode cX10_init 213 = .ok (.newarray .byte, 2) := by decide +kernel
theorem dX10_init_215 : decode cX10_init 215 = .ok (.putfield 88, 3) := by decide +kernel
theorem dX10_init_218 : decode cX10_init 218 = .ok (.aload_n 0, 1) := by decide +kernel
theorem dX10_init_219 : decode cX10_init 219 = .ok (.sipush 2142, 3) := by decide +kernel
theorem dX10_init_222 : decode cX10_init 222 = .ok (.newarray .int, 2) := by decide +kernel
theorem dX10_init_224 : decode cX10_init 224 = .ok (.putfield 91, 3) := by decide +kernel
theorem dX10_init_227 : decode cX10_init 227 = .ok (.aload_n 0, 1) := by decide +kernel
theorem dX10_init_228 : decode cX10_init 228 = .ok (.iconst 2, 1) := by decide +kernel
theorem dX10_init_229 : decode cX10_init 229 = .ok (.newarray .int, 2) := by decide +kernel
theorem dX10_init_231 : decode cX10_init 231 = .ok (.putfield 94, 3) := by decide +kernel
theorem dX10_init_234 : decode cX10_init 234 = .ok (.aload_n 0, 1) := by decide +kernel
theorem dX10_init_235 : decode cX10_init 235 = .ok (.iconst 2, 1) := by decide +kernel
theorem dX10_init_236 : decode cX10_init 236 = .ok (.newarray .int, 2) := by decide +kernel
theorem dX10_init_238 : decode cX10_init 238 = .ok (.putfield 97, 3) := by decide +kernel
theorem dX10_init_241 : decode cX10_init 241 = .ok (.return_, 1) := by decide +kernel
