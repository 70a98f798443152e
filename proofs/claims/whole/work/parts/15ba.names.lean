def RL : String := "SumRewriterLaw"
abbrev cL_signature : ByteArray := method_3_code
def yL_signature : MethodName := ⟨RL, "signature", "(LSumRewriter;[J)I"⟩
abbrev cL_term : ByteArray := method_4_code
def yL_term : MethodName := ⟨RL, "term", "(LSumRewriter;[J)I"⟩
abbrev cL_rule : ByteArray := method_5_code
def yL_rule : MethodName := ⟨RL, "rule", "(LSumRewriter;[J)I"⟩
abbrev cL_turn : ByteArray := method_6_code
def yL_turn : MethodName := ⟨RL, "turn", "(LSumRewriter;IZ[J)I"⟩
abbrev cL_operator : ByteArray := method_7_code
def yL_operator : MethodName := ⟨RL, "operator", "(LSumRewriter;II[J)I"⟩
abbrev cL_about : ByteArray := method_8_code
def yL_about : MethodName := ⟨RL, "about", "(LSumRewriter;II[J)I"⟩
abbrev cL_order : ByteArray := method_9_code
def yL_order : MethodName := ⟨RL, "order", "(LSumRewriter;II[J)I"⟩
abbrev cL_show : ByteArray := method_10_code
def yL_show : MethodName := ⟨RL, "show", "(LSumRewriter;I[J)I"⟩
abbrev cL_place : ByteArray := method_11_code
def yL_place : MethodName := ⟨RL, "place", "(LSumRewriter;II[J)I"⟩
abbrev cL_side : ByteArray := method_12_code
def yL_side : MethodName := ⟨RL, "side", "(LSumRewriter;IZ[J)I"⟩
abbrev cL_matches : ByteArray := method_13_code
def yL_matches : MethodName := ⟨RL, "matches", "(LSumRewriter;II[J)I"⟩
abbrev cL_bound : ByteArray := method_14_code
def yL_bound : MethodName := ⟨RL, "bound", "(LSumRewriter;IIII[J)I"⟩
abbrev cL_fill : ByteArray := method_15_code
def yL_fill : MethodName := ⟨RL, "fill", "(LSumRewriter;III[J)I"⟩
abbrev cL_join : ByteArray := method_16_code
def yL_join : MethodName := ⟨RL, "join", "(LSumRewriter;III[J)I"⟩
abbrev cL_steps : ByteArray := method_17_code
def yL_steps : MethodName := ⟨RL, "steps", "(LSumRewriter;I[J)I"⟩
abbrev cL_step : ByteArray := method_18_code
def yL_step : MethodName := ⟨RL, "step", "(LSumRewriter;II[J)I"⟩
abbrev cL_stepAt : ByteArray := method_19_code
def yL_stepAt : MethodName := ⟨RL, "stepAt", "(LSumRewriter;III[J)I"⟩
abbrev cL_atTop : ByteArray := method_20_code
def yL_atTop : MethodName := ⟨RL, "atTop", "(LSumRewriter;II[J)I"⟩
abbrev cL_walk : ByteArray := method_21_code
def yL_walk : MethodName := ⟨RL, "walk", "(LSumRewriter;I[J)I"⟩
abbrev cL_reach : ByteArray := method_22_code
def yL_reach : MethodName := ⟨RL, "reach", "(LSumRewriter;IIZ[J)I"⟩
abbrev cL_reached : ByteArray := method_23_code
def yL_reached : MethodName := ⟨RL, "reached", "(LSumRewriter;IIZI[J)I"⟩
abbrev cL_meet : ByteArray := method_24_code
def yL_meet : MethodName := ⟨RL, "meet", "(LSumRewriter;III[J)I"⟩
abbrev cL_keep : ByteArray := method_25_code
def yL_keep : MethodName := ⟨RL, "keep", "(LSumRewriter;[J)I"⟩
theorem dL_signature_0 : decode cL_signature 0 = .ok (.aload_n 1, 1) := by decide +kernel
theorem dL_signature_1 : decode cL_signature 1 = .ok (.iconst 0, 1) := by decide +kernel
theorem dL_signature_2 : decode cL_signature 2 = .ok (.aload_n 0, 1) := by decide +kernel
theorem dL_signature_3 : decode cL_signature 3 = .ok (.invokevirtual 7, 3) := by decide +kernel
theorem dL_signature_6 : decode cL_signature 6 = .ok (.i2l, 1) := by decide +kernel
theorem dL_signature_7 : decode cL_signature 7 = .ok (.lastore, 1) := by decide +kernel
theorem dL_signature_8 : decode cL_signature 8 = .ok (.goto 6, 3) := by decide +kernel
theorem dL_signature_11 : decode cL_signature 11 = .ok (.astore_n 2, 1) := by decide +kernel
theorem dL_signature_12 : decode cL_signature 12 = .ok (.iconst 1, 1) := by decide +kernel
theorem dL_signature_13 : decode cL_signature 13 = .ok (.ireturn, 1) := by decide +kernel
theorem dL_signature_14 : decode cL_signature 14 = .ok (.iconst 0, 1) := by decide +kernel
theorem dL_signature_15 : decode cL_signature 15 = .ok (.ireturn, 1) := by decide +kernel
theorem dL_term_0 : decode cL_term 0 = .ok (.aload_n 1, 1) := by decide +kernel
theorem dL_term_1 : decode cL_term 1 = .ok (.iconst 0, 1) := by decide +kernel
theorem dL_term_2 : decode cL_term 2 = .ok (.aload_n 0, 1) := by decide +kernel
theorem dL_term_3 : decode cL_term 3 = .ok (.invokevirtual 15, 3) := by decide +kernel
theorem dL_term_6 : decode cL_term 6 = .ok (.i2l, 1) := by decide +kernel
theorem dL_term_7 : decode cL_term 7 = .ok (.lastore, 1) := by decide +kernel
theorem dL_term_8 : decode cL_term 8 = .ok (.goto 9, 3) := by decide +kernel
theorem dL_term_11 : decode cL_term 11 = .ok (.astore_n 2, 1) := by decide +kernel
theorem dL_term_12 : decode cL_term 12 = .ok (.iconst 1, 1) := by decide +kernel
theorem dL_term_13 : decode cL_term 13 = .ok (.ireturn, 1) := by decide +kernel
theorem dL_term_14 : decode cL_term 14 = .ok (.astore_n 2, 1) := by decide +kernel
theorem dL_term_15 : decode cL_term 15 = .ok (.iconst 2, 1) := by decide +kernel
theorem dL_term_16 : decode cL_term 16 = .ok (.ireturn, 1) := by decide +kernel
theorem dL_term_17 : decode cL_term 17 = .ok (.iconst 0, 1) := by decide +kernel
theorem dL_term_18 : decode cL_term 18 = .ok (.ireturn, 1) := by decide +kernel
theorem dL_rule_0 : decode cL_rule 0 = .ok (.aload_n 1, 1) := by decide +kernel
theorem dL_rule_1 : decode cL_rule 1 = .ok (.iconst 0, 1) := by decide +kernel
theorem dL_rule_2 : decode cL_rule 2 = .ok (.aload_n 0, 1) := by decide +kernel
theorem dL_rule_3 : decode cL_rule 3 = .ok (.invokevirtual 20, 3) := by decide +kernel
theorem dL_rule_6 : decode cL_rule 6 = .ok (.i2l, 1) := by decide +kernel
theorem dL_rule_7 : decode cL_rule 7 = .ok (.lastore, 1) := by decide +kernel
theorem dL_rule_8 : decode cL_rule 8 = .ok (.goto 9, 3) := by decide +kernel
theorem dL_rule_11 : decode cL_rule 11 = .ok (.astore_n 2, 1) := by decide +kernel
theorem dL_rule_12 : decode cL_rule 12 = .ok (.iconst 1, 1) := by decide +kernel
theorem dL_rule_13 : decode cL_rule 13 = .ok (.ireturn, 1) := by decide +kernel
theorem dL_rule_14 : decode cL_rule 14 = .ok (.astore_n 2, 1) := by decide +kernel
theorem dL_rule_15 : decode cL_rule 15 = .ok (.iconst 2, 1) := by decide +kernel
theorem dL_rule_16 : decode cL_rule 16 = .ok (.ireturn, 1) := by decide +kernel
theorem dL_rule_17 : decode cL_rule 17 = .ok (.iconst 0, 1) := by decide +kernel
theorem dL_rule_18 : decode cL_rule 18 = .ok (.ireturn, 1) := by decide +kernel
theorem dL_turn_0 : decode cL_turn 0 = .ok (.aload_n 3, 1) := by decide +kernel
theorem dL_turn_1 : decode cL_turn 1 = .ok (.iconst 0, 1) := by decide +kernel
theorem dL_turn_2 : decode cL_turn 2 = .ok (.aload_n 0, 1) := by decide +kernel
theorem dL_turn_3 : decode cL_turn 3 = .ok (.iload_n 1, 1) := by decide +kernel
theorem dL_turn_4 : decode cL_turn 4 = .ok (.iload_n 2, 1) := by decide +kernel
theorem dL_turn_5 : decode cL_turn 5 = .ok (.invokevirtual 23, 3) := by decide +kernel
theorem dL_turn_8 : decode cL_turn 8 = .ok (.ifCond .eq 7, 3) := by decide +kernel
theorem dL_turn_11 : decode cL_turn 11 = .ok (.lconst 1, 1) := by decide +kernel
theorem dL_turn_12 : decode cL_turn 12 = .ok (.goto 4, 3) := by decide +kernel
theorem dL_turn_15 : decode cL_turn 15 = .ok (.lconst 0, 1) := by decide +kernel
theorem dL_turn_16 : decode cL_turn 16 = .ok (.lastore, 1) := by decide +kernel
theorem dL_turn_17 : decode cL_turn 17 = .ok (.goto 7, 3) := by decide +kernel
theorem dL_turn_20 : decode cL_turn 20 = .ok (.astore 4, 2) := by decide +kernel
theorem dL_turn_22 : decode cL_turn 22 = .ok (.iconst 1, 1) := by decide +kernel
theorem dL_turn_23 : decode cL_turn 23 = .ok (.ireturn, 1) := by decide +kernel
theorem dL_turn_24 : decode cL_turn 24 = .ok (.iconst 0, 1) := by decide +kernel
theorem dL_turn_25 : decode cL_turn 25 = .ok (.ireturn, 1) := by decide +kernel
theorem dL_operator_0 : decode cL_operator 0 = .ok (.aload_n 3, 1) := by decide +kernel
theorem dL_operator_1 : decode cL_operator 1 = .ok (.iconst 0, 1) := by decide +kernel
theorem dL_operator_2 : decode cL_operator 2 = .ok (.aload_n 0, 1) := by decide +kernel
theorem dL_operator_3 : decode cL_operator 3 = .ok (.iload_n 1, 1) := by decide +kernel
theorem dL_operator_4 : decode cL_operator 4 = .ok (.iload_n 2, 1) := by decide +kernel
theorem dL_operator_5 : decode cL_operator 5 = .ok (.invokevirtual 29, 3) := by decide +kernel
theorem dL_operator_8 : decode cL_operator 8 = .ok (.i2l, 1) := by decide +kernel
theorem dL_operator_9 : decode cL_operator 9 = .ok (.lastore, 1) := by decide +kernel
theorem dL_operator_10 : decode cL_operator 10 = .ok (.goto 11, 3) := by decide +kernel
theorem dL_operator_13 : decode cL_operator 13 = .ok (.astore 4, 2) := by decide +kernel
theorem dL_operator_15 : decode cL_operator 15 = .ok (.iconst 1, 1) := by decide +kernel
theorem dL_operator_16 : decode cL_operator 16 = .ok (.ireturn, 1) := by decide +kernel
theorem dL_operator_17 : decode cL_operator 17 = .ok (.astore 4, 2) := by decide +kernel
theorem dL_operator_19 : decode cL_operator 19 = .ok (.iconst 2, 1) := by decide +kernel
theorem dL_operator_20 : decode cL_operator 20 = .ok (.ireturn, 1) := by decide +kernel
theorem dL_operator_21 : decode cL_operator 21 = .ok (.iconst 0, 1) := by decide +kernel
theorem dL_operator_22 : decode cL_operator 22 = .ok (.ireturn, 1) := by decide +kernel
theorem dL_about_0 : decode cL_about 0 = .ok (.aload_n 3, 1) := by decide +kernel
theorem dL_about_1 : decode cL_about 1 = .ok (.iconst 0, 1) := by decide +kernel
theorem dL_about_2 : decode cL_about 2 = .ok (.aload_n 0, 1) := by decide +kernel
theorem dL_about_3 : decode cL_about 3 = .ok (.iload_n 1, 1) := by decide +kernel
theorem dL_about_4 : decode cL_about 4 = .ok (.iload_n 2, 1) := by decide +kernel
theorem dL_about_5 : decode cL_about 5 = .ok (.invokevirtual 35, 3) := by decide +kernel
theorem dL_about_8 : decode cL_about 8 = .ok (.i2l, 1) := by decide +kernel
theorem dL_about_9 : decode cL_about 9 = .ok (.lastore, 1) := by decide +kernel
theorem dL_about_10 : decode cL_about 10 = .ok (.goto 11, 3) := by decide +kernel
theorem dL_about_13 : decode cL_about 13 = .ok (.astore 4, 2) := by decide +kernel
theorem dL_about_15 : decode cL_about 15 = .ok (.iconst 1, 1) := by decide +kernel
theorem dL_about_16 : decode cL_about 16 = .ok (.ireturn, 1) := by decide +kernel
theorem dL_about_17 : decode cL_about 17 = .ok (.astore 4, 2) := by decide +kernel
theorem dL_about_19 : decode cL_about 19 = .ok (.iconst 2, 1) := by decide +kernel
theorem dL_about_20 : decode cL_about 20 = .ok (.ireturn, 1) := by decide +kernel
theorem dL_about_21 : decode cL_about 21 = .ok (.iconst 0, 1) := by decide +kernel
theorem dL_about_22 : decode cL_about 22 = .ok (.ireturn, 1) := by decide +kernel
theorem dL_order_0 : decode cL_order 0 = .ok (.aload_n 3, 1) := by decide +kernel
theorem dL_order_1 : decode cL_order 1 = .ok (.iconst 0, 1) := by decide +kernel
theorem dL_order_2 : decode cL_order 2 = .ok (.aload_n 0, 1) := by decide +kernel
theorem dL_order_3 : decode cL_order 3 = .ok (.iload_n 1, 1) := by decide +kernel
theorem dL_order_4 : decode cL_order 4 = .ok (.iload_n 2, 1) := by decide +kernel
theorem dL_order_5 : decode cL_order 5 = .ok (.invokevirtual 38, 3) := by decide +kernel
theorem dL_order_8 : decode cL_order 8 = .ok (.i2l, 1) := by decide +kernel
theorem dL_order_9 : decode cL_order 9 = .ok (.lastore, 1) := by decide +kernel
theorem dL_order_10 : decode cL_order 10 = .ok (.goto 7, 3) := by decide +kernel
theorem dL_order_13 : decode cL_order 13 = .ok (.astore 4, 2) := by decide +kernel
theorem dL_order_15 : decode cL_order 15 = .ok (.iconst 1, 1) := by decide +kernel
theorem dL_order_16 : decode cL_order 16 = .ok (.ireturn, 1) := by decide +kernel
theorem dL_order_17 : decode cL_order 17 = .ok (.iconst 0, 1) := by decide +kernel
theorem dL_order_18 : decode cL_order 18 = .ok (.ireturn, 1) := by decide +kernel
theorem dL_show_0 : decode cL_show 0 = .ok (.aload_n 2, 1) := by decide +kernel
theorem dL_show_1 : decode cL_show 1 = .ok (.iconst 0, 1) := by decide +kernel
theorem dL_show_2 : decode cL_show 2 = .ok (.aload_n 0, 1) := by decide +kernel
theorem dL_show_3 : decode cL_show 3 = .ok (.iload_n 1, 1) := by decide +kernel
theorem dL_show_4 : decode cL_show 4 = .ok (.invokevirtual 41, 3) := by decide +kernel
theorem dL_show_7 : decode cL_show 7 = .ok (.i2l, 1) := by decide +kernel
theorem dL_show_8 : decode cL_show 8 = .ok (.lastore, 1) := by decide +kernel
theorem dL_show_9 : decode cL_show 9 = .ok (.goto 6, 3) := by decide +kernel
theorem dL_show_12 : decode cL_show 12 = .ok (.astore_n 3, 1) := by decide +kernel
theorem dL_show_13 : decode cL_show 13 = .ok (.iconst 1, 1) := by decide +kernel
theorem dL_show_14 : decode cL_show 14 = .ok (.ireturn, 1) := by decide +kernel
theorem dL_show_15 : decode cL_show 15 = .ok (.iconst 0, 1) := by decide +kernel
theorem dL_show_16 : decode cL_show 16 = .ok (.ireturn, 1) := by decide +kernel
theorem dL_place_0 : decode cL_place 0 = .ok (.aload_n 3, 1) := by decide +kernel
theorem dL_place_1 : decode cL_place 1 = .ok (.iconst 0, 1) := by decide +kernel
theorem dL_place_2 : decode cL_place 2 = .ok (.aload_n 0, 1) := by decide +kernel
theorem dL_place_3 : decode cL_place 3 = .ok (.iload_n 1, 1) := by decide +kernel
theorem dL_place_4 : decode cL_place 4 = .ok (.iload_n 2, 1) := by decide +kernel
theorem dL_place_5 : decode cL_place 5 = .ok (.invokevirtual 45, 3) := by decide +kernel
theorem dL_place_8 : decode cL_place 8 = .ok (.i2l, 1) := by decide +kernel
theorem dL_place_9 : decode cL_place 9 = .ok (.lastore, 1) := by decide +kernel
theorem dL_place_10 : decode cL_place 10 = .ok (.goto 11, 3) := by decide +kernel
theorem dL_place_13 : decode cL_place 13 = .ok (.astore 4, 2) := by decide +kernel
theorem dL_place_15 : decode cL_place 15 = .ok (.iconst 1, 1) := by decide +kernel
theorem dL_place_16 : decode cL_place 16 = .ok (.ireturn, 1) := by decide +kernel
theorem dL_place_17 : decode cL_place 17 = .ok (.astore 4, 2) := by decide +kernel
theorem dL_place_19 : decode cL_place 19 = .ok (.iconst 2, 1) := by decide +kernel
theorem dL_place_20 : decode cL_place 20 = .ok (.ireturn, 1) := by decide +kernel
theorem dL_place_21 : decode cL_place 21 = .ok (.iconst 0, 1) := by decide +kernel
theorem dL_place_22 : decode cL_place 22 = .ok (.ireturn, 1) := by decide +kernel
theorem dL_side_0 : decode cL_side 0 = .ok (.aload_n 3, 1) := by decide +kernel
theorem dL_side_1 : decode cL_side 1 = .ok (.iconst 0, 1) := by decide +kernel
theorem dL_side_2 : decode cL_side 2 = .ok (.aload_n 0, 1) := by decide +kernel
theorem dL_side_3 : decode cL_side 3 = .ok (.iload_n 1, 1) := by decide +kernel
theorem dL_side_4 : decode cL_side 4 = .ok (.iload_n 2, 1) := by decide +kernel
theorem dL_side_5 : decode cL_side 5 = .ok (.invokevirtual 48, 3) := by decide +kernel
theorem dL_side_8 : decode cL_side 8 = .ok (.i2l, 1) := by decide +kernel
theorem dL_side_9 : decode cL_side 9 = .ok (.lastore, 1) := by decide +kernel
theorem dL_side_10 : decode cL_side 10 = .ok (.goto 7, 3) := by decide +kernel
theorem dL_side_13 : decode cL_side 13 = .ok (.astore 4, 2) := by decide +kernel
theorem dL_side_15 : decode cL_side 15 = .ok (.iconst 1, 1) := by decide +kernel
theorem dL_side_16 : decode cL_side 16 = .ok (.ireturn, 1) := by decide +kernel
theorem dL_side_17 : decode cL_side 17 = .ok (.iconst 0, 1) := by decide +kernel
theorem dL_side_18 : decode cL_side 18 = .ok (.ireturn, 1) := by decide +kernel
theorem dL_matches_0 : decode cL_matches 0 = .ok (.aload_n 3, 1) := by decide +kernel
theorem dL_matches_1 : decode cL_matches 1 = .ok (.iconst 0, 1) := by decide +kernel
theorem dL_matches_2 : decode cL_matches 2 = .ok (.aload_n 0, 1) := by decide +kernel
theorem dL_matches_3 : decode cL_matches 3 = .ok (.iload_n 1, 1) := by decide +kernel
theorem dL_matches_4 : decode cL_matches 4 = .ok (.iload_n 2, 1) := by decide +kernel
theorem dL_matches_5 : decode cL_matches 5 = .ok (.invokevirtual 52, 3) := by decide +kernel
theorem dL_matches_8 : decode cL_matches 8 = .ok (.i2l, 1) := by decide +kernel
theorem dL_matches_9 : decode cL_matches 9 = .ok (.lastore, 1) := by decide +kernel
theorem dL_matches_10 : decode cL_matches 10 = .ok (.goto 11, 3) := by decide +kernel
theorem dL_matches_13 : decode cL_matches 13 = .ok (.astore 4, 2) := by decide +kernel
theorem dL_matches_15 : decode cL_matches 15 = .ok (.iconst 1, 1) := by decide +kernel
theorem dL_matches_16 : decode cL_matches 16 = .ok (.ireturn, 1) := by decide +kernel
theorem dL_matches_17 : decode cL_matches 17 = .ok (.astore 4, 2) := by decide +kernel
theorem dL_matches_19 : decode cL_matches 19 = .ok (.iconst 2, 1) := by decide +kernel
theorem dL_matches_20 : decode cL_matches 20 = .ok (.ireturn, 1) := by decide +kernel
theorem dL_matches_21 : decode cL_matches 21 = .ok (.iconst 0, 1) := by decide +kernel
theorem dL_matches_22 : decode cL_matches 22 = .ok (.ireturn, 1) := by decide +kernel
theorem dL_bound_0 : decode cL_bound 0 = .ok (.aload 5, 2) := by decide +kernel
theorem dL_bound_2 : decode cL_bound 2 = .ok (.iconst 0, 1) := by decide +kernel
theorem dL_bound_3 : decode cL_bound 3 = .ok (.aload_n 0, 1) := by decide +kernel
theorem dL_bound_4 : decode cL_bound 4 = .ok (.iload_n 1, 1) := by decide +kernel
theorem dL_bound_5 : decode cL_bound 5 = .ok (.iload_n 2, 1) := by decide +kernel
theorem dL_bound_6 : decode cL_bound 6 = .ok (.iload_n 3, 1) := by decide +kernel
theorem dL_bound_7 : decode cL_bound 7 = .ok (.iload 4, 2) := by decide +kernel
theorem dL_bound_9 : decode cL_bound 9 = .ok (.invokevirtual 55, 3) := by decide +kernel
theorem dL_bound_12 : decode cL_bound 12 = .ok (.i2l, 1) := by decide +kernel
theorem dL_bound_13 : decode cL_bound 13 = .ok (.lastore, 1) := by decide +kernel
theorem dL_bound_14 : decode cL_bound 14 = .ok (.goto 15, 3) := by decide +kernel
theorem dL_bound_17 : decode cL_bound 17 = .ok (.astore 6, 2) := by decide +kernel
theorem dL_bound_19 : decode cL_bound 19 = .ok (.iconst 1, 1) := by decide +kernel
theorem dL_bound_20 : decode cL_bound 20 = .ok (.ireturn, 1) := by decide +kernel
theorem dL_bound_21 : decode cL_bound 21 = .ok (.astore 6, 2) := by decide +kernel
theorem dL_bound_23 : decode cL_bound 23 = .ok (.iconst 2, 1) := by decide +kernel
theorem dL_bound_24 : decode cL_bound 24 = .ok (.ireturn, 1) := by decide +kernel
theorem dL_bound_25 : decode cL_bound 25 = .ok (.astore 6, 2) := by decide +kernel
theorem dL_bound_27 : decode cL_bound 27 = .ok (.iconst 3, 1) := by decide +kernel
theorem dL_bound_28 : decode cL_bound 28 = .ok (.ireturn, 1) := by decide +kernel
theorem dL_bound_29 : decode cL_bound 29 = .ok (.iconst 0, 1) := by decide +kernel
theorem dL_bound_30 : decode cL_bound 30 = .ok (.ireturn, 1) := by decide +kernel
theorem dL_fill_0 : decode cL_fill 0 = .ok (.aload 4, 2) := by decide +kernel
theorem dL_fill_2 : decode cL_fill 2 = .ok (.iconst 0, 1) := by decide +kernel
theorem dL_fill_3 : decode cL_fill 3 = .ok (.aload_n 0, 1) := by decide +kernel
theorem dL_fill_4 : decode cL_fill 4 = .ok (.iload_n 1, 1) := by decide +kernel
theorem dL_fill_5 : decode cL_fill 5 = .ok (.iload_n 2, 1) := by decide +kernel
theorem dL_fill_6 : decode cL_fill 6 = .ok (.iload_n 3, 1) := by decide +kernel
theorem dL_fill_7 : decode cL_fill 7 = .ok (.invokevirtual 59, 3) := by decide +kernel
theorem dL_fill_10 : decode cL_fill 10 = .ok (.i2l, 1) := by decide +kernel
theorem dL_fill_11 : decode cL_fill 11 = .ok (.lastore, 1) := by decide +kernel
theorem dL_fill_12 : decode cL_fill 12 = .ok (.goto 11, 3) := by decide +kernel
theorem dL_fill_15 : decode cL_fill 15 = .ok (.astore 5, 2) := by decide +kernel
theorem dL_fill_17 : decode cL_fill 17 = .ok (.iconst 1, 1) := by decide +kernel
theorem dL_fill_18 : decode cL_fill 18 = .ok (.ireturn, 1) := by decide +kernel
theorem dL_fill_19 : decode cL_fill 19 = .ok (.astore 5, 2) := by decide +kernel
theorem dL_fill_21 : decode cL_fill 21 = .ok (.iconst 2, 1) := by decide +kernel
theorem dL_fill_22 : decode cL_fill 22 = .ok (.ireturn, 1) := by decide +kernel
theorem dL_fill_23 : decode cL_fill 23 = .ok (.iconst 0, 1) := by decide +kernel
theorem dL_fill_24 : decode cL_fill 24 = .ok (.ireturn, 1) := by decide +kernel
theorem dL_join_0 : decode cL_join 0 = .ok (.aload 4, 2) := by decide +kernel
theorem dL_join_2 : decode cL_join 2 = .ok (.iconst 0, 1) := by decide +kernel
theorem dL_join_3 : decode cL_join 3 = .ok (.aload_n 0, 1) := by decide +kernel
theorem dL_join_4 : decode cL_join 4 = .ok (.iload_n 1, 1) := by decide +kernel
theorem dL_join_5 : decode cL_join 5 = .ok (.iload_n 2, 1) := by decide +kernel
theorem dL_join_6 : decode cL_join 6 = .ok (.iload_n 3, 1) := by decide +kernel
theorem dL_join_7 : decode cL_join 7 = .ok (.invokevirtual 63, 3) := by decide +kernel
theorem dL_join_10 : decode cL_join 10 = .ok (.i2l, 1) := by decide +kernel
theorem dL_join_11 : decode cL_join 11 = .ok (.lastore, 1) := by decide +kernel
theorem dL_join_12 : decode cL_join 12 = .ok (.goto 15, 3) := by decide +kernel
theorem dL_join_15 : decode cL_join 15 = .ok (.astore 5, 2) := by decide +kernel
theorem dL_join_17 : decode cL_join 17 = .ok (.iconst 1, 1) := by decide +kernel
theorem dL_join_18 : decode cL_join 18 = .ok (.ireturn, 1) := by decide +kernel
theorem dL_join_19 : decode cL_join 19 = .ok (.astore 5, 2) := by decide +kernel
theorem dL_join_21 : decode cL_join 21 = .ok (.iconst 2, 1) := by decide +kernel
theorem dL_join_22 : decode cL_join 22 = .ok (.ireturn, 1) := by decide +kernel
theorem dL_join_23 : decode cL_join 23 = .ok (.astore 5, 2) := by decide +kernel
theorem dL_join_25 : decode cL_join 25 = .ok (.iconst 3, 1) := by decide +kernel
theorem dL_join_26 : decode cL_join 26 = .ok (.ireturn, 1) := by decide +kernel
theorem dL_join_27 : decode cL_join 27 = .ok (.iconst 0, 1) := by decide +kernel
theorem dL_join_28 : decode cL_join 28 = .ok (.ireturn, 1) := by decide +kernel
theorem dL_steps_0 : decode cL_steps 0 = .ok (.aload_n 2, 1) := by decide +kernel
theorem dL_steps_1 : decode cL_steps 1 = .ok (.iconst 0, 1) := by decide +kernel
theorem dL_steps_2 : decode cL_steps 2 = .ok (.aload_n 0, 1) := by decide +kernel
theorem dL_steps_3 : decode cL_steps 3 = .ok (.iload_n 1, 1) := by decide +kernel
theorem dL_steps_4 : decode cL_steps 4 = .ok (.invokevirtual 66, 3) := by decide +kernel
theorem dL_steps_7 : decode cL_steps 7 = .ok (.i2l, 1) := by decide +kernel
theorem dL_steps_8 : decode cL_steps 8 = .ok (.lastore, 1) := by decide +kernel
theorem dL_steps_9 : decode cL_steps 9 = .ok (.goto 9, 3) := by decide +kernel
theorem dL_steps_12 : decode cL_steps 12 = .ok (.astore_n 3, 1) := by decide +kernel
theorem dL_steps_13 : decode cL_steps 13 = .ok (.iconst 1, 1) := by decide +kernel
theorem dL_steps_14 : decode cL_steps 14 = .ok (.ireturn, 1) := by decide +kernel
theorem dL_steps_15 : decode cL_steps 15 = .ok (.astore_n 3, 1) := by decide +kernel
theorem dL_steps_16 : decode cL_steps 16 = .ok (.iconst 2, 1) := by decide +kernel
theorem dL_steps_17 : decode cL_steps 17 = .ok (.ireturn, 1) := by decide +kernel
theorem dL_steps_18 : decode cL_steps 18 = .ok (.iconst 0, 1) := by decide +kernel
theorem dL_steps_19 : decode cL_steps 19 = .ok (.ireturn, 1) := by decide +kernel
theorem dL_step_0 : decode cL_step 0 = .ok (.aload_n 3, 1) := by decide +kernel
theorem dL_step_1 : decode cL_step 1 = .ok (.iconst 0, 1) := by decide +kernel
theorem dL_step_2 : decode cL_step 2 = .ok (.aload_n 0, 1) := by decide +kernel
theorem dL_step_3 : decode cL_step 3 = .ok (.iload_n 1, 1) := by decide +kernel
theorem dL_step_4 : decode cL_step 4 = .ok (.iload_n 2, 1) := by decide +kernel
theorem dL_step_5 : decode cL_step 5 = .ok (.invokevirtual 69, 3) := by decide +kernel
theorem dL_step_8 : decode cL_step 8 = .ok (.i2l, 1) := by decide +kernel
theorem dL_step_9 : decode cL_step 9 = .ok (.lastore, 1) := by decide +kernel
theorem dL_step_10 : decode cL_step 10 = .ok (.goto 15, 3) := by decide +kernel
theorem dL_step_13 : decode cL_step 13 = .ok (.astore 4, 2) := by decide +kernel
theorem dL_step_15 : decode cL_step 15 = .ok (.iconst 1, 1) := by decide +kernel
theorem dL_step_16 : decode cL_step 16 = .ok (.ireturn, 1) := by decide +kernel
theorem dL_step_17 : decode cL_step 17 = .ok (.astore 4, 2) := by decide +kernel
theorem dL_step_19 : decode cL_step 19 = .ok (.iconst 2, 1) := by decide +kernel
theorem dL_step_20 : decode cL_step 20 = .ok (.ireturn, 1) := by decide +kernel
theorem dL_step_21 : decode cL_step 21 = .ok (.astore 4, 2) := by decide +kernel
theorem dL_step_23 : decode cL_step 23 = .ok (.iconst 3, 1) := by decide +kernel
theorem dL_step_24 : decode cL_step 24 = .ok (.ireturn, 1) := by decide +kernel
theorem dL_step_25 : decode cL_step 25 = .ok (.iconst 0, 1) := by decide +kernel
theorem dL_step_26 : decode cL_step 26 = .ok (.ireturn, 1) := by decide +kernel
theorem dL_stepAt_0 : decode cL_stepAt 0 = .ok (.aload 4, 2) := by decide +kernel
theorem dL_stepAt_2 : decode cL_stepAt 2 = .ok (.iconst 0, 1) := by decide +kernel
theorem dL_stepAt_3 : decode cL_stepAt 3 = .ok (.aload_n 0, 1) := by decide +kernel
theorem dL_stepAt_4 : decode cL_stepAt 4 = .ok (.iload_n 1, 1) := by decide +kernel
theorem dL_stepAt_5 : decode cL_stepAt 5 = .ok (.iload_n 2, 1) := by decide +kernel
theorem dL_stepAt_6 : decode cL_stepAt 6 = .ok (.iload_n 3, 1) := by decide +kernel
theorem dL_stepAt_7 : decode cL_stepAt 7 = .ok (.invokevirtual 72, 3) := by decide +kernel
theorem dL_stepAt_10 : decode cL_stepAt 10 = .ok (.i2l, 1) := by decide +kernel
theorem dL_stepAt_11 : decode cL_stepAt 11 = .ok (.lastore, 1) := by decide +kernel
theorem dL_stepAt_12 : decode cL_stepAt 12 = .ok (.goto 15, 3) := by decide +kernel
theorem dL_stepAt_15 : decode cL_stepAt 15 = .ok (.astore 5, 2) := by decide +kernel
theorem dL_stepAt_17 : decode cL_stepAt 17 = .ok (.iconst 1, 1) := by decide +kernel
theorem dL_stepAt_18 : decode cL_stepAt 18 = .ok (.ireturn, 1) := by decide +kernel
theorem dL_stepAt_19 : decode cL_stepAt 19 = .ok (.astore 5, 2) := by decide +kernel
theorem dL_stepAt_21 : decode cL_stepAt 21 = .ok (.iconst 2, 1) := by decide +kernel
theorem dL_stepAt_22 : decode cL_stepAt 22 = .ok (.ireturn, 1) := by decide +kernel
theorem dL_stepAt_23 : decode cL_stepAt 23 = .ok (.astore 5, 2) := by decide +kernel
theorem dL_stepAt_25 : decode cL_stepAt 25 = .ok (.iconst 3, 1) := by decide +kernel
theorem dL_stepAt_26 : decode cL_stepAt 26 = .ok (.ireturn, 1) := by decide +kernel
theorem dL_stepAt_27 : decode cL_stepAt 27 = .ok (.iconst 0, 1) := by decide +kernel
theorem dL_stepAt_28 : decode cL_stepAt 28 = .ok (.ireturn, 1) := by decide +kernel
theorem dL_atTop_0 : decode cL_atTop 0 = .ok (.aload_n 3, 1) := by decide +kernel
theorem dL_atTop_1 : decode cL_atTop 1 = .ok (.iconst 0, 1) := by decide +kernel
theorem dL_atTop_2 : decode cL_atTop 2 = .ok (.aload_n 0, 1) := by decide +kernel
theorem dL_atTop_3 : decode cL_atTop 3 = .ok (.iload_n 1, 1) := by decide +kernel
theorem dL_atTop_4 : decode cL_atTop 4 = .ok (.iload_n 2, 1) := by decide +kernel
theorem dL_atTop_5 : decode cL_atTop 5 = .ok (.invokevirtual 75, 3) := by decide +kernel
theorem dL_atTop_8 : decode cL_atTop 8 = .ok (.i2l, 1) := by decide +kernel
theorem dL_atTop_9 : decode cL_atTop 9 = .ok (.lastore, 1) := by decide +kernel
theorem dL_atTop_10 : decode cL_atTop 10 = .ok (.goto 11, 3) := by decide +kernel
theorem dL_atTop_13 : decode cL_atTop 13 = .ok (.astore 4, 2) := by decide +kernel
theorem dL_atTop_15 : decode cL_atTop 15 = .ok (.iconst 1, 1) := by decide +kernel
theorem dL_atTop_16 : decode cL_atTop 16 = .ok (.ireturn, 1) := by decide +kernel
theorem dL_atTop_17 : decode cL_atTop 17 = .ok (.astore 4, 2) := by decide +kernel
theorem dL_atTop_19 : decode cL_atTop 19 = .ok (.iconst 2, 1) := by decide +kernel
theorem dL_atTop_20 : decode cL_atTop 20 = .ok (.ireturn, 1) := by decide +kernel
theorem dL_atTop_21 : decode cL_atTop 21 = .ok (.iconst 0, 1) := by decide +kernel
theorem dL_atTop_22 : decode cL_atTop 22 = .ok (.ireturn, 1) := by decide +kernel
theorem dL_walk_0 : decode cL_walk 0 = .ok (.aload_n 2, 1) := by decide +kernel
theorem dL_walk_1 : decode cL_walk 1 = .ok (.iconst 0, 1) := by decide +kernel
theorem dL_walk_2 : decode cL_walk 2 = .ok (.aload_n 0, 1) := by decide +kernel
theorem dL_walk_3 : decode cL_walk 3 = .ok (.iload_n 1, 1) := by decide +kernel
theorem dL_walk_4 : decode cL_walk 4 = .ok (.invokevirtual 78, 3) := by decide +kernel
theorem dL_walk_7 : decode cL_walk 7 = .ok (.i2l, 1) := by decide +kernel
theorem dL_walk_8 : decode cL_walk 8 = .ok (.lastore, 1) := by decide +kernel
theorem dL_walk_9 : decode cL_walk 9 = .ok (.goto 9, 3) := by decide +kernel
theorem dL_walk_12 : decode cL_walk 12 = .ok (.astore_n 3, 1) := by decide +kernel
theorem dL_walk_13 : decode cL_walk 13 = .ok (.iconst 1, 1) := by decide +kernel
theorem dL_walk_14 : decode cL_walk 14 = .ok (.ireturn, 1) := by decide +kernel
theorem dL_walk_15 : decode cL_walk 15 = .ok (.astore_n 3, 1) := by decide +kernel
theorem dL_walk_16 : decode cL_walk 16 = .ok (.iconst 2, 1) := by decide +kernel
theorem dL_walk_17 : decode cL_walk 17 = .ok (.ireturn, 1) := by decide +kernel
theorem dL_walk_18 : decode cL_walk 18 = .ok (.iconst 0, 1) := by decide +kernel
theorem dL_walk_19 : decode cL_walk 19 = .ok (.ireturn, 1) := by decide +kernel
theorem dL_reach_0 : decode cL_reach 0 = .ok (.aload 4, 2) := by decide +kernel
theorem dL_reach_2 : decode cL_reach 2 = .ok (.iconst 0, 1) := by decide +kernel
theorem dL_reach_3 : decode cL_reach 3 = .ok (.aload_n 0, 1) := by decide +kernel
theorem dL_reach_4 : decode cL_reach 4 = .ok (.iload_n 1, 1) := by decide +kernel
theorem dL_reach_5 : decode cL_reach 5 = .ok (.iload_n 2, 1) := by decide +kernel
theorem dL_reach_6 : decode cL_reach 6 = .ok (.iload_n 3, 1) := by decide +kernel
theorem dL_reach_7 : decode cL_reach 7 = .ok (.invokevirtual 81, 3) := by decide +kernel
theorem dL_reach_10 : decode cL_reach 10 = .ok (.i2l, 1) := by decide +kernel
theorem dL_reach_11 : decode cL_reach 11 = .ok (.lastore, 1) := by decide +kernel
theorem dL_reach_12 : decode cL_reach 12 = .ok (.goto 15, 3) := by decide +kernel
theorem dL_reach_15 : decode cL_reach 15 = .ok (.astore 5, 2) := by decide +kernel
theorem dL_reach_17 : decode cL_reach 17 = .ok (.iconst 1, 1) := by decide +kernel
theorem dL_reach_18 : decode cL_reach 18 = .ok (.ireturn, 1) := by decide +kernel
theorem dL_reach_19 : decode cL_reach 19 = .ok (.astore 5, 2) := by decide +kernel
theorem dL_reach_21 : decode cL_reach 21 = .ok (.iconst 2, 1) := by decide +kernel
theorem dL_reach_22 : decode cL_reach 22 = .ok (.ireturn, 1) := by decide +kernel
theorem dL_reach_23 : decode cL_reach 23 = .ok (.astore 5, 2) := by decide +kernel
theorem dL_reach_25 : decode cL_reach 25 = .ok (.iconst 3, 1) := by decide +kernel
theorem dL_reach_26 : decode cL_reach 26 = .ok (.ireturn, 1) := by decide +kernel
theorem dL_reach_27 : decode cL_reach 27 = .ok (.iconst 0, 1) := by decide +kernel
theorem dL_reach_28 : decode cL_reach 28 = .ok (.ireturn, 1) := by decide +kernel
theorem dL_reached_0 : decode cL_reached 0 = .ok (.aload 5, 2) := by decide +kernel
theorem dL_reached_2 : decode cL_reached 2 = .ok (.iconst 0, 1) := by decide +kernel
theorem dL_reached_3 : decode cL_reached 3 = .ok (.aload_n 0, 1) := by decide +kernel
theorem dL_reached_4 : decode cL_reached 4 = .ok (.iload_n 1, 1) := by decide +kernel
theorem dL_reached_5 : decode cL_reached 5 = .ok (.iload_n 2, 1) := by decide +kernel
theorem dL_reached_6 : decode cL_reached 6 = .ok (.iload_n 3, 1) := by decide +kernel
theorem dL_reached_7 : decode cL_reached 7 = .ok (.iload 4, 2) := by decide +kernel
theorem dL_reached_9 : decode cL_reached 9 = .ok (.invokevirtual 85, 3) := by decide +kernel
theorem dL_reached_12 : decode cL_reached 12 = .ok (.i2l, 1) := by decide +kernel
theorem dL_reached_13 : decode cL_reached 13 = .ok (.lastore, 1) := by decide +kernel
theorem dL_reached_14 : decode cL_reached 14 = .ok (.goto 19, 3) := by decide +kernel
theorem dL_reached_17 : decode cL_reached 17 = .ok (.astore 6, 2) := by decide +kernel
theorem dL_reached_19 : decode cL_reached 19 = .ok (.iconst 1, 1) := by decide +kernel
theorem dL_reached_20 : decode cL_reached 20 = .ok (.ireturn, 1) := by decide +kernel
theorem dL_reached_21 : decode cL_reached 21 = .ok (.astore 6, 2) := by decide +kernel
theorem dL_reached_23 : decode cL_reached 23 = .ok (.iconst 2, 1) := by decide +kernel
theorem dL_reached_24 : decode cL_reached 24 = .ok (.ireturn, 1) := by decide +kernel
theorem dL_reached_25 : decode cL_reached 25 = .ok (.astore 6, 2) := by decide +kernel
theorem dL_reached_27 : decode cL_reached 27 = .ok (.iconst 3, 1) := by decide +kernel
theorem dL_reached_28 : decode cL_reached 28 = .ok (.ireturn, 1) := by decide +kernel
theorem dL_reached_29 : decode cL_reached 29 = .ok (.astore 6, 2) := by decide +kernel
theorem dL_reached_31 : decode cL_reached 31 = .ok (.iconst 4, 1) := by decide +kernel
theorem dL_reached_32 : decode cL_reached 32 = .ok (.ireturn, 1) := by decide +kernel
theorem dL_reached_33 : decode cL_reached 33 = .ok (.iconst 0, 1) := by decide +kernel
theorem dL_reached_34 : decode cL_reached 34 = .ok (.ireturn, 1) := by decide +kernel
theorem dL_meet_0 : decode cL_meet 0 = .ok (.aload 4, 2) := by decide +kernel
theorem dL_meet_2 : decode cL_meet 2 = .ok (.iconst 0, 1) := by decide +kernel
theorem dL_meet_3 : decode cL_meet 3 = .ok (.aload_n 0, 1) := by decide +kernel
theorem dL_meet_4 : decode cL_meet 4 = .ok (.iload_n 1, 1) := by decide +kernel
theorem dL_meet_5 : decode cL_meet 5 = .ok (.iload_n 2, 1) := by decide +kernel
theorem dL_meet_6 : decode cL_meet 6 = .ok (.iload_n 3, 1) := by decide +kernel
theorem dL_meet_7 : decode cL_meet 7 = .ok (.invokevirtual 89, 3) := by decide +kernel
theorem dL_meet_10 : decode cL_meet 10 = .ok (.i2l, 1) := by decide +kernel
theorem dL_meet_11 : decode cL_meet 11 = .ok (.lastore, 1) := by decide +kernel
theorem dL_meet_12 : decode cL_meet 12 = .ok (.goto 15, 3) := by decide +kernel
theorem dL_meet_15 : decode cL_meet 15 = .ok (.astore 5, 2) := by decide +kernel
theorem dL_meet_17 : decode cL_meet 17 = .ok (.iconst 1, 1) := by decide +kernel
theorem dL_meet_18 : decode cL_meet 18 = .ok (.ireturn, 1) := by decide +kernel
theorem dL_meet_19 : decode cL_meet 19 = .ok (.astore 5, 2) := by decide +kernel
theorem dL_meet_21 : decode cL_meet 21 = .ok (.iconst 2, 1) := by decide +kernel
theorem dL_meet_22 : decode cL_meet 22 = .ok (.ireturn, 1) := by decide +kernel
theorem dL_meet_23 : decode cL_meet 23 = .ok (.astore 5, 2) := by decide +kernel
theorem dL_meet_25 : decode cL_meet 25 = .ok (.iconst 3, 1) := by decide +kernel
theorem dL_meet_26 : decode cL_meet 26 = .ok (.ireturn, 1) := by decide +kernel
theorem dL_meet_27 : decode cL_meet 27 = .ok (.iconst 0, 1) := by decide +kernel
theorem dL_meet_28 : decode cL_meet 28 = .ok (.ireturn, 1) := by decide +kernel
theorem dL_keep_0 : decode cL_keep 0 = .ok (.aload_n 1, 1) := by decide +kernel
theorem dL_keep_1 : decode cL_keep 1 = .ok (.iconst 0, 1) := by decide +kernel
theorem dL_keep_2 : decode cL_keep 2 = .ok (.aload_n 0, 1) := by decide +kernel
theorem dL_keep_3 : decode cL_keep 3 = .ok (.invokevirtual 92, 3) := by decide +kernel
theorem dL_keep_6 : decode cL_keep 6 = .ok (.i2l, 1) := by decide +kernel
theorem dL_keep_7 : decode cL_keep 7 = .ok (.lastore, 1) := by decide +kernel
theorem dL_keep_8 : decode cL_keep 8 = .ok (.goto 6, 3) := by decide +kernel
theorem dL_keep_11 : decode cL_keep 11 = .ok (.astore_n 2, 1) := by decide +kernel
theorem dL_keep_12 : decode cL_keep 12 = .ok (.iconst 1, 1) := by decide +kernel
theorem dL_keep_13 : decode cL_keep 13 = .ok (.ireturn, 1) := by decide +kernel
theorem dL_keep_14 : decode cL_keep 14 = .ok (.iconst 0, 1) := by decide +kernel
theorem dL_keep_15 : decode cL_keep 15 = .ok (.ireturn, 1) := by decide +kernel

