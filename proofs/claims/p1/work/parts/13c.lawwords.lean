def wo_law0 : List Cond := ([] : List Cond) ++ ((wsV RL 99 RX9 yX9_feed wo_X9_feed) ++ ((wsV RL 103 RX10 yX10_feed wo_X10_feed_f)))
set_option maxRecDepth 20000 in
theorem go_wo_law0_0 : GoodIn wo_law0 (wsV RL 99 RX9 yX9_feed wo_X9_feed) := goodIn_sub (fun _ h => (List.mem_append_right _ (List.mem_append_left _ h))) (by decide +kernel)
set_option maxRecDepth 20000 in
theorem go_wo_law0_1 : GoodIn wo_law0 (wsV RL 103 RX10 yX10_feed wo_X10_feed_f) := goodIn_sub (fun _ h => (List.mem_append_right _ (List.mem_append_right _ h))) (by decide +kernel)

def wo_law1 : List Cond := ([] : List Cond) ++ ((wsV RL 104 RX9 yX9_end wo_X9_end) ++ ((wsV RL 108 RX10 yX10_end wo_X10_end_f)))
set_option maxRecDepth 20000 in
theorem go_wo_law1_0 : GoodIn wo_law1 (wsV RL 104 RX9 yX9_end wo_X9_end) := goodIn_sub (fun _ h => (List.mem_append_right _ (List.mem_append_left _ h))) (by decide +kernel)
set_option maxRecDepth 20000 in
theorem go_wo_law1_1 : GoodIn wo_law1 (wsV RL 108 RX10 yX10_end wo_X10_end_f) := goodIn_sub (fun _ h => (List.mem_append_right _ (List.mem_append_right _ h))) (by decide +kernel)

def wo_law2 : List Cond := ([] : List Cond) ++ ((va_wsS RL 109 yL_signature wo_L_signature_f) ++ ((wsV RL 114 RX10 yX10_signature wo_X10_signature_f) ++ ((wsV RL 115 RX10 yX10_thrown wo_X10_thrown_f))))
set_option maxRecDepth 20000 in
theorem go_wo_law2_0 : GoodIn wo_law2 (va_wsS RL 109 yL_signature wo_L_signature_f) := goodIn_sub (fun _ h => (List.mem_append_right _ (List.mem_append_left _ h))) (by decide +kernel)
set_option maxRecDepth 20000 in
theorem go_wo_law2_1 : GoodIn wo_law2 (wsV RL 114 RX10 yX10_signature wo_X10_signature_f) := goodIn_sub (fun _ h => (List.mem_append_right _ (List.mem_append_right _ (List.mem_append_left _ h)))) (by decide +kernel)
set_option maxRecDepth 20000 in
theorem go_wo_law2_2 : GoodIn wo_law2 (wsV RL 115 RX10 yX10_thrown wo_X10_thrown_f) := goodIn_sub (fun _ h => (List.mem_append_right _ (List.mem_append_right _ (List.mem_append_right _ h)))) (by decide +kernel)

def wo_law3 : List Cond := ([] : List Cond) ++ ((va_wsS RL 118 yL_term wo_L_term_f) ++ ((wsV RL 120 RX10 yX10_term wo_X10_term_f) ++ ((wsV RL 115 RX10 yX10_thrown wo_X10_thrown_g))))
set_option maxRecDepth 20000 in
theorem go_wo_law3_0 : GoodIn wo_law3 (va_wsS RL 118 yL_term wo_L_term_f) := goodIn_sub (fun _ h => (List.mem_append_right _ (List.mem_append_left _ h))) (by decide +kernel)
set_option maxRecDepth 20000 in
theorem go_wo_law3_1 : GoodIn wo_law3 (wsV RL 120 RX10 yX10_term wo_X10_term_f) := goodIn_sub (fun _ h => (List.mem_append_right _ (List.mem_append_right _ (List.mem_append_left _ h)))) (by decide +kernel)
set_option maxRecDepth 20000 in
theorem go_wo_law3_2 : GoodIn wo_law3 (wsV RL 115 RX10 yX10_thrown wo_X10_thrown_g) := goodIn_sub (fun _ h => (List.mem_append_right _ (List.mem_append_right _ (List.mem_append_right _ h)))) (by decide +kernel)

def wo_law4 : List Cond := ([] : List Cond) ++ ((va_wsS RL 121 yL_rule wo_L_rule_f) ++ ((wsV RL 123 RX10 yX10_rule wo_X10_rule_f) ++ ((wsV RL 115 RX10 yX10_thrown wo_X10_thrown_g))))
set_option maxRecDepth 20000 in
theorem go_wo_law4_0 : GoodIn wo_law4 (va_wsS RL 121 yL_rule wo_L_rule_f) := goodIn_sub (fun _ h => (List.mem_append_right _ (List.mem_append_left _ h))) (by decide +kernel)
set_option maxRecDepth 20000 in
theorem go_wo_law4_1 : GoodIn wo_law4 (wsV RL 123 RX10 yX10_rule wo_X10_rule_f) := goodIn_sub (fun _ h => (List.mem_append_right _ (List.mem_append_right _ (List.mem_append_left _ h)))) (by decide +kernel)
set_option maxRecDepth 20000 in
theorem go_wo_law4_2 : GoodIn wo_law4 (wsV RL 115 RX10 yX10_thrown wo_X10_thrown_g) := goodIn_sub (fun _ h => (List.mem_append_right _ (List.mem_append_right _ (List.mem_append_right _ h)))) (by decide +kernel)

def wo_law5 : List Cond := ([] : List Cond) ++ ((wsV RL 124 RX9 yX9_fault wo_X9_fault_f) ++ ((wsV RL 127 RX10 yX10_fault wo_X10_fault_f)))
set_option maxRecDepth 20000 in
theorem go_wo_law5_0 : GoodIn wo_law5 (wsV RL 124 RX9 yX9_fault wo_X9_fault_f) := goodIn_sub (fun _ h => (List.mem_append_right _ (List.mem_append_left _ h))) (by decide +kernel)
set_option maxRecDepth 20000 in
theorem go_wo_law5_1 : GoodIn wo_law5 (wsV RL 127 RX10 yX10_fault wo_X10_fault_f) := goodIn_sub (fun _ h => (List.mem_append_right _ (List.mem_append_right _ h))) (by decide +kernel)

def wo_law6 : List Cond := ([] : List Cond) ++ ((va_wsS RL 128 yL_turn wo_L_turn_f) ++ ((wsV RL 131 RX10 yX10_turn wo_X10_turn_f) ++ ((wsV RL 115 RX10 yX10_thrown wo_X10_thrown_g))))
set_option maxRecDepth 20000 in
theorem go_wo_law6_0 : GoodIn wo_law6 (va_wsS RL 128 yL_turn wo_L_turn_f) := goodIn_sub (fun _ h => (List.mem_append_right _ (List.mem_append_left _ h))) (by decide +kernel)
set_option maxRecDepth 20000 in
theorem go_wo_law6_1 : GoodIn wo_law6 (wsV RL 131 RX10 yX10_turn wo_X10_turn_f) := goodIn_sub (fun _ h => (List.mem_append_right _ (List.mem_append_right _ (List.mem_append_left _ h)))) (by decide +kernel)
set_option maxRecDepth 20000 in
theorem go_wo_law6_2 : GoodIn wo_law6 (wsV RL 115 RX10 yX10_thrown wo_X10_thrown_g) := goodIn_sub (fun _ h => (List.mem_append_right _ (List.mem_append_right _ (List.mem_append_right _ h)))) (by decide +kernel)

def wo_law7 : List Cond := ([] : List Cond) ++ ((va_wsS RL 132 yL_operator wo_L_operator_f) ++ ((wsV RL 135 RX10 yX10_operator wo_X10_operator_f) ++ ((wsV RL 115 RX10 yX10_thrown wo_X10_thrown_g))))
set_option maxRecDepth 20000 in
theorem go_wo_law7_0 : GoodIn wo_law7 (va_wsS RL 132 yL_operator wo_L_operator_f) := goodIn_sub (fun _ h => (List.mem_append_right _ (List.mem_append_left _ h))) (by decide +kernel)
set_option maxRecDepth 20000 in
theorem go_wo_law7_1 : GoodIn wo_law7 (wsV RL 135 RX10 yX10_operator wo_X10_operator_f) := goodIn_sub (fun _ h => (List.mem_append_right _ (List.mem_append_right _ (List.mem_append_left _ h)))) (by decide +kernel)
set_option maxRecDepth 20000 in
theorem go_wo_law7_2 : GoodIn wo_law7 (wsV RL 115 RX10 yX10_thrown wo_X10_thrown_g) := goodIn_sub (fun _ h => (List.mem_append_right _ (List.mem_append_right _ (List.mem_append_right _ h)))) (by decide +kernel)

def wo_law8 : List Cond := ([] : List Cond) ++ ((va_wsS RL 136 yL_about wo_L_about_f) ++ ((wsV RL 138 RX10 yX10_about wo_X10_about_f) ++ ((wsV RL 115 RX10 yX10_thrown wo_X10_thrown_g))))
set_option maxRecDepth 20000 in
theorem go_wo_law8_0 : GoodIn wo_law8 (va_wsS RL 136 yL_about wo_L_about_f) := goodIn_sub (fun _ h => (List.mem_append_right _ (List.mem_append_left _ h))) (by decide +kernel)
set_option maxRecDepth 20000 in
theorem go_wo_law8_1 : GoodIn wo_law8 (wsV RL 138 RX10 yX10_about wo_X10_about_f) := goodIn_sub (fun _ h => (List.mem_append_right _ (List.mem_append_right _ (List.mem_append_left _ h)))) (by decide +kernel)
set_option maxRecDepth 20000 in
theorem go_wo_law8_2 : GoodIn wo_law8 (wsV RL 115 RX10 yX10_thrown wo_X10_thrown_g) := goodIn_sub (fun _ h => (List.mem_append_right _ (List.mem_append_right _ (List.mem_append_right _ h)))) (by decide +kernel)

def wo_law9 : List Cond := ([] : List Cond) ++ ((va_wsS RL 139 yL_order wo_L_order_f) ++ ((wsV RL 141 RX10 yX10_order wo_X10_order_f) ++ ((wsV RL 115 RX10 yX10_thrown wo_X10_thrown_g))))
set_option maxRecDepth 20000 in
theorem go_wo_law9_0 : GoodIn wo_law9 (va_wsS RL 139 yL_order wo_L_order_f) := goodIn_sub (fun _ h => (List.mem_append_right _ (List.mem_append_left _ h))) (by decide +kernel)
set_option maxRecDepth 20000 in
theorem go_wo_law9_1 : GoodIn wo_law9 (wsV RL 141 RX10 yX10_order wo_X10_order_f) := goodIn_sub (fun _ h => (List.mem_append_right _ (List.mem_append_right _ (List.mem_append_left _ h)))) (by decide +kernel)
set_option maxRecDepth 20000 in
theorem go_wo_law9_2 : GoodIn wo_law9 (wsV RL 115 RX10 yX10_thrown wo_X10_thrown_g) := goodIn_sub (fun _ h => (List.mem_append_right _ (List.mem_append_right _ (List.mem_append_right _ h)))) (by decide +kernel)

def wo_law10 : List Cond := ([] : List Cond) ++ ((wsV RL 142 RX9 yX9_rank wo_X9_rank_f) ++ ((wsV RL 145 RX10 yX10_rank wo_X10_rank_f)))
set_option maxRecDepth 20000 in
theorem go_wo_law10_0 : GoodIn wo_law10 (wsV RL 142 RX9 yX9_rank wo_X9_rank_f) := goodIn_sub (fun _ h => (List.mem_append_right _ (List.mem_append_left _ h))) (by decide +kernel)
set_option maxRecDepth 20000 in
theorem go_wo_law10_1 : GoodIn wo_law10 (wsV RL 145 RX10 yX10_rank wo_X10_rank_f) := goodIn_sub (fun _ h => (List.mem_append_right _ (List.mem_append_right _ h))) (by decide +kernel)

def wo_law11 : List Cond := ([] : List Cond) ++ ((va_wsS RL 146 yL_show wo_L_show_f) ++ ((wsV RL 149 RX10 yX10_show wo_X10_show_f) ++ ((wsV RL 115 RX10 yX10_thrown wo_X10_thrown_g))))
set_option maxRecDepth 20000 in
theorem go_wo_law11_0 : GoodIn wo_law11 (va_wsS RL 146 yL_show wo_L_show_f) := goodIn_sub (fun _ h => (List.mem_append_right _ (List.mem_append_left _ h))) (by decide +kernel)
set_option maxRecDepth 20000 in
theorem go_wo_law11_1 : GoodIn wo_law11 (wsV RL 149 RX10 yX10_show wo_X10_show_f) := goodIn_sub (fun _ h => (List.mem_append_right _ (List.mem_append_right _ (List.mem_append_left _ h)))) (by decide +kernel)
set_option maxRecDepth 20000 in
theorem go_wo_law11_2 : GoodIn wo_law11 (wsV RL 115 RX10 yX10_thrown wo_X10_thrown_g) := goodIn_sub (fun _ h => (List.mem_append_right _ (List.mem_append_right _ (List.mem_append_right _ h)))) (by decide +kernel)

def wo_law12 : List Cond := ([] : List Cond) ++ ((va_wsS RL 150 yL_place wo_L_place_f) ++ ((wsV RL 152 RX10 yX10_place wo_X10_place_f) ++ ((wsV RL 115 RX10 yX10_thrown wo_X10_thrown_g))))
set_option maxRecDepth 20000 in
theorem go_wo_law12_0 : GoodIn wo_law12 (va_wsS RL 150 yL_place wo_L_place_f) := goodIn_sub (fun _ h => (List.mem_append_right _ (List.mem_append_left _ h))) (by decide +kernel)
set_option maxRecDepth 20000 in
theorem go_wo_law12_1 : GoodIn wo_law12 (wsV RL 152 RX10 yX10_place wo_X10_place_f) := goodIn_sub (fun _ h => (List.mem_append_right _ (List.mem_append_right _ (List.mem_append_left _ h)))) (by decide +kernel)
set_option maxRecDepth 20000 in
theorem go_wo_law12_2 : GoodIn wo_law12 (wsV RL 115 RX10 yX10_thrown wo_X10_thrown_g) := goodIn_sub (fun _ h => (List.mem_append_right _ (List.mem_append_right _ (List.mem_append_right _ h)))) (by decide +kernel)

def wo_law13 : List Cond := ([] : List Cond) ++ ((va_wsS RL 153 yL_side wo_L_side_f) ++ ((wsV RL 155 RX10 yX10_side wo_X10_side_f) ++ ((wsV RL 115 RX10 yX10_thrown wo_X10_thrown_g))))
set_option maxRecDepth 20000 in
theorem go_wo_law13_0 : GoodIn wo_law13 (va_wsS RL 153 yL_side wo_L_side_f) := goodIn_sub (fun _ h => (List.mem_append_right _ (List.mem_append_left _ h))) (by decide +kernel)
set_option maxRecDepth 20000 in
theorem go_wo_law13_1 : GoodIn wo_law13 (wsV RL 155 RX10 yX10_side wo_X10_side_f) := goodIn_sub (fun _ h => (List.mem_append_right _ (List.mem_append_right _ (List.mem_append_left _ h)))) (by decide +kernel)
set_option maxRecDepth 20000 in
theorem go_wo_law13_2 : GoodIn wo_law13 (wsV RL 115 RX10 yX10_thrown wo_X10_thrown_g) := goodIn_sub (fun _ h => (List.mem_append_right _ (List.mem_append_right _ (List.mem_append_right _ h)))) (by decide +kernel)

def wo_law14 : List Cond := ([] : List Cond) ++ ((va_wsS RL 156 yL_matches wo_L_matches_f) ++ ((wsV RL 158 RX10 yX10_matches wo_X10_matches_f) ++ ((wsV RL 115 RX10 yX10_thrown wo_X10_thrown_g))))
set_option maxRecDepth 20000 in
theorem go_wo_law14_0 : GoodIn wo_law14 (va_wsS RL 156 yL_matches wo_L_matches_f) := goodIn_sub (fun _ h => (List.mem_append_right _ (List.mem_append_left _ h))) (by decide +kernel)
set_option maxRecDepth 20000 in
theorem go_wo_law14_1 : GoodIn wo_law14 (wsV RL 158 RX10 yX10_matches wo_X10_matches_f) := goodIn_sub (fun _ h => (List.mem_append_right _ (List.mem_append_right _ (List.mem_append_left _ h)))) (by decide +kernel)
set_option maxRecDepth 20000 in
theorem go_wo_law14_2 : GoodIn wo_law14 (wsV RL 115 RX10 yX10_thrown wo_X10_thrown_g) := goodIn_sub (fun _ h => (List.mem_append_right _ (List.mem_append_right _ (List.mem_append_right _ h)))) (by decide +kernel)

def wo_law15 : List Cond := ([] : List Cond) ++ ((va_wsS RL 159 yL_bound wo_L_bound_f) ++ ((wsV RL 162 RX10 yX10_bound wo_X10_bound_f) ++ ((wsV RL 115 RX10 yX10_thrown wo_X10_thrown_g))))
set_option maxRecDepth 20000 in
theorem go_wo_law15_0 : GoodIn wo_law15 (va_wsS RL 159 yL_bound wo_L_bound_f) := goodIn_sub (fun _ h => (List.mem_append_right _ (List.mem_append_left _ h))) (by decide +kernel)
set_option maxRecDepth 20000 in
theorem go_wo_law15_1 : GoodIn wo_law15 (wsV RL 162 RX10 yX10_bound wo_X10_bound_f) := goodIn_sub (fun _ h => (List.mem_append_right _ (List.mem_append_right _ (List.mem_append_left _ h)))) (by decide +kernel)
set_option maxRecDepth 20000 in
theorem go_wo_law15_2 : GoodIn wo_law15 (wsV RL 115 RX10 yX10_thrown wo_X10_thrown_g) := goodIn_sub (fun _ h => (List.mem_append_right _ (List.mem_append_right _ (List.mem_append_right _ h)))) (by decide +kernel)

def wo_law16 : List Cond := ([] : List Cond) ++ ((va_wsS RL 163 yL_fill wo_L_fill_f) ++ ((wsV RL 166 RX10 yX10_fill wo_X10_fill_f) ++ ((wsV RL 115 RX10 yX10_thrown wo_X10_thrown_g))))
set_option maxRecDepth 20000 in
theorem go_wo_law16_0 : GoodIn wo_law16 (va_wsS RL 163 yL_fill wo_L_fill_f) := goodIn_sub (fun _ h => (List.mem_append_right _ (List.mem_append_left _ h))) (by decide +kernel)
set_option maxRecDepth 20000 in
theorem go_wo_law16_1 : GoodIn wo_law16 (wsV RL 166 RX10 yX10_fill wo_X10_fill_f) := goodIn_sub (fun _ h => (List.mem_append_right _ (List.mem_append_right _ (List.mem_append_left _ h)))) (by decide +kernel)
set_option maxRecDepth 20000 in
theorem go_wo_law16_2 : GoodIn wo_law16 (wsV RL 115 RX10 yX10_thrown wo_X10_thrown_g) := goodIn_sub (fun _ h => (List.mem_append_right _ (List.mem_append_right _ (List.mem_append_right _ h)))) (by decide +kernel)

def wo_law17 : List Cond := ([] : List Cond) ++ ((va_wsS RL 167 yL_join wo_L_join_f) ++ ((wsV RL 169 RX10 yX10_join wo_X10_join_f) ++ ((wsV RL 115 RX10 yX10_thrown wo_X10_thrown_g))))
set_option maxRecDepth 20000 in
theorem go_wo_law17_0 : GoodIn wo_law17 (va_wsS RL 167 yL_join wo_L_join_f) := goodIn_sub (fun _ h => (List.mem_append_right _ (List.mem_append_left _ h))) (by decide +kernel)
set_option maxRecDepth 20000 in
theorem go_wo_law17_1 : GoodIn wo_law17 (wsV RL 169 RX10 yX10_join wo_X10_join_f) := goodIn_sub (fun _ h => (List.mem_append_right _ (List.mem_append_right _ (List.mem_append_left _ h)))) (by decide +kernel)
set_option maxRecDepth 20000 in
theorem go_wo_law17_2 : GoodIn wo_law17 (wsV RL 115 RX10 yX10_thrown wo_X10_thrown_g) := goodIn_sub (fun _ h => (List.mem_append_right _ (List.mem_append_right _ (List.mem_append_right _ h)))) (by decide +kernel)

def wo_law18 : List Cond := ([] : List Cond) ++ ((va_wsS RL 170 yL_steps wo_L_steps_f) ++ ((wsV RL 172 RX10 yX10_steps wo_X10_steps_f) ++ ((wsV RL 115 RX10 yX10_thrown wo_X10_thrown_g))))
set_option maxRecDepth 20000 in
theorem go_wo_law18_0 : GoodIn wo_law18 (va_wsS RL 170 yL_steps wo_L_steps_f) := goodIn_sub (fun _ h => (List.mem_append_right _ (List.mem_append_left _ h))) (by decide +kernel)
set_option maxRecDepth 20000 in
theorem go_wo_law18_1 : GoodIn wo_law18 (wsV RL 172 RX10 yX10_steps wo_X10_steps_f) := goodIn_sub (fun _ h => (List.mem_append_right _ (List.mem_append_right _ (List.mem_append_left _ h)))) (by decide +kernel)
set_option maxRecDepth 20000 in
theorem go_wo_law18_2 : GoodIn wo_law18 (wsV RL 115 RX10 yX10_thrown wo_X10_thrown_g) := goodIn_sub (fun _ h => (List.mem_append_right _ (List.mem_append_right _ (List.mem_append_right _ h)))) (by decide +kernel)

def wo_law19 : List Cond := ([] : List Cond) ++ ((va_wsS RL 173 yL_step wo_L_step_f) ++ ((wsV RL 175 RX10 yX10_step wo_X10_step_f) ++ ((wsV RL 115 RX10 yX10_thrown wo_X10_thrown_g))))
set_option maxRecDepth 20000 in
theorem go_wo_law19_0 : GoodIn wo_law19 (va_wsS RL 173 yL_step wo_L_step_f) := goodIn_sub (fun _ h => (List.mem_append_right _ (List.mem_append_left _ h))) (by decide +kernel)
set_option maxRecDepth 20000 in
theorem go_wo_law19_1 : GoodIn wo_law19 (wsV RL 175 RX10 yX10_step wo_X10_step_f) := goodIn_sub (fun _ h => (List.mem_append_right _ (List.mem_append_right _ (List.mem_append_left _ h)))) (by decide +kernel)
set_option maxRecDepth 20000 in
theorem go_wo_law19_2 : GoodIn wo_law19 (wsV RL 115 RX10 yX10_thrown wo_X10_thrown_g) := goodIn_sub (fun _ h => (List.mem_append_right _ (List.mem_append_right _ (List.mem_append_right _ h)))) (by decide +kernel)

def wo_law20 : List Cond := ([] : List Cond) ++ ((va_wsS RL 176 yL_stepAt wo_L_stepAt_f) ++ ((wsV RL 178 RX10 yX10_stepAt wo_X10_stepAt_f) ++ ((wsV RL 115 RX10 yX10_thrown wo_X10_thrown_g))))
set_option maxRecDepth 20000 in
theorem go_wo_law20_0 : GoodIn wo_law20 (va_wsS RL 176 yL_stepAt wo_L_stepAt_f) := goodIn_sub (fun _ h => (List.mem_append_right _ (List.mem_append_left _ h))) (by decide +kernel)
set_option maxRecDepth 20000 in
theorem go_wo_law20_1 : GoodIn wo_law20 (wsV RL 178 RX10 yX10_stepAt wo_X10_stepAt_f) := goodIn_sub (fun _ h => (List.mem_append_right _ (List.mem_append_right _ (List.mem_append_left _ h)))) (by decide +kernel)
set_option maxRecDepth 20000 in
theorem go_wo_law20_2 : GoodIn wo_law20 (wsV RL 115 RX10 yX10_thrown wo_X10_thrown_g) := goodIn_sub (fun _ h => (List.mem_append_right _ (List.mem_append_right _ (List.mem_append_right _ h)))) (by decide +kernel)

def wo_law21 : List Cond := ([] : List Cond) ++ ((va_wsS RL 179 yL_atTop wo_L_atTop_f) ++ ((wsV RL 181 RX10 yX10_atTop wo_X10_atTop_f) ++ ((wsV RL 115 RX10 yX10_thrown wo_X10_thrown_g))))
set_option maxRecDepth 20000 in
theorem go_wo_law21_0 : GoodIn wo_law21 (va_wsS RL 179 yL_atTop wo_L_atTop_f) := goodIn_sub (fun _ h => (List.mem_append_right _ (List.mem_append_left _ h))) (by decide +kernel)
set_option maxRecDepth 20000 in
theorem go_wo_law21_1 : GoodIn wo_law21 (wsV RL 181 RX10 yX10_atTop wo_X10_atTop_f) := goodIn_sub (fun _ h => (List.mem_append_right _ (List.mem_append_right _ (List.mem_append_left _ h)))) (by decide +kernel)
set_option maxRecDepth 20000 in
theorem go_wo_law21_2 : GoodIn wo_law21 (wsV RL 115 RX10 yX10_thrown wo_X10_thrown_g) := goodIn_sub (fun _ h => (List.mem_append_right _ (List.mem_append_right _ (List.mem_append_right _ h)))) (by decide +kernel)

def wo_law22 : List Cond := ([] : List Cond) ++ ((va_wsS RL 182 yL_walk wo_L_walk_f) ++ ((wsV RL 184 RX10 yX10_walk wo_X10_walk_f) ++ ((wsV RL 115 RX10 yX10_thrown wo_X10_thrown_g))))
set_option maxRecDepth 20000 in
theorem go_wo_law22_0 : GoodIn wo_law22 (va_wsS RL 182 yL_walk wo_L_walk_f) := goodIn_sub (fun _ h => (List.mem_append_right _ (List.mem_append_left _ h))) (by decide +kernel)
set_option maxRecDepth 20000 in
theorem go_wo_law22_1 : GoodIn wo_law22 (wsV RL 184 RX10 yX10_walk wo_X10_walk_f) := goodIn_sub (fun _ h => (List.mem_append_right _ (List.mem_append_right _ (List.mem_append_left _ h)))) (by decide +kernel)
set_option maxRecDepth 20000 in
theorem go_wo_law22_2 : GoodIn wo_law22 (wsV RL 115 RX10 yX10_thrown wo_X10_thrown_g) := goodIn_sub (fun _ h => (List.mem_append_right _ (List.mem_append_right _ (List.mem_append_right _ h)))) (by decide +kernel)

def wo_law23 : List Cond := ([] : List Cond) ++ ((va_wsS RL 185 yL_reach wo_L_reach_f) ++ ((wsV RL 188 RX10 yX10_reach wo_X10_reach_f) ++ ((wsV RL 115 RX10 yX10_thrown wo_X10_thrown_g))))
set_option maxRecDepth 20000 in
theorem go_wo_law23_0 : GoodIn wo_law23 (va_wsS RL 185 yL_reach wo_L_reach_f) := goodIn_sub (fun _ h => (List.mem_append_right _ (List.mem_append_left _ h))) (by decide +kernel)
set_option maxRecDepth 20000 in
theorem go_wo_law23_1 : GoodIn wo_law23 (wsV RL 188 RX10 yX10_reach wo_X10_reach_f) := goodIn_sub (fun _ h => (List.mem_append_right _ (List.mem_append_right _ (List.mem_append_left _ h)))) (by decide +kernel)
set_option maxRecDepth 20000 in
theorem go_wo_law23_2 : GoodIn wo_law23 (wsV RL 115 RX10 yX10_thrown wo_X10_thrown_g) := goodIn_sub (fun _ h => (List.mem_append_right _ (List.mem_append_right _ (List.mem_append_right _ h)))) (by decide +kernel)

def wo_law24 : List Cond := ([] : List Cond) ++ ((va_wsS RL 189 yL_reached wo_L_reached_f) ++ ((wsV RL 192 RX10 yX10_reached wo_X10_reached_f) ++ ((wsV RL 115 RX10 yX10_thrown wo_X10_thrown_g))))
set_option maxRecDepth 20000 in
theorem go_wo_law24_0 : GoodIn wo_law24 (va_wsS RL 189 yL_reached wo_L_reached_f) := goodIn_sub (fun _ h => (List.mem_append_right _ (List.mem_append_left _ h))) (by decide +kernel)
set_option maxRecDepth 20000 in
theorem go_wo_law24_1 : GoodIn wo_law24 (wsV RL 192 RX10 yX10_reached wo_X10_reached_f) := goodIn_sub (fun _ h => (List.mem_append_right _ (List.mem_append_right _ (List.mem_append_left _ h)))) (by decide +kernel)
set_option maxRecDepth 20000 in
theorem go_wo_law24_2 : GoodIn wo_law24 (wsV RL 115 RX10 yX10_thrown wo_X10_thrown_g) := goodIn_sub (fun _ h => (List.mem_append_right _ (List.mem_append_right _ (List.mem_append_right _ h)))) (by decide +kernel)

def wo_law25 : List Cond := ([] : List Cond) ++ ((va_wsS RL 193 yL_meet wo_L_meet_f) ++ ((wsV RL 195 RX10 yX10_meet wo_X10_meet_f) ++ ((wsV RL 115 RX10 yX10_thrown wo_X10_thrown_g))))
set_option maxRecDepth 20000 in
theorem go_wo_law25_0 : GoodIn wo_law25 (va_wsS RL 193 yL_meet wo_L_meet_f) := goodIn_sub (fun _ h => (List.mem_append_right _ (List.mem_append_left _ h))) (by decide +kernel)
set_option maxRecDepth 20000 in
theorem go_wo_law25_1 : GoodIn wo_law25 (wsV RL 195 RX10 yX10_meet wo_X10_meet_f) := goodIn_sub (fun _ h => (List.mem_append_right _ (List.mem_append_right _ (List.mem_append_left _ h)))) (by decide +kernel)
set_option maxRecDepth 20000 in
theorem go_wo_law25_2 : GoodIn wo_law25 (wsV RL 115 RX10 yX10_thrown wo_X10_thrown_g) := goodIn_sub (fun _ h => (List.mem_append_right _ (List.mem_append_right _ (List.mem_append_right _ h)))) (by decide +kernel)

def wo_law26 : List Cond := ([] : List Cond) ++ ((va_wsS RL 196 yL_keep wo_L_keep_f) ++ ((wsV RL 198 RX10 yX10_keep wo_X10_keep_f) ++ ((wsV RL 115 RX10 yX10_thrown wo_X10_thrown_g))))
set_option maxRecDepth 20000 in
theorem go_wo_law26_0 : GoodIn wo_law26 (va_wsS RL 196 yL_keep wo_L_keep_f) := goodIn_sub (fun _ h => (List.mem_append_right _ (List.mem_append_left _ h))) (by decide +kernel)
set_option maxRecDepth 20000 in
theorem go_wo_law26_1 : GoodIn wo_law26 (wsV RL 198 RX10 yX10_keep wo_X10_keep_f) := goodIn_sub (fun _ h => (List.mem_append_right _ (List.mem_append_right _ (List.mem_append_left _ h)))) (by decide +kernel)
set_option maxRecDepth 20000 in
theorem go_wo_law26_2 : GoodIn wo_law26 (wsV RL 115 RX10 yX10_thrown wo_X10_thrown_g) := goodIn_sub (fun _ h => (List.mem_append_right _ (List.mem_append_right _ (List.mem_append_right _ h)))) (by decide +kernel)

def wo_law27 : List Cond := ([] : List Cond) ++ ((wsV RL 199 RX9 yX9_octet wo_X9_octet_f) ++ ((wsV RL 202 RX10 yX10_octet wo_X10_octet_f)))
set_option maxRecDepth 20000 in
theorem go_wo_law27_0 : GoodIn wo_law27 (wsV RL 199 RX9 yX9_octet wo_X9_octet_f) := goodIn_sub (fun _ h => (List.mem_append_right _ (List.mem_append_left _ h))) (by decide +kernel)
set_option maxRecDepth 20000 in
theorem go_wo_law27_1 : GoodIn wo_law27 (wsV RL 202 RX10 yX10_octet wo_X10_octet_f) := goodIn_sub (fun _ h => (List.mem_append_right _ (List.mem_append_right _ h))) (by decide +kernel)

def wo_law28 : List Cond := ([] : List Cond) ++ ((wsV RL 203 RX9 yX9_count wo_X9_count_f) ++ ((wsV RL 206 RX10 yX10_count wo_X10_count_f)))
set_option maxRecDepth 20000 in
theorem go_wo_law28_0 : GoodIn wo_law28 (wsV RL 203 RX9 yX9_count wo_X9_count_f) := goodIn_sub (fun _ h => (List.mem_append_right _ (List.mem_append_left _ h))) (by decide +kernel)
set_option maxRecDepth 20000 in
theorem go_wo_law28_1 : GoodIn wo_law28 (wsV RL 206 RX10 yX10_count wo_X10_count_f) := goodIn_sub (fun _ h => (List.mem_append_right _ (List.mem_append_right _ h))) (by decide +kernel)

def wo_start : List Cond := ([.classLink RL 8 RX9, .instantiable RX9 16, .initialized RX9, .methodLink RL 95 yX9_init, .instanceMethod yX9_init, .classLink RL 96 RX10, .instantiable RX10 50, .initialized RX10, .methodLink RL 98 yX10_init, .instanceMethod yX10_init, .arrayClass .long] : List Cond) ++ ((wsX90) ++ ((wsX100) ++ ((wo_X9_init) ++ ((wo_X10_init)))))
set_option maxRecDepth 20000 in
theorem go_wo_start_2 : GoodIn wo_start (wo_X9_init) := goodIn_sub (fun _ h => (List.mem_append_right _ (List.mem_append_right _ (List.mem_append_right _ (List.mem_append_left _ h))))) (by decide +kernel)
set_option maxRecDepth 20000 in
theorem go_wo_start_3 : GoodIn wo_start (wo_X10_init) := goodIn_sub (fun _ h => (List.mem_append_right _ (List.mem_append_right _ (List.mem_append_right _ (List.mem_append_right _ h))))) (by decide +kernel)

set_option maxRecDepth 20000 in
theorem in_wo_law0 : ∀ w ∈ wo_law0, w ∈ lw_tbl := List.forall_mem_append.mpr ⟨(fun _ h => absurd h List.not_mem_nil), List.forall_mem_append.mpr ⟨List.forall_mem_append.mpr ⟨(List.forall_mem_cons.mpr ⟨mw_555, (List.forall_mem_cons.mpr ⟨mw_554, (List.forall_mem_cons.mpr ⟨mw_553, (List.forall_mem_cons.mpr ⟨mw_275, (fun _ h => absurd h List.not_mem_nil)⟩)⟩)⟩)⟩), in_wo_X9_feed⟩, List.forall_mem_append.mpr ⟨(List.forall_mem_cons.mpr ⟨mw_558, (List.forall_mem_cons.mpr ⟨mw_557, (List.forall_mem_cons.mpr ⟨mw_556, (List.forall_mem_cons.mpr ⟨mw_364, (fun _ h => absurd h List.not_mem_nil)⟩)⟩)⟩)⟩), in_wo_X10_feed_f⟩⟩⟩
set_option maxRecDepth 20000 in
theorem in_wo_law1 : ∀ w ∈ wo_law1, w ∈ lw_tbl := List.forall_mem_append.mpr ⟨(fun _ h => absurd h List.not_mem_nil), List.forall_mem_append.mpr ⟨List.forall_mem_append.mpr ⟨(List.forall_mem_cons.mpr ⟨mw_561, (List.forall_mem_cons.mpr ⟨mw_560, (List.forall_mem_cons.mpr ⟨mw_559, (List.forall_mem_cons.mpr ⟨mw_275, (fun _ h => absurd h List.not_mem_nil)⟩)⟩)⟩)⟩), in_wo_X9_end⟩, List.forall_mem_append.mpr ⟨(List.forall_mem_cons.mpr ⟨mw_564, (List.forall_mem_cons.mpr ⟨mw_563, (List.forall_mem_cons.mpr ⟨mw_562, (List.forall_mem_cons.mpr ⟨mw_364, (fun _ h => absurd h List.not_mem_nil)⟩)⟩)⟩)⟩), in_wo_X10_end_f⟩⟩⟩
set_option maxRecDepth 20000 in
theorem in_wo_law2 : ∀ w ∈ wo_law2, w ∈ lw_tbl := List.forall_mem_append.mpr ⟨(fun _ h => absurd h List.not_mem_nil), List.forall_mem_append.mpr ⟨List.forall_mem_append.mpr ⟨(List.forall_mem_cons.mpr ⟨mw_567, (List.forall_mem_cons.mpr ⟨mw_566, (List.forall_mem_cons.mpr ⟨mw_565, (fun _ h => absurd h List.not_mem_nil)⟩)⟩)⟩), in_wo_L_signature_f⟩, List.forall_mem_append.mpr ⟨List.forall_mem_append.mpr ⟨(List.forall_mem_cons.mpr ⟨mw_570, (List.forall_mem_cons.mpr ⟨mw_569, (List.forall_mem_cons.mpr ⟨mw_568, (List.forall_mem_cons.mpr ⟨mw_364, (fun _ h => absurd h List.not_mem_nil)⟩)⟩)⟩)⟩), in_wo_X10_signature_f⟩, List.forall_mem_append.mpr ⟨(List.forall_mem_cons.mpr ⟨mw_573, (List.forall_mem_cons.mpr ⟨mw_572, (List.forall_mem_cons.mpr ⟨mw_571, (List.forall_mem_cons.mpr ⟨mw_364, (fun _ h => absurd h List.not_mem_nil)⟩)⟩)⟩)⟩), in_wo_X10_thrown_f⟩⟩⟩⟩
set_option maxRecDepth 20000 in
theorem in_wo_law3 : ∀ w ∈ wo_law3, w ∈ lw_tbl := List.forall_mem_append.mpr ⟨(fun _ h => absurd h List.not_mem_nil), List.forall_mem_append.mpr ⟨List.forall_mem_append.mpr ⟨(List.forall_mem_cons.mpr ⟨mw_575, (List.forall_mem_cons.mpr ⟨mw_574, (List.forall_mem_cons.mpr ⟨mw_565, (fun _ h => absurd h List.not_mem_nil)⟩)⟩)⟩), in_wo_L_term_f⟩, List.forall_mem_append.mpr ⟨List.forall_mem_append.mpr ⟨(List.forall_mem_cons.mpr ⟨mw_578, (List.forall_mem_cons.mpr ⟨mw_577, (List.forall_mem_cons.mpr ⟨mw_576, (List.forall_mem_cons.mpr ⟨mw_364, (fun _ h => absurd h List.not_mem_nil)⟩)⟩)⟩)⟩), in_wo_X10_term_f⟩, List.forall_mem_append.mpr ⟨(List.forall_mem_cons.mpr ⟨mw_573, (List.forall_mem_cons.mpr ⟨mw_572, (List.forall_mem_cons.mpr ⟨mw_571, (List.forall_mem_cons.mpr ⟨mw_364, (fun _ h => absurd h List.not_mem_nil)⟩)⟩)⟩)⟩), in_wo_X10_thrown_g⟩⟩⟩⟩
set_option maxRecDepth 20000 in
theorem in_wo_law4 : ∀ w ∈ wo_law4, w ∈ lw_tbl := List.forall_mem_append.mpr ⟨(fun _ h => absurd h List.not_mem_nil), List.forall_mem_append.mpr ⟨List.forall_mem_append.mpr ⟨(List.forall_mem_cons.mpr ⟨mw_580, (List.forall_mem_cons.mpr ⟨mw_579, (List.forall_mem_cons.mpr ⟨mw_565, (fun _ h => absurd h List.not_mem_nil)⟩)⟩)⟩), in_wo_L_rule_f⟩, List.forall_mem_append.mpr ⟨List.forall_mem_append.mpr ⟨(List.forall_mem_cons.mpr ⟨mw_583, (List.forall_mem_cons.mpr ⟨mw_582, (List.forall_mem_cons.mpr ⟨mw_581, (List.forall_mem_cons.mpr ⟨mw_364, (fun _ h => absurd h List.not_mem_nil)⟩)⟩)⟩)⟩), in_wo_X10_rule_f⟩, List.forall_mem_append.mpr ⟨(List.forall_mem_cons.mpr ⟨mw_573, (List.forall_mem_cons.mpr ⟨mw_572, (List.forall_mem_cons.mpr ⟨mw_571, (List.forall_mem_cons.mpr ⟨mw_364, (fun _ h => absurd h List.not_mem_nil)⟩)⟩)⟩)⟩), in_wo_X10_thrown_g⟩⟩⟩⟩
set_option maxRecDepth 20000 in
theorem in_wo_law5 : ∀ w ∈ wo_law5, w ∈ lw_tbl := List.forall_mem_append.mpr ⟨(fun _ h => absurd h List.not_mem_nil), List.forall_mem_append.mpr ⟨List.forall_mem_append.mpr ⟨(List.forall_mem_cons.mpr ⟨mw_586, (List.forall_mem_cons.mpr ⟨mw_585, (List.forall_mem_cons.mpr ⟨mw_584, (List.forall_mem_cons.mpr ⟨mw_275, (fun _ h => absurd h List.not_mem_nil)⟩)⟩)⟩)⟩), in_wo_X9_fault_f⟩, List.forall_mem_append.mpr ⟨(List.forall_mem_cons.mpr ⟨mw_589, (List.forall_mem_cons.mpr ⟨mw_588, (List.forall_mem_cons.mpr ⟨mw_587, (List.forall_mem_cons.mpr ⟨mw_364, (fun _ h => absurd h List.not_mem_nil)⟩)⟩)⟩)⟩), in_wo_X10_fault_f⟩⟩⟩
set_option maxRecDepth 20000 in
theorem in_wo_law6 : ∀ w ∈ wo_law6, w ∈ lw_tbl := List.forall_mem_append.mpr ⟨(fun _ h => absurd h List.not_mem_nil), List.forall_mem_append.mpr ⟨List.forall_mem_append.mpr ⟨(List.forall_mem_cons.mpr ⟨mw_591, (List.forall_mem_cons.mpr ⟨mw_590, (List.forall_mem_cons.mpr ⟨mw_565, (fun _ h => absurd h List.not_mem_nil)⟩)⟩)⟩), in_wo_L_turn_f⟩, List.forall_mem_append.mpr ⟨List.forall_mem_append.mpr ⟨(List.forall_mem_cons.mpr ⟨mw_594, (List.forall_mem_cons.mpr ⟨mw_593, (List.forall_mem_cons.mpr ⟨mw_592, (List.forall_mem_cons.mpr ⟨mw_364, (fun _ h => absurd h List.not_mem_nil)⟩)⟩)⟩)⟩), in_wo_X10_turn_f⟩, List.forall_mem_append.mpr ⟨(List.forall_mem_cons.mpr ⟨mw_573, (List.forall_mem_cons.mpr ⟨mw_572, (List.forall_mem_cons.mpr ⟨mw_571, (List.forall_mem_cons.mpr ⟨mw_364, (fun _ h => absurd h List.not_mem_nil)⟩)⟩)⟩)⟩), in_wo_X10_thrown_g⟩⟩⟩⟩
set_option maxRecDepth 20000 in
theorem in_wo_law7 : ∀ w ∈ wo_law7, w ∈ lw_tbl := List.forall_mem_append.mpr ⟨(fun _ h => absurd h List.not_mem_nil), List.forall_mem_append.mpr ⟨List.forall_mem_append.mpr ⟨(List.forall_mem_cons.mpr ⟨mw_596, (List.forall_mem_cons.mpr ⟨mw_595, (List.forall_mem_cons.mpr ⟨mw_565, (fun _ h => absurd h List.not_mem_nil)⟩)⟩)⟩), in_wo_L_operator_f⟩, List.forall_mem_append.mpr ⟨List.forall_mem_append.mpr ⟨(List.forall_mem_cons.mpr ⟨mw_599, (List.forall_mem_cons.mpr ⟨mw_598, (List.forall_mem_cons.mpr ⟨mw_597, (List.forall_mem_cons.mpr ⟨mw_364, (fun _ h => absurd h List.not_mem_nil)⟩)⟩)⟩)⟩), in_wo_X10_operator_f⟩, List.forall_mem_append.mpr ⟨(List.forall_mem_cons.mpr ⟨mw_573, (List.forall_mem_cons.mpr ⟨mw_572, (List.forall_mem_cons.mpr ⟨mw_571, (List.forall_mem_cons.mpr ⟨mw_364, (fun _ h => absurd h List.not_mem_nil)⟩)⟩)⟩)⟩), in_wo_X10_thrown_g⟩⟩⟩⟩
set_option maxRecDepth 20000 in
theorem in_wo_law8 : ∀ w ∈ wo_law8, w ∈ lw_tbl := List.forall_mem_append.mpr ⟨(fun _ h => absurd h List.not_mem_nil), List.forall_mem_append.mpr ⟨List.forall_mem_append.mpr ⟨(List.forall_mem_cons.mpr ⟨mw_601, (List.forall_mem_cons.mpr ⟨mw_600, (List.forall_mem_cons.mpr ⟨mw_565, (fun _ h => absurd h List.not_mem_nil)⟩)⟩)⟩), in_wo_L_about_f⟩, List.forall_mem_append.mpr ⟨List.forall_mem_append.mpr ⟨(List.forall_mem_cons.mpr ⟨mw_604, (List.forall_mem_cons.mpr ⟨mw_603, (List.forall_mem_cons.mpr ⟨mw_602, (List.forall_mem_cons.mpr ⟨mw_364, (fun _ h => absurd h List.not_mem_nil)⟩)⟩)⟩)⟩), in_wo_X10_about_f⟩, List.forall_mem_append.mpr ⟨(List.forall_mem_cons.mpr ⟨mw_573, (List.forall_mem_cons.mpr ⟨mw_572, (List.forall_mem_cons.mpr ⟨mw_571, (List.forall_mem_cons.mpr ⟨mw_364, (fun _ h => absurd h List.not_mem_nil)⟩)⟩)⟩)⟩), in_wo_X10_thrown_g⟩⟩⟩⟩
set_option maxRecDepth 20000 in
theorem in_wo_law9 : ∀ w ∈ wo_law9, w ∈ lw_tbl := List.forall_mem_append.mpr ⟨(fun _ h => absurd h List.not_mem_nil), List.forall_mem_append.mpr ⟨List.forall_mem_append.mpr ⟨(List.forall_mem_cons.mpr ⟨mw_606, (List.forall_mem_cons.mpr ⟨mw_605, (List.forall_mem_cons.mpr ⟨mw_565, (fun _ h => absurd h List.not_mem_nil)⟩)⟩)⟩), in_wo_L_order_f⟩, List.forall_mem_append.mpr ⟨List.forall_mem_append.mpr ⟨(List.forall_mem_cons.mpr ⟨mw_609, (List.forall_mem_cons.mpr ⟨mw_608, (List.forall_mem_cons.mpr ⟨mw_607, (List.forall_mem_cons.mpr ⟨mw_364, (fun _ h => absurd h List.not_mem_nil)⟩)⟩)⟩)⟩), in_wo_X10_order_f⟩, List.forall_mem_append.mpr ⟨(List.forall_mem_cons.mpr ⟨mw_573, (List.forall_mem_cons.mpr ⟨mw_572, (List.forall_mem_cons.mpr ⟨mw_571, (List.forall_mem_cons.mpr ⟨mw_364, (fun _ h => absurd h List.not_mem_nil)⟩)⟩)⟩)⟩), in_wo_X10_thrown_g⟩⟩⟩⟩
set_option maxRecDepth 20000 in
theorem in_wo_law10 : ∀ w ∈ wo_law10, w ∈ lw_tbl := List.forall_mem_append.mpr ⟨(fun _ h => absurd h List.not_mem_nil), List.forall_mem_append.mpr ⟨List.forall_mem_append.mpr ⟨(List.forall_mem_cons.mpr ⟨mw_612, (List.forall_mem_cons.mpr ⟨mw_611, (List.forall_mem_cons.mpr ⟨mw_610, (List.forall_mem_cons.mpr ⟨mw_275, (fun _ h => absurd h List.not_mem_nil)⟩)⟩)⟩)⟩), in_wo_X9_rank_f⟩, List.forall_mem_append.mpr ⟨(List.forall_mem_cons.mpr ⟨mw_615, (List.forall_mem_cons.mpr ⟨mw_614, (List.forall_mem_cons.mpr ⟨mw_613, (List.forall_mem_cons.mpr ⟨mw_364, (fun _ h => absurd h List.not_mem_nil)⟩)⟩)⟩)⟩), in_wo_X10_rank_f⟩⟩⟩
set_option maxRecDepth 20000 in
theorem in_wo_law11 : ∀ w ∈ wo_law11, w ∈ lw_tbl := List.forall_mem_append.mpr ⟨(fun _ h => absurd h List.not_mem_nil), List.forall_mem_append.mpr ⟨List.forall_mem_append.mpr ⟨(List.forall_mem_cons.mpr ⟨mw_617, (List.forall_mem_cons.mpr ⟨mw_616, (List.forall_mem_cons.mpr ⟨mw_565, (fun _ h => absurd h List.not_mem_nil)⟩)⟩)⟩), in_wo_L_show_f⟩, List.forall_mem_append.mpr ⟨List.forall_mem_append.mpr ⟨(List.forall_mem_cons.mpr ⟨mw_620, (List.forall_mem_cons.mpr ⟨mw_619, (List.forall_mem_cons.mpr ⟨mw_618, (List.forall_mem_cons.mpr ⟨mw_364, (fun _ h => absurd h List.not_mem_nil)⟩)⟩)⟩)⟩), in_wo_X10_show_f⟩, List.forall_mem_append.mpr ⟨(List.forall_mem_cons.mpr ⟨mw_573, (List.forall_mem_cons.mpr ⟨mw_572, (List.forall_mem_cons.mpr ⟨mw_571, (List.forall_mem_cons.mpr ⟨mw_364, (fun _ h => absurd h List.not_mem_nil)⟩)⟩)⟩)⟩), in_wo_X10_thrown_g⟩⟩⟩⟩
set_option maxRecDepth 20000 in
theorem in_wo_law12 : ∀ w ∈ wo_law12, w ∈ lw_tbl := List.forall_mem_append.mpr ⟨(fun _ h => absurd h List.not_mem_nil), List.forall_mem_append.mpr ⟨List.forall_mem_append.mpr ⟨(List.forall_mem_cons.mpr ⟨mw_622, (List.forall_mem_cons.mpr ⟨mw_621, (List.forall_mem_cons.mpr ⟨mw_565, (fun _ h => absurd h List.not_mem_nil)⟩)⟩)⟩), in_wo_L_place_f⟩, List.forall_mem_append.mpr ⟨List.forall_mem_append.mpr ⟨(List.forall_mem_cons.mpr ⟨mw_625, (List.forall_mem_cons.mpr ⟨mw_624, (List.forall_mem_cons.mpr ⟨mw_623, (List.forall_mem_cons.mpr ⟨mw_364, (fun _ h => absurd h List.not_mem_nil)⟩)⟩)⟩)⟩), in_wo_X10_place_f⟩, List.forall_mem_append.mpr ⟨(List.forall_mem_cons.mpr ⟨mw_573, (List.forall_mem_cons.mpr ⟨mw_572, (List.forall_mem_cons.mpr ⟨mw_571, (List.forall_mem_cons.mpr ⟨mw_364, (fun _ h => absurd h List.not_mem_nil)⟩)⟩)⟩)⟩), in_wo_X10_thrown_g⟩⟩⟩⟩
set_option maxRecDepth 20000 in
theorem in_wo_law13 : ∀ w ∈ wo_law13, w ∈ lw_tbl := List.forall_mem_append.mpr ⟨(fun _ h => absurd h List.not_mem_nil), List.forall_mem_append.mpr ⟨List.forall_mem_append.mpr ⟨(List.forall_mem_cons.mpr ⟨mw_627, (List.forall_mem_cons.mpr ⟨mw_626, (List.forall_mem_cons.mpr ⟨mw_565, (fun _ h => absurd h List.not_mem_nil)⟩)⟩)⟩), in_wo_L_side_f⟩, List.forall_mem_append.mpr ⟨List.forall_mem_append.mpr ⟨(List.forall_mem_cons.mpr ⟨mw_630, (List.forall_mem_cons.mpr ⟨mw_629, (List.forall_mem_cons.mpr ⟨mw_628, (List.forall_mem_cons.mpr ⟨mw_364, (fun _ h => absurd h List.not_mem_nil)⟩)⟩)⟩)⟩), in_wo_X10_side_f⟩, List.forall_mem_append.mpr ⟨(List.forall_mem_cons.mpr ⟨mw_573, (List.forall_mem_cons.mpr ⟨mw_572, (List.forall_mem_cons.mpr ⟨mw_571, (List.forall_mem_cons.mpr ⟨mw_364, (fun _ h => absurd h List.not_mem_nil)⟩)⟩)⟩)⟩), in_wo_X10_thrown_g⟩⟩⟩⟩
set_option maxRecDepth 20000 in
theorem in_wo_law14 : ∀ w ∈ wo_law14, w ∈ lw_tbl := List.forall_mem_append.mpr ⟨(fun _ h => absurd h List.not_mem_nil), List.forall_mem_append.mpr ⟨List.forall_mem_append.mpr ⟨(List.forall_mem_cons.mpr ⟨mw_632, (List.forall_mem_cons.mpr ⟨mw_631, (List.forall_mem_cons.mpr ⟨mw_565, (fun _ h => absurd h List.not_mem_nil)⟩)⟩)⟩), in_wo_L_matches_f⟩, List.forall_mem_append.mpr ⟨List.forall_mem_append.mpr ⟨(List.forall_mem_cons.mpr ⟨mw_635, (List.forall_mem_cons.mpr ⟨mw_634, (List.forall_mem_cons.mpr ⟨mw_633, (List.forall_mem_cons.mpr ⟨mw_364, (fun _ h => absurd h List.not_mem_nil)⟩)⟩)⟩)⟩), in_wo_X10_matches_f⟩, List.forall_mem_append.mpr ⟨(List.forall_mem_cons.mpr ⟨mw_573, (List.forall_mem_cons.mpr ⟨mw_572, (List.forall_mem_cons.mpr ⟨mw_571, (List.forall_mem_cons.mpr ⟨mw_364, (fun _ h => absurd h List.not_mem_nil)⟩)⟩)⟩)⟩), in_wo_X10_thrown_g⟩⟩⟩⟩
set_option maxRecDepth 20000 in
theorem in_wo_law15 : ∀ w ∈ wo_law15, w ∈ lw_tbl := List.forall_mem_append.mpr ⟨(fun _ h => absurd h List.not_mem_nil), List.forall_mem_append.mpr ⟨List.forall_mem_append.mpr ⟨(List.forall_mem_cons.mpr ⟨mw_637, (List.forall_mem_cons.mpr ⟨mw_636, (List.forall_mem_cons.mpr ⟨mw_565, (fun _ h => absurd h List.not_mem_nil)⟩)⟩)⟩), in_wo_L_bound_f⟩, List.forall_mem_append.mpr ⟨List.forall_mem_append.mpr ⟨(List.forall_mem_cons.mpr ⟨mw_640, (List.forall_mem_cons.mpr ⟨mw_639, (List.forall_mem_cons.mpr ⟨mw_638, (List.forall_mem_cons.mpr ⟨mw_364, (fun _ h => absurd h List.not_mem_nil)⟩)⟩)⟩)⟩), in_wo_X10_bound_f⟩, List.forall_mem_append.mpr ⟨(List.forall_mem_cons.mpr ⟨mw_573, (List.forall_mem_cons.mpr ⟨mw_572, (List.forall_mem_cons.mpr ⟨mw_571, (List.forall_mem_cons.mpr ⟨mw_364, (fun _ h => absurd h List.not_mem_nil)⟩)⟩)⟩)⟩), in_wo_X10_thrown_g⟩⟩⟩⟩
set_option maxRecDepth 20000 in
theorem in_wo_law16 : ∀ w ∈ wo_law16, w ∈ lw_tbl := List.forall_mem_append.mpr ⟨(fun _ h => absurd h List.not_mem_nil), List.forall_mem_append.mpr ⟨List.forall_mem_append.mpr ⟨(List.forall_mem_cons.mpr ⟨mw_642, (List.forall_mem_cons.mpr ⟨mw_641, (List.forall_mem_cons.mpr ⟨mw_565, (fun _ h => absurd h List.not_mem_nil)⟩)⟩)⟩), in_wo_L_fill_f⟩, List.forall_mem_append.mpr ⟨List.forall_mem_append.mpr ⟨(List.forall_mem_cons.mpr ⟨mw_645, (List.forall_mem_cons.mpr ⟨mw_644, (List.forall_mem_cons.mpr ⟨mw_643, (List.forall_mem_cons.mpr ⟨mw_364, (fun _ h => absurd h List.not_mem_nil)⟩)⟩)⟩)⟩), in_wo_X10_fill_f⟩, List.forall_mem_append.mpr ⟨(List.forall_mem_cons.mpr ⟨mw_573, (List.forall_mem_cons.mpr ⟨mw_572, (List.forall_mem_cons.mpr ⟨mw_571, (List.forall_mem_cons.mpr ⟨mw_364, (fun _ h => absurd h List.not_mem_nil)⟩)⟩)⟩)⟩), in_wo_X10_thrown_g⟩⟩⟩⟩
set_option maxRecDepth 20000 in
theorem in_wo_law17 : ∀ w ∈ wo_law17, w ∈ lw_tbl := List.forall_mem_append.mpr ⟨(fun _ h => absurd h List.not_mem_nil), List.forall_mem_append.mpr ⟨List.forall_mem_append.mpr ⟨(List.forall_mem_cons.mpr ⟨mw_647, (List.forall_mem_cons.mpr ⟨mw_646, (List.forall_mem_cons.mpr ⟨mw_565, (fun _ h => absurd h List.not_mem_nil)⟩)⟩)⟩), in_wo_L_join_f⟩, List.forall_mem_append.mpr ⟨List.forall_mem_append.mpr ⟨(List.forall_mem_cons.mpr ⟨mw_650, (List.forall_mem_cons.mpr ⟨mw_649, (List.forall_mem_cons.mpr ⟨mw_648, (List.forall_mem_cons.mpr ⟨mw_364, (fun _ h => absurd h List.not_mem_nil)⟩)⟩)⟩)⟩), in_wo_X10_join_f⟩, List.forall_mem_append.mpr ⟨(List.forall_mem_cons.mpr ⟨mw_573, (List.forall_mem_cons.mpr ⟨mw_572, (List.forall_mem_cons.mpr ⟨mw_571, (List.forall_mem_cons.mpr ⟨mw_364, (fun _ h => absurd h List.not_mem_nil)⟩)⟩)⟩)⟩), in_wo_X10_thrown_g⟩⟩⟩⟩
set_option maxRecDepth 20000 in
theorem in_wo_law18 : ∀ w ∈ wo_law18, w ∈ lw_tbl := List.forall_mem_append.mpr ⟨(fun _ h => absurd h List.not_mem_nil), List.forall_mem_append.mpr ⟨List.forall_mem_append.mpr ⟨(List.forall_mem_cons.mpr ⟨mw_652, (List.forall_mem_cons.mpr ⟨mw_651, (List.forall_mem_cons.mpr ⟨mw_565, (fun _ h => absurd h List.not_mem_nil)⟩)⟩)⟩), in_wo_L_steps_f⟩, List.forall_mem_append.mpr ⟨List.forall_mem_append.mpr ⟨(List.forall_mem_cons.mpr ⟨mw_655, (List.forall_mem_cons.mpr ⟨mw_654, (List.forall_mem_cons.mpr ⟨mw_653, (List.forall_mem_cons.mpr ⟨mw_364, (fun _ h => absurd h List.not_mem_nil)⟩)⟩)⟩)⟩), in_wo_X10_steps_f⟩, List.forall_mem_append.mpr ⟨(List.forall_mem_cons.mpr ⟨mw_573, (List.forall_mem_cons.mpr ⟨mw_572, (List.forall_mem_cons.mpr ⟨mw_571, (List.forall_mem_cons.mpr ⟨mw_364, (fun _ h => absurd h List.not_mem_nil)⟩)⟩)⟩)⟩), in_wo_X10_thrown_g⟩⟩⟩⟩
set_option maxRecDepth 20000 in
theorem in_wo_law19 : ∀ w ∈ wo_law19, w ∈ lw_tbl := List.forall_mem_append.mpr ⟨(fun _ h => absurd h List.not_mem_nil), List.forall_mem_append.mpr ⟨List.forall_mem_append.mpr ⟨(List.forall_mem_cons.mpr ⟨mw_657, (List.forall_mem_cons.mpr ⟨mw_656, (List.forall_mem_cons.mpr ⟨mw_565, (fun _ h => absurd h List.not_mem_nil)⟩)⟩)⟩), in_wo_L_step_f⟩, List.forall_mem_append.mpr ⟨List.forall_mem_append.mpr ⟨(List.forall_mem_cons.mpr ⟨mw_660, (List.forall_mem_cons.mpr ⟨mw_659, (List.forall_mem_cons.mpr ⟨mw_658, (List.forall_mem_cons.mpr ⟨mw_364, (fun _ h => absurd h List.not_mem_nil)⟩)⟩)⟩)⟩), in_wo_X10_step_f⟩, List.forall_mem_append.mpr ⟨(List.forall_mem_cons.mpr ⟨mw_573, (List.forall_mem_cons.mpr ⟨mw_572, (List.forall_mem_cons.mpr ⟨mw_571, (List.forall_mem_cons.mpr ⟨mw_364, (fun _ h => absurd h List.not_mem_nil)⟩)⟩)⟩)⟩), in_wo_X10_thrown_g⟩⟩⟩⟩
set_option maxRecDepth 20000 in
theorem in_wo_law20 : ∀ w ∈ wo_law20, w ∈ lw_tbl := List.forall_mem_append.mpr ⟨(fun _ h => absurd h List.not_mem_nil), List.forall_mem_append.mpr ⟨List.forall_mem_append.mpr ⟨(List.forall_mem_cons.mpr ⟨mw_662, (List.forall_mem_cons.mpr ⟨mw_661, (List.forall_mem_cons.mpr ⟨mw_565, (fun _ h => absurd h List.not_mem_nil)⟩)⟩)⟩), in_wo_L_stepAt_f⟩, List.forall_mem_append.mpr ⟨List.forall_mem_append.mpr ⟨(List.forall_mem_cons.mpr ⟨mw_665, (List.forall_mem_cons.mpr ⟨mw_664, (List.forall_mem_cons.mpr ⟨mw_663, (List.forall_mem_cons.mpr ⟨mw_364, (fun _ h => absurd h List.not_mem_nil)⟩)⟩)⟩)⟩), in_wo_X10_stepAt_f⟩, List.forall_mem_append.mpr ⟨(List.forall_mem_cons.mpr ⟨mw_573, (List.forall_mem_cons.mpr ⟨mw_572, (List.forall_mem_cons.mpr ⟨mw_571, (List.forall_mem_cons.mpr ⟨mw_364, (fun _ h => absurd h List.not_mem_nil)⟩)⟩)⟩)⟩), in_wo_X10_thrown_g⟩⟩⟩⟩
set_option maxRecDepth 20000 in
theorem in_wo_law21 : ∀ w ∈ wo_law21, w ∈ lw_tbl := List.forall_mem_append.mpr ⟨(fun _ h => absurd h List.not_mem_nil), List.forall_mem_append.mpr ⟨List.forall_mem_append.mpr ⟨(List.forall_mem_cons.mpr ⟨mw_667, (List.forall_mem_cons.mpr ⟨mw_666, (List.forall_mem_cons.mpr ⟨mw_565, (fun _ h => absurd h List.not_mem_nil)⟩)⟩)⟩), in_wo_L_atTop_f⟩, List.forall_mem_append.mpr ⟨List.forall_mem_append.mpr ⟨(List.forall_mem_cons.mpr ⟨mw_670, (List.forall_mem_cons.mpr ⟨mw_669, (List.forall_mem_cons.mpr ⟨mw_668, (List.forall_mem_cons.mpr ⟨mw_364, (fun _ h => absurd h List.not_mem_nil)⟩)⟩)⟩)⟩), in_wo_X10_atTop_f⟩, List.forall_mem_append.mpr ⟨(List.forall_mem_cons.mpr ⟨mw_573, (List.forall_mem_cons.mpr ⟨mw_572, (List.forall_mem_cons.mpr ⟨mw_571, (List.forall_mem_cons.mpr ⟨mw_364, (fun _ h => absurd h List.not_mem_nil)⟩)⟩)⟩)⟩), in_wo_X10_thrown_g⟩⟩⟩⟩
set_option maxRecDepth 20000 in
theorem in_wo_law22 : ∀ w ∈ wo_law22, w ∈ lw_tbl := List.forall_mem_append.mpr ⟨(fun _ h => absurd h List.not_mem_nil), List.forall_mem_append.mpr ⟨List.forall_mem_append.mpr ⟨(List.forall_mem_cons.mpr ⟨mw_672, (List.forall_mem_cons.mpr ⟨mw_671, (List.forall_mem_cons.mpr ⟨mw_565, (fun _ h => absurd h List.not_mem_nil)⟩)⟩)⟩), in_wo_L_walk_f⟩, List.forall_mem_append.mpr ⟨List.forall_mem_append.mpr ⟨(List.forall_mem_cons.mpr ⟨mw_675, (List.forall_mem_cons.mpr ⟨mw_674, (List.forall_mem_cons.mpr ⟨mw_673, (List.forall_mem_cons.mpr ⟨mw_364, (fun _ h => absurd h List.not_mem_nil)⟩)⟩)⟩)⟩), in_wo_X10_walk_f⟩, List.forall_mem_append.mpr ⟨(List.forall_mem_cons.mpr ⟨mw_573, (List.forall_mem_cons.mpr ⟨mw_572, (List.forall_mem_cons.mpr ⟨mw_571, (List.forall_mem_cons.mpr ⟨mw_364, (fun _ h => absurd h List.not_mem_nil)⟩)⟩)⟩)⟩), in_wo_X10_thrown_g⟩⟩⟩⟩
set_option maxRecDepth 20000 in
theorem in_wo_law23 : ∀ w ∈ wo_law23, w ∈ lw_tbl := List.forall_mem_append.mpr ⟨(fun _ h => absurd h List.not_mem_nil), List.forall_mem_append.mpr ⟨List.forall_mem_append.mpr ⟨(List.forall_mem_cons.mpr ⟨mw_677, (List.forall_mem_cons.mpr ⟨mw_676, (List.forall_mem_cons.mpr ⟨mw_565, (fun _ h => absurd h List.not_mem_nil)⟩)⟩)⟩), in_wo_L_reach_f⟩, List.forall_mem_append.mpr ⟨List.forall_mem_append.mpr ⟨(List.forall_mem_cons.mpr ⟨mw_680, (List.forall_mem_cons.mpr ⟨mw_679, (List.forall_mem_cons.mpr ⟨mw_678, (List.forall_mem_cons.mpr ⟨mw_364, (fun _ h => absurd h List.not_mem_nil)⟩)⟩)⟩)⟩), in_wo_X10_reach_f⟩, List.forall_mem_append.mpr ⟨(List.forall_mem_cons.mpr ⟨mw_573, (List.forall_mem_cons.mpr ⟨mw_572, (List.forall_mem_cons.mpr ⟨mw_571, (List.forall_mem_cons.mpr ⟨mw_364, (fun _ h => absurd h List.not_mem_nil)⟩)⟩)⟩)⟩), in_wo_X10_thrown_g⟩⟩⟩⟩
set_option maxRecDepth 20000 in
theorem in_wo_law24 : ∀ w ∈ wo_law24, w ∈ lw_tbl := List.forall_mem_append.mpr ⟨(fun _ h => absurd h List.not_mem_nil), List.forall_mem_append.mpr ⟨List.forall_mem_append.mpr ⟨(List.forall_mem_cons.mpr ⟨mw_682, (List.forall_mem_cons.mpr ⟨mw_681, (List.forall_mem_cons.mpr ⟨mw_565, (fun _ h => absurd h List.not_mem_nil)⟩)⟩)⟩), in_wo_L_reached_f⟩, List.forall_mem_append.mpr ⟨List.forall_mem_append.mpr ⟨(List.forall_mem_cons.mpr ⟨mw_685, (List.forall_mem_cons.mpr ⟨mw_684, (List.forall_mem_cons.mpr ⟨mw_683, (List.forall_mem_cons.mpr ⟨mw_364, (fun _ h => absurd h List.not_mem_nil)⟩)⟩)⟩)⟩), in_wo_X10_reached_f⟩, List.forall_mem_append.mpr ⟨(List.forall_mem_cons.mpr ⟨mw_573, (List.forall_mem_cons.mpr ⟨mw_572, (List.forall_mem_cons.mpr ⟨mw_571, (List.forall_mem_cons.mpr ⟨mw_364, (fun _ h => absurd h List.not_mem_nil)⟩)⟩)⟩)⟩), in_wo_X10_thrown_g⟩⟩⟩⟩
set_option maxRecDepth 20000 in
theorem in_wo_law25 : ∀ w ∈ wo_law25, w ∈ lw_tbl := List.forall_mem_append.mpr ⟨(fun _ h => absurd h List.not_mem_nil), List.forall_mem_append.mpr ⟨List.forall_mem_append.mpr ⟨(List.forall_mem_cons.mpr ⟨mw_687, (List.forall_mem_cons.mpr ⟨mw_686, (List.forall_mem_cons.mpr ⟨mw_565, (fun _ h => absurd h List.not_mem_nil)⟩)⟩)⟩), in_wo_L_meet_f⟩, List.forall_mem_append.mpr ⟨List.forall_mem_append.mpr ⟨(List.forall_mem_cons.mpr ⟨mw_690, (List.forall_mem_cons.mpr ⟨mw_689, (List.forall_mem_cons.mpr ⟨mw_688, (List.forall_mem_cons.mpr ⟨mw_364, (fun _ h => absurd h List.not_mem_nil)⟩)⟩)⟩)⟩), in_wo_X10_meet_f⟩, List.forall_mem_append.mpr ⟨(List.forall_mem_cons.mpr ⟨mw_573, (List.forall_mem_cons.mpr ⟨mw_572, (List.forall_mem_cons.mpr ⟨mw_571, (List.forall_mem_cons.mpr ⟨mw_364, (fun _ h => absurd h List.not_mem_nil)⟩)⟩)⟩)⟩), in_wo_X10_thrown_g⟩⟩⟩⟩
set_option maxRecDepth 20000 in
theorem in_wo_law26 : ∀ w ∈ wo_law26, w ∈ lw_tbl := List.forall_mem_append.mpr ⟨(fun _ h => absurd h List.not_mem_nil), List.forall_mem_append.mpr ⟨List.forall_mem_append.mpr ⟨(List.forall_mem_cons.mpr ⟨mw_692, (List.forall_mem_cons.mpr ⟨mw_691, (List.forall_mem_cons.mpr ⟨mw_565, (fun _ h => absurd h List.not_mem_nil)⟩)⟩)⟩), in_wo_L_keep_f⟩, List.forall_mem_append.mpr ⟨List.forall_mem_append.mpr ⟨(List.forall_mem_cons.mpr ⟨mw_695, (List.forall_mem_cons.mpr ⟨mw_694, (List.forall_mem_cons.mpr ⟨mw_693, (List.forall_mem_cons.mpr ⟨mw_364, (fun _ h => absurd h List.not_mem_nil)⟩)⟩)⟩)⟩), in_wo_X10_keep_f⟩, List.forall_mem_append.mpr ⟨(List.forall_mem_cons.mpr ⟨mw_573, (List.forall_mem_cons.mpr ⟨mw_572, (List.forall_mem_cons.mpr ⟨mw_571, (List.forall_mem_cons.mpr ⟨mw_364, (fun _ h => absurd h List.not_mem_nil)⟩)⟩)⟩)⟩), in_wo_X10_thrown_g⟩⟩⟩⟩
set_option maxRecDepth 20000 in
theorem in_wo_law27 : ∀ w ∈ wo_law27, w ∈ lw_tbl := List.forall_mem_append.mpr ⟨(fun _ h => absurd h List.not_mem_nil), List.forall_mem_append.mpr ⟨List.forall_mem_append.mpr ⟨(List.forall_mem_cons.mpr ⟨mw_698, (List.forall_mem_cons.mpr ⟨mw_697, (List.forall_mem_cons.mpr ⟨mw_696, (List.forall_mem_cons.mpr ⟨mw_275, (fun _ h => absurd h List.not_mem_nil)⟩)⟩)⟩)⟩), in_wo_X9_octet_f⟩, List.forall_mem_append.mpr ⟨(List.forall_mem_cons.mpr ⟨mw_701, (List.forall_mem_cons.mpr ⟨mw_700, (List.forall_mem_cons.mpr ⟨mw_699, (List.forall_mem_cons.mpr ⟨mw_364, (fun _ h => absurd h List.not_mem_nil)⟩)⟩)⟩)⟩), in_wo_X10_octet_f⟩⟩⟩
set_option maxRecDepth 20000 in
theorem in_wo_law28 : ∀ w ∈ wo_law28, w ∈ lw_tbl := List.forall_mem_append.mpr ⟨(fun _ h => absurd h List.not_mem_nil), List.forall_mem_append.mpr ⟨List.forall_mem_append.mpr ⟨(List.forall_mem_cons.mpr ⟨mw_704, (List.forall_mem_cons.mpr ⟨mw_703, (List.forall_mem_cons.mpr ⟨mw_702, (List.forall_mem_cons.mpr ⟨mw_275, (fun _ h => absurd h List.not_mem_nil)⟩)⟩)⟩)⟩), in_wo_X9_count_f⟩, List.forall_mem_append.mpr ⟨(List.forall_mem_cons.mpr ⟨mw_707, (List.forall_mem_cons.mpr ⟨mw_706, (List.forall_mem_cons.mpr ⟨mw_705, (List.forall_mem_cons.mpr ⟨mw_364, (fun _ h => absurd h List.not_mem_nil)⟩)⟩)⟩)⟩), in_wo_X10_count_f⟩⟩⟩
set_option maxRecDepth 20000 in
theorem in_wo_start : ∀ w ∈ wo_start, w ∈ lw_tbl := List.forall_mem_append.mpr ⟨(List.forall_mem_cons.mpr ⟨mw_715, (List.forall_mem_cons.mpr ⟨mw_714, (List.forall_mem_cons.mpr ⟨mw_275, (List.forall_mem_cons.mpr ⟨mw_713, (List.forall_mem_cons.mpr ⟨mw_712, (List.forall_mem_cons.mpr ⟨mw_711, (List.forall_mem_cons.mpr ⟨mw_710, (List.forall_mem_cons.mpr ⟨mw_364, (List.forall_mem_cons.mpr ⟨mw_709, (List.forall_mem_cons.mpr ⟨mw_708, (List.forall_mem_cons.mpr ⟨mw_13, (fun _ h => absurd h List.not_mem_nil)⟩)⟩)⟩)⟩)⟩)⟩)⟩)⟩)⟩)⟩)⟩), List.forall_mem_append.mpr ⟨lin_wsX90, List.forall_mem_append.mpr ⟨lin_wsX100, List.forall_mem_append.mpr ⟨in_wo_X9_init, in_wo_X10_init⟩⟩⟩⟩
