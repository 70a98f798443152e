theorem dX9_init_0 : decode cX9_init 0 = .ok (.aload_n 0, 1) := by decide +kernel
theorem dX9_init_1 : decode cX9_init 1 = .ok (.invokespecial 1, 3) := by decide +kernel
theorem dX9_init_4 : decode cX9_init 4 = .ok (.aload_n 0, 1) := by decide +kernel
theorem dX9_init_5 : decode cX9_init 5 = .ok (.new 7, 3) := by decide +kernel
theorem dX9_init_8 : decode cX9_init 8 = .ok (.dup, 1) := by decide +kernel
theorem dX9_init_9 : decode cX9_init 9 = .ok (.invokespecial 9, 3) := by decide +kernel
theorem dX9_init_12 : decode cX9_init 12 = .ok (.putfield 10, 3) := by decide +kernel
theorem dX9_init_15 : decode cX9_init 15 = .ok (.aload_n 0, 1) := by decide +kernel
theorem dX9_init_16 : decode cX9_init 16 = .ok (.new 16, 3) := by decide +kernel
theorem dX9_init_19 : decode cX9_init 19 = .ok (.dup, 1) := by decide +kernel
theorem dX9_init_20 : decode cX9_init 20 = .ok (.invokespecial 18, 3) := by decide +kernel
theorem dX9_init_23 : decode cX9_init 23 = .ok (.putfield 19, 3) := by decide +kernel
theorem dX9_init_26 : decode cX9_init 26 = .ok (.aload_n 0, 1) := by decide +kernel
theorem dX9_init_27 : decode cX9_init 27 = .ok (.new 16, 3) := by decide +kernel
theorem dX9_init_30 : decode cX9_init 30 = .ok (.dup, 1) := by decide +kernel
theorem dX9_init_31 : decode cX9_init 31 = .ok (.invokespecial 18, 3) := by decide +kernel
theorem dX9_init_34 : decode cX9_init 34 = .ok (.putfield 23, 3) := by decide +kernel
theorem dX9_init_37 : decode cX9_init 37 = .ok (.aload_n 0, 1) := by decide +kernel
theorem dX9_init_38 : decode cX9_init 38 = .ok (.new 26, 3) := by decide +kernel
theorem dX9_init_41 : decode cX9_init 41 = .ok (.dup, 1) := by decide +kernel
theorem dX9_init_42 : decode cX9_init 42 = .ok (.aload_n 0, 1) := by decide +kernel
theorem dX9_init_43 : decode cX9_init 43 = .ok (.getfield 19, 3) := by decide +kernel
theorem dX9_init_46 : decode cX9_init 46 = .ok (.invokespecial 28, 3) := by decide +kernel
theorem dX9_init_49 : decode cX9_init 49 = .ok (.putfield 31, 3) := by decide +kernel
theorem dX9_init_52 : decode cX9_init 52 = .ok (.aload_n 0, 1) := by decide +kernel
theorem dX9_init_53 : decode cX9_init 53 = .ok (.new 35, 3) := by decide +kernel
theorem dX9_init_56 : decode cX9_init 56 = .ok (.dup, 1) := by decide +kernel
theorem dX9_init_57 : decode cX9_init 57 = .ok (.aload_n 0, 1) := by decide +kernel
theorem dX9_init_58 : decode cX9_init 58 = .ok (.getfield 10, 3) := by decide +kernel
theorem dX9_init_61 : decode cX9_init 61 = .ok (.aload_n 0, 1) := by decide +kernel
theorem dX9_init_62 : decode cX9_init 62 = .ok (.getfield 19, 3) := by decide +kernel
theorem dX9_init_65 : decode cX9_init 65 = .ok (.aload_n 0, 1) := by decide +kernel
theorem dX9_init_66 : decode cX9_init 66 = .ok (.getfield 31, 3) := by decide +kernel
theorem dX9_init_69 : decode cX9_init 69 = .ok (.invokespecial 37, 3) := by decide +kernel
theorem dX9_init_72 : decode cX9_init 72 = .ok (.putfield 40, 3) := by decide +kernel
theorem dX9_init_75 : decode cX9_init 75 = .ok (.aload_n 0, 1) := by decide +kernel
theorem dX9_init_76 : decode cX9_init 76 = .ok (.new 44, 3) := by decide +kernel
theorem dX9_init_79 : decode cX9_init 79 = .ok (.dup, 1) := by decide +kernel
theorem dX9_init_80 : decode cX9_init 80 = .ok (.bipush 30, 2) := by decide +kernel
theorem dX9_init_82 : decode cX9_init 82 = .ok (.invokespecial 46, 3) := by decide +kernel
theorem dX9_init_85 : decode cX9_init 85 = .ok (.putfield 49, 3) := by decide +kernel
theorem dX9_init_88 : decode cX9_init 88 = .ok (.aload_n 0, 1) := by decide +kernel
theorem dX9_init_89 : decode cX9_init 89 = .ok (.new 44, 3) := by decide +kernel
theorem dX9_init_92 : decode cX9_init 92 = .ok (.dup, 1) := by decide +kernel
theorem dX9_init_93 : decode cX9_init 93 = .ok (.bipush 16, 2) := by decide +kernel
theorem dX9_init_95 : decode cX9_init 95 = .ok (.invokespecial 46, 3) := by decide +kernel
theorem dX9_init_98 : decode cX9_init 98 = .ok (.putfield 53, 3) := by decide +kernel
theorem dX9_init_101 : decode cX9_init 101 = .ok (.aload_n 0, 1) := by decide +kernel
theorem dX9_init_102 : decode cX9_init 102 = .ok (.new 44, 3) := by decide +kernel
theorem dX9_init_105 : decode cX9_init 105 = .ok (.dup, 1) := by decide +kernel
theorem dX9_init_106 : decode cX9_init 106 = .ok (.iconst 1, 1) := by decide +kernel
theorem dX9_init_107 : decode cX9_init 107 = .ok (.invokespecial 46, 3) := by decide +kernel
theorem dX9_init_110 : decode cX9_init 110 = .ok (.putfield 56, 3) := by decide +kernel
theorem dX9_init_113 : decode cX9_init 113 = .ok (.aload_n 0, 1) := by decide +kernel
theorem dX9_init_114 : decode cX9_init 114 = .ok (.new 59, 3) := by decide +kernel
theorem dX9_init_117 : decode cX9_init 117 = .ok (.dup, 1) := by decide +kernel
theorem dX9_init_118 : decode cX9_init 118 = .ok (.aload_n 0, 1) := by decide +kernel
theorem dX9_init_119 : decode cX9_init 119 = .ok (.getfield 19, 3) := by decide +kernel
theorem dX9_init_122 : decode cX9_init 122 = .ok (.invokespecial 61, 3) := by decide +kernel
theorem dX9_init_125 : decode cX9_init 125 = .ok (.putfield 62, 3) := by decide +kernel
theorem dX9_init_128 : decode cX9_init 128 = .ok (.aload_n 0, 1) := by decide +kernel
theorem dX9_init_129 : decode cX9_init 129 = .ok (.new 66, 3) := by decide +kernel
theorem dX9_init_132 : decode cX9_init 132 = .ok (.dup, 1) := by decide +kernel
theorem dX9_init_133 : decode cX9_init 133 = .ok (.aload_n 0, 1) := by decide +kernel
theorem dX9_init_134 : decode cX9_init 134 = .ok (.getfield 31, 3) := by decide +kernel
theorem dX9_init_137 : decode cX9_init 137 = .ok (.invokespecial 68, 3) := by decide +kernel
theorem dX9_init_140 : decode cX9_init 140 = .ok (.putfield 71, 3) := by decide +kernel
theorem dX9_init_143 : decode cX9_init 143 = .ok (.aload_n 0, 1) := by decide +kernel
theorem dX9_init_144 : decode cX9_init 144 = .ok (.new 75, 3) := by decide +kernel
theorem dX9_init_147 : decode cX9_init 147 = .ok (.dup, 1) := by decide +kernel
theorem dX9_init_148 : decode cX9_init 148 = .ok (.aload_n 0, 1) := by decide +kernel
theorem dX9_init_149 : decode cX9_init 149 = .ok (.getfield 31, 3) := by decide +kernel
theorem dX9_init_152 : decode cX9_init 152 = .ok (.aload_n 0, 1) := by decide +kernel
theorem dX9_init_153 : decode cX9_init 153 = .ok (.getfield 71, 3) := by decide +kernel
theorem dX9_init_156 : decode cX9_init 156 = .ok (.invokespecial 77, 3) := by decide +kernel
theorem dX9_init_159 : decode cX9_init 159 = .ok (.putfield 80, 3) := by decide +kernel
theorem dX9_init_162 : decode cX9_init 162 = .ok (.aload_n 0, 1) := by decide +kernel
theorem dX9_init_163 : decode cX9_init 163 = .ok (.new 84, 3) := by decide +kernel
theorem dX9_init_166 : decode cX9_init 166 = .ok (.dup, 1) := by decide +kernel
theorem dX9_init_167 : decode cX9_init 167 = .ok (.aload_n 0, 1) := by decide +kernel
theorem dX9_init_168 : decode cX9_init 168 = .ok (.getfield 80, 3) := by decide +kernel
theorem dX9_init_171 : decode cX9_init 171 = .ok (.invokespecial 86, 3) := by decide +kernel
theorem dX9_init_174 : decode cX9_init 174 = .ok (.putfield 89, 3) := by decide +kernel
theorem dX9_init_177 : decode cX9_init 177 = .ok (.aload_n 0, 1) := by decide +kernel
theorem dX9_init_178 : decode cX9_init 178 = .ok (.new 84, 3) := by decide +kernel
theorem dX9_init_181 : decode cX9_init 181 = .ok (.dup, 1) := by decide +kernel
theorem dX9_init_182 : decode cX9_init 182 = .ok (.aload_n 0, 1) := by decide +kernel
theorem dX9_init_183 : decode cX9_init 183 = .ok (.getfield 80, 3) := by decide +kernel
theorem dX9_init_186 : decode cX9_init 186 = .ok (.invokespecial 86, 3) := by decide +kernel
theorem dX9_init_189 : decode cX9_init 189 = .ok (.putfield 93, 3) := by decide +kernel
theorem dX9_init_192 : decode cX9_init 192 = .ok (.aload_n 0, 1) := by decide +kernel
theorem dX9_init_193 : decode cX9_init 193 = .ok (.iconst 5, 1) := by decide +kernel
theorem dX9_init_194 : decode cX9_init 194 = .ok (.newarray .int, 2) := by decide +kernel
theorem dX9_init_196 : decode cX9_init 196 = .ok (.putfield 96, 3) := by decide +kernel
theorem dX9_init_199 : decode cX9_init 199 = .ok (.aload_n 0, 1) := by decide +kernel
theorem dX9_init_200 : decode cX9_init 200 = .ok (.iconst 0, 1) := by decide +kernel
theorem dX9_init_201 : decode cX9_init 201 = .ok (.putfield 100, 3) := by decide +kernel
theorem dX9_init_204 : decode cX9_init 204 = .ok (.aload_n 0, 1) := by decide +kernel
theorem dX9_init_205 : decode cX9_init 205 = .ok (.iconst (-1), 1) := by decide +kernel
theorem dX9_init_206 : decode cX9_init 206 = .ok (.putfield 104, 3) := by decide +kernel
theorem dX9_init_209 : decode cX9_init 209 = .ok (.return_, 1) := by decide +kernel
theorem dX9_feed_0 : decode cX9_feed 0 = .ok (.aload_n 0, 1) := by decide +kernel
theorem dX9_feed_1 : decode cX9_feed 1 = .ok (.getfield 10, 3) := by decide +kernel
theorem dX9_feed_4 : decode cX9_feed 4 = .ok (.iload_n 1, 1) := by decide +kernel
theorem dX9_feed_5 : decode cX9_feed 5 = .ok (.iload_n 2, 1) := by decide +kernel
theorem dX9_feed_6 : decode cX9_feed 6 = .ok (.iload_n 3, 1) := by decide +kernel
theorem dX9_feed_7 : decode cX9_feed 7 = .ok (.iload 4, 2) := by decide +kernel
theorem dX9_feed_9 : decode cX9_feed 9 = .ok (.iload 5, 2) := by decide +kernel
theorem dX9_feed_11 : decode cX9_feed 11 = .ok (.invokevirtual 107, 3) := by decide +kernel
theorem dX9_feed_14 : decode cX9_feed 14 = .ok (.ireturn, 1) := by decide +kernel
theorem dX9_end_0 : decode cX9_end 0 = .ok (.aload_n 0, 1) := by decide +kernel
theorem dX9_end_1 : decode cX9_end 1 = .ok (.getfield 10, 3) := by decide +kernel
theorem dX9_end_4 : decode cX9_end 4 = .ok (.iload_n 1, 1) := by decide +kernel
theorem dX9_end_5 : decode cX9_end 5 = .ok (.invokevirtual 111, 3) := by decide +kernel
theorem dX9_end_8 : decode cX9_end 8 = .ok (.ireturn, 1) := by decide +kernel
theorem dX9_signature_0 : decode cX9_signature 0 = .ok (.aload_n 0, 1) := by decide +kernel
theorem dX9_signature_1 : decode cX9_signature 1 = .ok (.getfield 10, 3) := by decide +kernel
theorem dX9_signature_4 : decode cX9_signature 4 = .ok (.invokevirtual 115, 3) := by decide +kernel
theorem dX9_signature_7 : decode cX9_signature 7 = .ok (.aload_n 0, 1) := by decide +kernel
theorem dX9_signature_8 : decode cX9_signature 8 = .ok (.getfield 23, 3) := by decide +kernel
theorem dX9_signature_11 : decode cX9_signature 11 = .ok (.aload_n 0, 1) := by decide +kernel
theorem dX9_signature_12 : decode cX9_signature 12 = .ok (.getfield 10, 3) := by decide +kernel
theorem dX9_signature_15 : decode cX9_signature 15 = .ok (.invokevirtual 118, 3) := by decide +kernel
theorem dX9_signature_18 : decode cX9_signature 18 = .ok (.ifCond .ne 24, 3) := by decide +kernel
theorem dX9_signature_42 : decode cX9_signature 42 = .ok (.aload_n 0, 1) := by decide +kernel
theorem dX9_signature_43 : decode cX9_signature 43 = .ok (.iconst (-1), 1) := by decide +kernel
theorem dX9_signature_44 : decode cX9_signature 44 = .ok (.putfield 104, 3) := by decide +kernel
theorem dX9_signature_47 : decode cX9_signature 47 = .ok (.aload_n 0, 1) := by decide +kernel
theorem dX9_signature_48 : decode cX9_signature 48 = .ok (.getfield 19, 3) := by decide +kernel
theorem dX9_signature_51 : decode cX9_signature 51 = .ok (.aload_n 0, 1) := by decide +kernel
theorem dX9_signature_52 : decode cX9_signature 52 = .ok (.getfield 23, 3) := by decide +kernel
theorem dX9_signature_55 : decode cX9_signature 55 = .ok (.invokevirtual 132, 3) := by decide +kernel
theorem dX9_signature_58 : decode cX9_signature 58 = .ok (.aload_n 0, 1) := by decide +kernel
theorem dX9_signature_59 : decode cX9_signature 59 = .ok (.getfield 49, 3) := by decide +kernel
theorem dX9_signature_62 : decode cX9_signature 62 = .ok (.invokevirtual 135, 3) := by decide +kernel
theorem dX9_signature_65 : decode cX9_signature 65 = .ok (.aload_n 0, 1) := by decide +kernel
theorem dX9_signature_66 : decode cX9_signature 66 = .ok (.getfield 53, 3) := by decide +kernel
theorem dX9_signature_69 : decode cX9_signature 69 = .ok (.invokevirtual 135, 3) := by decide +kernel
theorem dX9_signature_72 : decode cX9_signature 72 = .ok (.aload_n 0, 1) := by decide +kernel
theorem dX9_signature_73 : decode cX9_signature 73 = .ok (.getfield 62, 3) := by decide +kernel
theorem dX9_signature_76 : decode cX9_signature 76 = .ok (.invokevirtual 138, 3) := by decide +kernel
theorem dX9_signature_79 : decode cX9_signature 79 = .ok (.aload_n 0, 1) := by decide +kernel
theorem dX9_signature_80 : decode cX9_signature 80 = .ok (.iconst 0, 1) := by decide +kernel
theorem dX9_signature_81 : decode cX9_signature 81 = .ok (.putfield 100, 3) := by decide +kernel
theorem dX9_signature_84 : decode cX9_signature 84 = .ok (.aload_n 0, 1) := by decide +kernel
theorem dX9_signature_85 : decode cX9_signature 85 = .ok (.getfield 19, 3) := by decide +kernel
theorem dX9_signature_88 : decode cX9_signature 88 = .ok (.getfield 139, 3) := by decide +kernel
theorem dX9_signature_91 : decode cX9_signature 91 = .ok (.ireturn, 1) := by decide +kernel
theorem dX9_term_0 : decode cX9_term 0 = .ok (.aload_n 0, 1) := by decide +kernel
theorem dX9_term_1 : decode cX9_term 1 = .ok (.getfield 10, 3) := by decide +kernel
theorem dX9_term_4 : decode cX9_term 4 = .ok (.invokevirtual 115, 3) := by decide +kernel
theorem dX9_term_7 : decode cX9_term 7 = .ok (.aload_n 0, 1) := by decide +kernel
theorem dX9_term_8 : decode cX9_term 8 = .ok (.getfield 31, 3) := by decide +kernel
theorem dX9_term_11 : decode cX9_term 11 = .ok (.invokevirtual 142, 3) := by decide +kernel
theorem dX9_term_14 : decode cX9_term 14 = .ok (.aload_n 0, 1) := by decide +kernel
theorem dX9_term_15 : decode cX9_term 15 = .ok (.getfield 40, 3) := by decide +kernel
theorem dX9_term_18 : decode cX9_term 18 = .ok (.invokevirtual 143, 3) := by decide +kernel
theorem dX9_term_21 : decode cX9_term 21 = .ok (.istore_n 1, 1) := by decide +kernel
theorem dX9_term_22 : decode cX9_term 22 = .ok (.aload_n 0, 1) := by decide +kernel
theorem dX9_term_23 : decode cX9_term 23 = .ok (.iload_n 1, 1) := by decide +kernel
theorem dX9_term_24 : decode cX9_term 24 = .ok (.bipush (-2), 2) := by decide +kernel
theorem dX9_term_26 : decode cX9_term 26 = .ok (.if_icmp .eq 17, 3) := by decide +kernel
theorem dX9_term_43 : decode cX9_term 43 = .ok (.iconst 0, 1) := by decide +kernel
theorem dX9_term_44 : decode cX9_term 44 = .ok (.invokevirtual 149, 3) := by decide +kernel
theorem dX9_rule_0 : decode cX9_rule 0 = .ok (.aload_n 0, 1) := by decide +kernel
theorem dX9_rule_1 : decode cX9_rule 1 = .ok (.getfield 10, 3) := by decide +kernel
theorem dX9_rule_4 : decode cX9_rule 4 = .ok (.invokevirtual 115, 3) := by decide +kernel
theorem dX9_rule_7 : decode cX9_rule 7 = .ok (.aload_n 0, 1) := by decide +kernel
theorem dX9_rule_8 : decode cX9_rule 8 = .ok (.getfield 31, 3) := by decide +kernel
theorem dX9_rule_11 : decode cX9_rule 11 = .ok (.invokevirtual 142, 3) := by decide +kernel
theorem dX9_rule_14 : decode cX9_rule 14 = .ok (.aload_n 0, 1) := by decide +kernel
theorem dX9_rule_15 : decode cX9_rule 15 = .ok (.getfield 40, 3) := by decide +kernel
theorem dX9_rule_18 : decode cX9_rule 18 = .ok (.invokevirtual 143, 3) := by decide +kernel
theorem dX9_rule_21 : decode cX9_rule 21 = .ok (.istore_n 1, 1) := by decide +kernel
theorem dX9_rule_22 : decode cX9_rule 22 = .ok (.aload_n 0, 1) := by decide +kernel
theorem dX9_rule_23 : decode cX9_rule 23 = .ok (.iload_n 1, 1) := by decide +kernel
theorem dX9_rule_24 : decode cX9_rule 24 = .ok (.bipush (-2), 2) := by decide +kernel
theorem dX9_rule_26 : decode cX9_rule 26 = .ok (.if_icmp .eq 30, 3) := by decide +kernel
theorem dX9_rule_56 : decode cX9_rule 56 = .ok (.iconst 0, 1) := by decide +kernel
theorem dX9_rule_57 : decode cX9_rule 57 = .ok (.invokevirtual 149, 3) := by decide +kernel
theorem dX9_fault_0 : decode cX9_fault 0 = .ok (.aload_n 0, 1) := by decide +kernel
theorem dX9_fault_1 : decode cX9_fault 1 = .ok (.getfield 104, 3) := by decide +kernel
theorem dX9_fault_4 : decode cX9_fault 4 = .ok (.ireturn, 1) := by decide +kernel
theorem dX9_checkText_0 : decode cX9_checkText 0 = .ok (.aload_n 0, 1) := by decide +kernel
theorem dX9_checkText_1 : decode cX9_checkText 1 = .ok (.iload_n 1, 1) := by decide +kernel
theorem dX9_checkText_2 : decode cX9_checkText 2 = .ok (.ifCond .eq 7, 3) := by decide +kernel
theorem dX9_checkText_9 : decode cX9_checkText 9 = .ok (.aload_n 0, 1) := by decide +kernel
theorem dX9_checkText_10 : decode cX9_checkText 10 = .ok (.getfield 10, 3) := by decide +kernel
theorem dX9_checkText_13 : decode cX9_checkText 13 = .ok (.getfield 122, 3) := by decide +kernel
theorem dX9_checkText_16 : decode cX9_checkText 16 = .ok (.putfield 104, 3) := by decide +kernel
theorem dX9_checkText_19 : decode cX9_checkText 19 = .ok (.iload_n 1, 1) := by decide +kernel
theorem dX9_checkText_20 : decode cX9_checkText 20 = .ok (.ifCond .ne 13, 3) := by decide +kernel
theorem dX9_checkText_23 : decode cX9_checkText 23 = .ok (.new 125, 3) := by decide +kernel
theorem dX9_checkText_26 : decode cX9_checkText 26 = .ok (.dup, 1) := by decide +kernel
theorem dX9_checkText_27 : decode cX9_checkText 27 = .ok (.ldc 186, 2) := by decide +kernel
theorem dX9_checkText_29 : decode cX9_checkText 29 = .ok (.invokespecial 129, 3) := by decide +kernel
theorem dX9_checkText_32 : decode cX9_checkText 32 = .ok (.athrow, 1) := by decide +kernel
theorem dX9_turn_0 : decode cX9_turn 0 = .ok (.aload_n 0, 1) := by decide +kernel
theorem dX9_turn_1 : decode cX9_turn 1 = .ok (.iload_n 1, 1) := by decide +kernel
theorem dX9_turn_2 : decode cX9_turn 2 = .ok (.invokevirtual 201, 3) := by decide +kernel
theorem dX9_operator_0 : decode cX9_operator 0 = .ok (.aload_n 0, 1) := by decide +kernel
theorem dX9_operator_1 : decode cX9_operator 1 = .ok (.iload_n 1, 1) := by decide +kernel
theorem dX9_operator_2 : decode cX9_operator 2 = .ok (.invokevirtual 204, 3) := by decide +kernel
theorem dX9_about_0 : decode cX9_about 0 = .ok (.aload_n 0, 1) := by decide +kernel
theorem dX9_about_1 : decode cX9_about 1 = .ok (.iload_n 1, 1) := by decide +kernel
theorem dX9_about_2 : decode cX9_about 2 = .ok (.invokevirtual 227, 3) := by decide +kernel
theorem dX9_order_0 : decode cX9_order 0 = .ok (.aload_n 0, 1) := by decide +kernel
theorem dX9_order_1 : decode cX9_order 1 = .ok (.iload_n 1, 1) := by decide +kernel
theorem dX9_order_2 : decode cX9_order 2 = .ok (.invokevirtual 227, 3) := by decide +kernel
theorem dX9_rank_0 : decode cX9_rank 0 = .ok (.aload_n 0, 1) := by decide +kernel
theorem dX9_rank_1 : decode cX9_rank 1 = .ok (.getfield 49, 3) := by decide +kernel
theorem dX9_rank_4 : decode cX9_rank 4 = .ok (.iload_n 1, 1) := by decide +kernel
theorem dX9_rank_5 : decode cX9_rank 5 = .ok (.ldc2_w 266, 3) := by decide +kernel
theorem dX9_rank_8 : decode cX9_rank 8 = .ok (.invokevirtual 268, 3) := by decide +kernel
theorem dX9_rank_11 : decode cX9_rank 11 = .ok (.ireturn, 1) := by decide +kernel
theorem dX9_show_0 : decode cX9_show 0 = .ok (.aload_n 0, 1) := by decide +kernel
theorem dX9_show_1 : decode cX9_show 1 = .ok (.iload_n 1, 1) := by decide +kernel
theorem dX9_show_2 : decode cX9_show 2 = .ok (.invokevirtual 227, 3) := by decide +kernel
theorem dX9_place_0 : decode cX9_place 0 = .ok (.aload_n 0, 1) := by decide +kernel
theorem dX9_place_1 : decode cX9_place 1 = .ok (.iload_n 1, 1) := by decide +kernel
theorem dX9_place_2 : decode cX9_place 2 = .ok (.invokevirtual 227, 3) := by decide +kernel
theorem dX9_side_0 : decode cX9_side 0 = .ok (.aload_n 0, 1) := by decide +kernel
theorem dX9_side_1 : decode cX9_side 1 = .ok (.iload_n 1, 1) := by decide +kernel
theorem dX9_side_2 : decode cX9_side 2 = .ok (.invokevirtual 201, 3) := by decide +kernel
theorem dX9_keep_0 : decode cX9_keep 0 = .ok (.aload_n 0, 1) := by decide +kernel
theorem dX9_keep_1 : decode cX9_keep 1 = .ok (.getfield 62, 3) := by decide +kernel
theorem dX9_keep_4 : decode cX9_keep 4 = .ok (.getfield 284, 3) := by decide +kernel
theorem dX9_keep_7 : decode cX9_keep 7 = .ok (.getfield 192, 3) := by decide +kernel
theorem dX9_keep_10 : decode cX9_keep 10 = .ok (.ifCond .ne 14, 3) := by decide +kernel
theorem dX9_keep_13 : decode cX9_keep 13 = .ok (.new 153, 3) := by decide +kernel
theorem dX9_keep_16 : decode cX9_keep 16 = .ok (.dup, 1) := by decide +kernel
theorem dX9_keep_17 : decode cX9_keep 17 = .ok (.ldc_w 287, 3) := by decide +kernel
theorem dX9_keep_20 : decode cX9_keep 20 = .ok (.invokespecial 157, 3) := by decide +kernel
theorem dX9_keep_23 : decode cX9_keep 23 = .ok (.athrow, 1) := by decide +kernel
theorem dX9_octet_0 : decode cX9_octet 0 = .ok (.aload_n 0, 1) := by decide +kernel
theorem dX9_octet_1 : decode cX9_octet 1 = .ok (.getfield 62, 3) := by decide +kernel
theorem dX9_octet_4 : decode cX9_octet 4 = .ok (.iload_n 1, 1) := by decide +kernel
theorem dX9_octet_5 : decode cX9_octet 5 = .ok (.invokevirtual 289, 3) := by decide +kernel
theorem dX9_octet_8 : decode cX9_octet 8 = .ok (.ireturn, 1) := by decide +kernel
theorem dX9_matches_0 : decode cX9_matches 0 = .ok (.aload_n 0, 1) := by decide +kernel
theorem dX9_matches_1 : decode cX9_matches 1 = .ok (.iload_n 1, 1) := by decide +kernel
theorem dX9_matches_2 : decode cX9_matches 2 = .ok (.invokevirtual 227, 3) := by decide +kernel
theorem dX9_bound_0 : decode cX9_bound 0 = .ok (.aload_n 0, 1) := by decide +kernel
theorem dX9_bound_1 : decode cX9_bound 1 = .ok (.iload_n 1, 1) := by decide +kernel
theorem dX9_bound_2 : decode cX9_bound 2 = .ok (.invokevirtual 227, 3) := by decide +kernel
theorem dX9_fill_0 : decode cX9_fill 0 = .ok (.aload_n 0, 1) := by decide +kernel
theorem dX9_fill_1 : decode cX9_fill 1 = .ok (.iload_n 1, 1) := by decide +kernel
theorem dX9_fill_2 : decode cX9_fill 2 = .ok (.invokevirtual 227, 3) := by decide +kernel
theorem dX9_join_0 : decode cX9_join 0 = .ok (.aload_n 0, 1) := by decide +kernel
theorem dX9_join_1 : decode cX9_join 1 = .ok (.iload_n 1, 1) := by decide +kernel
theorem dX9_join_2 : decode cX9_join 2 = .ok (.invokevirtual 204, 3) := by decide +kernel
theorem dX9_steps_0 : decode cX9_steps 0 = .ok (.aload_n 0, 1) := by decide +kernel
theorem dX9_steps_1 : decode cX9_steps 1 = .ok (.iload_n 1, 1) := by decide +kernel
theorem dX9_steps_2 : decode cX9_steps 2 = .ok (.invokevirtual 227, 3) := by decide +kernel
theorem dX9_step_0 : decode cX9_step 0 = .ok (.aload_n 0, 1) := by decide +kernel
theorem dX9_step_1 : decode cX9_step 1 = .ok (.iload_n 1, 1) := by decide +kernel
theorem dX9_step_2 : decode cX9_step 2 = .ok (.invokevirtual 227, 3) := by decide +kernel
theorem dX9_stepAt_0 : decode cX9_stepAt 0 = .ok (.aload_n 0, 1) := by decide +kernel
theorem dX9_stepAt_1 : decode cX9_stepAt 1 = .ok (.iload_n 1, 1) := by decide +kernel
theorem dX9_stepAt_2 : decode cX9_stepAt 2 = .ok (.invokevirtual 227, 3) := by decide +kernel
theorem dX9_atTop_0 : decode cX9_atTop 0 = .ok (.aload_n 0, 1) := by decide +kernel
theorem dX9_atTop_1 : decode cX9_atTop 1 = .ok (.iload_n 1, 1) := by decide +kernel
theorem dX9_atTop_2 : decode cX9_atTop 2 = .ok (.invokevirtual 227, 3) := by decide +kernel
theorem dX9_walk_0 : decode cX9_walk 0 = .ok (.aload_n 0, 1) := by decide +kernel
theorem dX9_walk_1 : decode cX9_walk 1 = .ok (.iload_n 1, 1) := by decide +kernel
theorem dX9_walk_2 : decode cX9_walk 2 = .ok (.invokevirtual 227, 3) := by decide +kernel
theorem dX9_reach_0 : decode cX9_reach 0 = .ok (.aload_n 0, 1) := by decide +kernel
theorem dX9_reach_1 : decode cX9_reach 1 = .ok (.iload_n 1, 1) := by decide +kernel
theorem dX9_reach_2 : decode cX9_reach 2 = .ok (.invokevirtual 227, 3) := by decide +kernel
theorem dX9_reached_0 : decode cX9_reached 0 = .ok (.aload_n 0, 1) := by decide +kernel
theorem dX9_reached_1 : decode cX9_reached 1 = .ok (.iload_n 1, 1) := by decide +kernel
theorem dX9_reached_2 : decode cX9_reached 2 = .ok (.invokevirtual 227, 3) := by decide +kernel
theorem dX9_meet_0 : decode cX9_meet 0 = .ok (.aload_n 0, 1) := by decide +kernel
theorem dX9_meet_1 : decode cX9_meet 1 = .ok (.iload_n 1, 1) := by decide +kernel
theorem dX9_meet_2 : decode cX9_meet 2 = .ok (.invokevirtual 227, 3) := by decide +kernel
theorem dX9_count_0 : decode cX9_count 0 = .ok (.iload_n 1, 1) := by decide +kernel
theorem dX9_count_1 : decode cX9_count 1 = .ok (.tableswitch 108 0 8 #[51, 59, 67, 75, 80, 85, 93, 98, 103], 51) := by decide +kernel
theorem dX9_count_52 : decode cX9_count 52 = .ok (.aload_n 0, 1) := by decide +kernel
theorem dX9_count_53 : decode cX9_count 53 = .ok (.getfield 19, 3) := by decide +kernel
theorem dX9_count_56 : decode cX9_count 56 = .ok (.getfield 139, 3) := by decide +kernel
theorem dX9_count_59 : decode cX9_count 59 = .ok (.ireturn, 1) := by decide +kernel
theorem dX9_count_60 : decode cX9_count 60 = .ok (.aload_n 0, 1) := by decide +kernel
theorem dX9_count_61 : decode cX9_count 61 = .ok (.getfield 19, 3) := by decide +kernel
theorem dX9_count_64 : decode cX9_count 64 = .ok (.getfield 395, 3) := by decide +kernel
theorem dX9_count_67 : decode cX9_count 67 = .ok (.ireturn, 1) := by decide +kernel
theorem dX9_count_68 : decode cX9_count 68 = .ok (.aload_n 0, 1) := by decide +kernel
theorem dX9_count_69 : decode cX9_count 69 = .ok (.getfield 49, 3) := by decide +kernel
theorem dX9_count_72 : decode cX9_count 72 = .ok (.getfield 192, 3) := by decide +kernel
theorem dX9_count_75 : decode cX9_count 75 = .ok (.ireturn, 1) := by decide +kernel
theorem dX9_count_76 : decode cX9_count 76 = .ok (.aload_n 0, 1) := by decide +kernel
theorem dX9_count_77 : decode cX9_count 77 = .ok (.invokevirtual 181, 3) := by decide +kernel
theorem dX9_count_80 : decode cX9_count 80 = .ok (.ireturn, 1) := by decide +kernel
theorem dX9_count_81 : decode cX9_count 81 = .ok (.aload_n 0, 1) := by decide +kernel
theorem dX9_count_82 : decode cX9_count 82 = .ok (.getfield 100, 3) := by decide +kernel
theorem dX9_count_85 : decode cX9_count 85 = .ok (.ireturn, 1) := by decide +kernel
theorem dX9_count_86 : decode cX9_count 86 = .ok (.aload_n 0, 1) := by decide +kernel
theorem dX9_count_87 : decode cX9_count 87 = .ok (.getfield 62, 3) := by decide +kernel
theorem dX9_count_90 : decode cX9_count 90 = .ok (.getfield 398, 3) := by decide +kernel
theorem dX9_count_93 : decode cX9_count 93 = .ok (.ireturn, 1) := by decide +kernel
theorem dX9_count_94 : decode cX9_count 94 = .ok (.aload_n 0, 1) := by decide +kernel
theorem dX9_count_95 : decode cX9_count 95 = .ok (.invokevirtual 401, 3) := by decide +kernel
theorem dX9_count_98 : decode cX9_count 98 = .ok (.ireturn, 1) := by decide +kernel
theorem dX9_count_99 : decode cX9_count 99 = .ok (.aload_n 0, 1) := by decide +kernel
theorem dX9_count_100 : decode cX9_count 100 = .ok (.invokevirtual 404, 3) := by decide +kernel
theorem dX9_count_103 : decode cX9_count 103 = .ok (.ireturn, 1) := by decide +kernel
theorem dX9_count_104 : decode cX9_count 104 = .ok (.aload_n 0, 1) := by decide +kernel
theorem dX9_count_105 : decode cX9_count 105 = .ok (.invokevirtual 407, 3) := by decide +kernel
theorem dX9_count_108 : decode cX9_count 108 = .ok (.ireturn, 1) := by decide +kernel
theorem dX9_count_109 : decode cX9_count 109 = .ok (.iconst (-1), 1) := by decide +kernel
theorem dX9_count_110 : decode cX9_count 110 = .ok (.ireturn, 1) := by decide +kernel
theorem dX9_normalTerms_0 : decode cX9_normalTerms 0 = .ok (.iconst 0, 1) := by decide +kernel
theorem dX9_normalTerms_1 : decode cX9_normalTerms 1 = .ok (.istore_n 1, 1) := by decide +kernel
theorem dX9_normalTerms_2 : decode cX9_normalTerms 2 = .ok (.aload_n 0, 1) := by decide +kernel
theorem dX9_normalTerms_3 : decode cX9_normalTerms 3 = .ok (.getfield 80, 3) := by decide +kernel
theorem dX9_normalTerms_6 : decode cX9_normalTerms 6 = .ok (.aload_n 0, 1) := by decide +kernel
theorem dX9_normalTerms_7 : decode cX9_normalTerms 7 = .ok (.getfield 53, 3) := by decide +kernel
theorem dX9_normalTerms_10 : decode cX9_normalTerms 10 = .ok (.aload_n 0, 1) := by decide +kernel
theorem dX9_normalTerms_11 : decode cX9_normalTerms 11 = .ok (.getfield 100, 3) := by decide +kernel
theorem dX9_normalTerms_14 : decode cX9_normalTerms 14 = .ok (.invokevirtual 336, 3) := by decide +kernel
theorem dX9_normalTerms_17 : decode cX9_normalTerms 17 = .ok (.iconst 0, 1) := by decide +kernel
theorem dX9_normalTerms_18 : decode cX9_normalTerms 18 = .ok (.istore_n 2, 1) := by decide +kernel
theorem dX9_normalTerms_19 : decode cX9_normalTerms 19 = .ok (.iload_n 2, 1) := by decide +kernel
theorem dX9_normalTerms_20 : decode cX9_normalTerms 20 = .ok (.aload_n 0, 1) := by decide +kernel
theorem dX9_normalTerms_21 : decode cX9_normalTerms 21 = .ok (.getfield 49, 3) := by decide +kernel
theorem dX9_normalTerms_24 : decode cX9_normalTerms 24 = .ok (.getfield 192, 3) := by decide +kernel
theorem dX9_normalTerms_27 : decode cX9_normalTerms 27 = .ok (.if_icmp .ge 44, 3) := by decide +kernel
theorem dX9_normalTerms_71 : decode cX9_normalTerms 71 = .ok (.iload_n 1, 1) := by decide +kernel
theorem dX9_normalTerms_72 : decode cX9_normalTerms 72 = .ok (.ireturn, 1) := by decide +kernel
theorem dX9_greatestSize_0 : decode cX9_greatestSize 0 = .ok (.iconst 0, 1) := by decide +kernel
theorem dX9_greatestSize_1 : decode cX9_greatestSize 1 = .ok (.istore_n 1, 1) := by decide +kernel
theorem dX9_greatestSize_2 : decode cX9_greatestSize 2 = .ok (.iconst 0, 1) := by decide +kernel
theorem dX9_greatestSize_3 : decode cX9_greatestSize 3 = .ok (.istore_n 2, 1) := by decide +kernel
theorem dX9_greatestSize_4 : decode cX9_greatestSize 4 = .ok (.iload_n 2, 1) := by decide +kernel
theorem dX9_greatestSize_5 : decode cX9_greatestSize 5 = .ok (.aload_n 0, 1) := by decide +kernel
theorem dX9_greatestSize_6 : decode cX9_greatestSize 6 = .ok (.getfield 49, 3) := by decide +kernel
theorem dX9_greatestSize_9 : decode cX9_greatestSize 9 = .ok (.getfield 192, 3) := by decide +kernel
theorem dX9_greatestSize_12 : decode cX9_greatestSize 12 = .ok (.if_icmp .ge 22, 3) := by decide +kernel
theorem dX9_greatestSize_34 : decode cX9_greatestSize 34 = .ok (.iload_n 1, 1) := by decide +kernel
theorem dX9_greatestSize_35 : decode cX9_greatestSize 35 = .ok (.ireturn, 1) := by decide +kernel
theorem dX9_matchesOfAll_0 : decode cX9_matchesOfAll 0 = .ok (.iconst 0, 1) := by decide +kernel
theorem dX9_matchesOfAll_1 : decode cX9_matchesOfAll 1 = .ok (.istore_n 1, 1) := by decide +kernel
theorem dX9_matchesOfAll_2 : decode cX9_matchesOfAll 2 = .ok (.iconst 0, 1) := by decide +kernel
theorem dX9_matchesOfAll_3 : decode cX9_matchesOfAll 3 = .ok (.istore_n 2, 1) := by decide +kernel
theorem dX9_matchesOfAll_4 : decode cX9_matchesOfAll 4 = .ok (.iload_n 2, 1) := by decide +kernel
theorem dX9_matchesOfAll_5 : decode cX9_matchesOfAll 5 = .ok (.aload_n 0, 1) := by decide +kernel
theorem dX9_matchesOfAll_6 : decode cX9_matchesOfAll 6 = .ok (.invokevirtual 181, 3) := by decide +kernel
theorem dX9_matchesOfAll_9 : decode cX9_matchesOfAll 9 = .ok (.if_icmp .ge 98, 3) := by decide +kernel
theorem dX9_matchesOfAll_107 : decode cX9_matchesOfAll 107 = .ok (.iload_n 1, 1) := by decide +kernel
theorem dX9_matchesOfAll_108 : decode cX9_matchesOfAll 108 = .ok (.ireturn, 1) := by decide +kernel
theorem dX9_rules_0 : decode cX9_rules 0 = .ok (.aload_n 0, 1) := by decide +kernel
theorem dX9_rules_1 : decode cX9_rules 1 = .ok (.getfield 53, 3) := by decide +kernel
theorem dX9_rules_4 : decode cX9_rules 4 = .ok (.getfield 192, 3) := by decide +kernel
theorem dX9_rules_7 : decode cX9_rules 7 = .ok (.iconst 1, 1) := by decide +kernel
theorem dX9_rules_8 : decode cX9_rules 8 = .ok (.ishr, 1) := by decide +kernel
theorem dX9_rules_9 : decode cX9_rules 9 = .ok (.ireturn, 1) := by decide +kernel
theorem dX9_checkTerm_0 : decode cX9_checkTerm 0 = .ok (.iload_n 1, 1) := by decide +kernel
theorem dX9_checkTerm_1 : decode cX9_checkTerm 1 = .ok (.ifCond .lt 14, 3) := by decide +kernel
theorem dX9_checkTerm_4 : decode cX9_checkTerm 4 = .ok (.iload_n 1, 1) := by decide +kernel
theorem dX9_checkTerm_5 : decode cX9_checkTerm 5 = .ok (.aload_n 0, 1) := by decide +kernel
theorem dX9_checkTerm_6 : decode cX9_checkTerm 6 = .ok (.getfield 49, 3) := by decide +kernel
theorem dX9_checkTerm_9 : decode cX9_checkTerm 9 = .ok (.getfield 192, 3) := by decide +kernel
theorem dX9_checkTerm_12 : decode cX9_checkTerm 12 = .ok (.if_icmp .lt 14, 3) := by decide +kernel
theorem dX9_checkTerm_15 : decode cX9_checkTerm 15 = .ok (.new 415, 3) := by decide +kernel
theorem dX9_checkTerm_18 : decode cX9_checkTerm 18 = .ok (.dup, 1) := by decide +kernel
theorem dX9_checkTerm_19 : decode cX9_checkTerm 19 = .ok (.ldc_w 417, 3) := by decide +kernel
theorem dX9_checkTerm_22 : decode cX9_checkTerm 22 = .ok (.invokespecial 419, 3) := by decide +kernel
theorem dX9_checkTerm_25 : decode cX9_checkTerm 25 = .ok (.athrow, 1) := by decide +kernel
theorem dX9_checkRule_0 : decode cX9_checkRule 0 = .ok (.iload_n 1, 1) := by decide +kernel
theorem dX9_checkRule_1 : decode cX9_checkRule 1 = .ok (.ifCond .lt 11, 3) := by decide +kernel
theorem dX9_checkRule_4 : decode cX9_checkRule 4 = .ok (.iload_n 1, 1) := by decide +kernel
theorem dX9_checkRule_5 : decode cX9_checkRule 5 = .ok (.aload_n 0, 1) := by decide +kernel
theorem dX9_checkRule_6 : decode cX9_checkRule 6 = .ok (.invokevirtual 181, 3) := by decide +kernel
theorem dX9_checkRule_9 : decode cX9_checkRule 9 = .ok (.if_icmp .lt 14, 3) := by decide +kernel
theorem dX9_checkRule_12 : decode cX9_checkRule 12 = .ok (.new 415, 3) := by decide +kernel
theorem dX9_checkRule_15 : decode cX9_checkRule 15 = .ok (.dup, 1) := by decide +kernel
theorem dX9_checkRule_16 : decode cX9_checkRule 16 = .ok (.ldc_w 420, 3) := by decide +kernel
theorem dX9_checkRule_19 : decode cX9_checkRule 19 = .ok (.invokespecial 419, 3) := by decide +kernel
theorem dX9_checkRule_22 : decode cX9_checkRule 22 = .ok (.athrow, 1) := by decide +kernel
theorem dX9_checkOperator_0 : decode cX9_checkOperator 0 = .ok (.iload_n 1, 1) := by decide +kernel
theorem dX9_checkOperator_1 : decode cX9_checkOperator 1 = .ok (.ifCond .lt 14, 3) := by decide +kernel
theorem dX9_checkOperator_4 : decode cX9_checkOperator 4 = .ok (.iload_n 1, 1) := by decide +kernel
theorem dX9_checkOperator_5 : decode cX9_checkOperator 5 = .ok (.aload_n 0, 1) := by decide +kernel
theorem dX9_checkOperator_6 : decode cX9_checkOperator 6 = .ok (.getfield 19, 3) := by decide +kernel
theorem dX9_checkOperator_9 : decode cX9_checkOperator 9 = .ok (.getfield 139, 3) := by decide +kernel
theorem dX9_checkOperator_12 : decode cX9_checkOperator 12 = .ok (.if_icmp .lt 14, 3) := by decide +kernel
theorem dX9_checkOperator_15 : decode cX9_checkOperator 15 = .ok (.new 415, 3) := by decide +kernel
theorem dX9_checkOperator_18 : decode cX9_checkOperator 18 = .ok (.dup, 1) := by decide +kernel
theorem dX9_checkOperator_19 : decode cX9_checkOperator 19 = .ok (.ldc_w 422, 3) := by decide +kernel
theorem dX9_checkOperator_22 : decode cX9_checkOperator 22 = .ok (.invokespecial 419, 3) := by decide +kernel
theorem dX9_checkOperator_25 : decode cX9_checkOperator 25 = .ok (.athrow, 1) := by decide +kernel
