abbrev cX9_signature : ByteArray := prog_1_method_4_code
def yX9_signature : MethodName := ⟨RX9, "signature", "()I"⟩
abbrev cX9_term : ByteArray := prog_1_method_5_code
def yX9_term : MethodName := ⟨RX9, "term", "()I"⟩
abbrev cX9_rule : ByteArray := prog_1_method_6_code
def yX9_rule : MethodName := ⟨RX9, "rule", "()I"⟩
abbrev cX9_steps : ByteArray := prog_1_method_30_code
def yX9_steps : MethodName := ⟨RX9, "steps", "(I)I"⟩
abbrev cX9_step : ByteArray := prog_1_method_31_code
def yX9_step : MethodName := ⟨RX9, "step", "(II)I"⟩
abbrev cX9_stepAt : ByteArray := prog_1_method_32_code
def yX9_stepAt : MethodName := ⟨RX9, "stepAt", "(III)I"⟩
abbrev cX9_atTop : ByteArray := prog_1_method_33_code
def yX9_atTop : MethodName := ⟨RX9, "atTop", "(II)I"⟩
abbrev cX9_walk : ByteArray := prog_1_method_34_code
def yX9_walk : MethodName := ⟨RX9, "walk", "(I)I"⟩
abbrev cX9_listSteps : ByteArray := prog_1_method_35_code
def yX9_listSteps : MethodName := ⟨RX9, "listSteps", "(LSumRewriter$Rows;II)V"⟩
abbrev cX9_reach : ByteArray := prog_1_method_37_code
def yX9_reach : MethodName := ⟨RX9, "reach", "(IIZ)I"⟩
abbrev cX9_reached : ByteArray := prog_1_method_38_code
def yX9_reached : MethodName := ⟨RX9, "reached", "(IIZI)I"⟩
abbrev cX9_meet : ByteArray := prog_1_method_39_code
def yX9_meet : MethodName := ⟨RX9, "meet", "(III)I"⟩
abbrev cX9_count : ByteArray := prog_1_method_40_code
def yX9_count : MethodName := ⟨RX9, "count", "(I)I"⟩
abbrev cX9_normalTerms : ByteArray := prog_1_method_41_code
def yX9_normalTerms : MethodName := ⟨RX9, "normalTerms", "()I"⟩
abbrev cX9_greatestSize : ByteArray := prog_1_method_42_code
def yX9_greatestSize : MethodName := ⟨RX9, "greatestSize", "()I"⟩
abbrev cX9_matchesOfAll : ByteArray := prog_1_method_43_code
def yX9_matchesOfAll : MethodName := ⟨RX9, "matchesOfAll", "()I"⟩
abbrev cX10_thrown : ByteArray := prog_12_method_2_code
def yX10_thrown : MethodName := ⟨RX10, "thrown", "()I"⟩
abbrev cX10_throwsIf : ByteArray := prog_12_method_3_code
def yX10_throwsIf : MethodName := ⟨RX10, "throwsIf", "(ZI)Z"⟩
abbrev cX10_in : ByteArray := prog_12_method_4_code
def yX10_in : MethodName := ⟨RX10, "in", "(III)Z"⟩
abbrev cX10_operatorAt : ByteArray := prog_12_method_24_code
def yX10_operatorAt : MethodName := ⟨RX10, "operatorAt", "(I)I"⟩
abbrev cX10_partsAt : ByteArray := prog_12_method_25_code
def yX10_partsAt : MethodName := ⟨RX10, "partsAt", "(I)I"⟩
abbrev cX10_behind : ByteArray := prog_12_method_26_code
def yX10_behind : MethodName := ⟨RX10, "behind", "(I)I"⟩
abbrev cX10_compares : ByteArray := prog_12_method_27_code
def yX10_compares : MethodName := ⟨RX10, "compares", "(II)I"⟩
abbrev cX10_areAlike : ByteArray := prog_12_method_28_code
def yX10_areAlike : MethodName := ⟨RX10, "areAlike", "(II)Z"⟩
abbrev cX10_copies : ByteArray := prog_12_method_29_code
def yX10_copies : MethodName := ⟨RX10, "copies", "(I)I"⟩
abbrev cX10_variablesAt : ByteArray := prog_12_method_41_code
def yX10_variablesAt : MethodName := ⟨RX10, "variablesAt", "(I)I"⟩
abbrev cX10_operatorsAt : ByteArray := prog_12_method_105_code
def yX10_operatorsAt : MethodName := ⟨RX10, "operatorsAt", "(I)I"⟩
abbrev cX10_variablesIn : ByteArray := prog_12_method_112_code
def yX10_variablesIn : MethodName := ⟨RX10, "variablesIn", "(I)I"⟩
theorem dX9_signature_0 : decode cX9_signature 0 = .ok (.aload_n 0, 1) := by decide +kernel
theorem dX9_signature_1 : decode cX9_signature 1 = .ok (.getfield 10, 3) := by decide +kernel
theorem dX9_signature_4 : decode cX9_signature 4 = .ok (.invokevirtual 115, 3) := by decide +kernel
theorem dX9_signature_7 : decode cX9_signature 7 = .ok (.aload_n 0, 1) := by decide +kernel
theorem dX9_signature_8 : decode cX9_signature 8 = .ok (.getfield 23, 3) := by decide +kernel
theorem dX9_signature_11 : decode cX9_signature 11 = .ok (.aload_n 0, 1) := by decide +kernel
theorem dX9_signature_12 : decode cX9_signature 12 = .ok (.getfield 10, 3) := by decide +kernel
theorem dX9_signature_15 : decode cX9_signature 15 = .ok (.invokevirtual 118, 3) := by decide +kernel
theorem dX9_signature_18 : decode cX9_signature 18 = .ok (.ifCond .ne 24, 3) := by decide +kernel
theorem dX9_signature_21 : decode cX9_signature 21 = .ok (.aload_n 0, 1) := by decide +kernel
theorem dX9_signature_22 : decode cX9_signature 22 = .ok (.aload_n 0, 1) := by decide +kernel
theorem dX9_signature_23 : decode cX9_signature 23 = .ok (.getfield 10, 3) := by decide +kernel
theorem dX9_signature_26 : decode cX9_signature 26 = .ok (.getfield 122, 3) := by decide +kernel
theorem dX9_signature_29 : decode cX9_signature 29 = .ok (.putfield 104, 3) := by decide +kernel
theorem dX9_signature_32 : decode cX9_signature 32 = .ok (.new 125, 3) := by decide +kernel
theorem dX9_signature_35 : decode cX9_signature 35 = .ok (.dup, 1) := by decide +kernel
theorem dX9_signature_36 : decode cX9_signature 36 = .ok (.ldc 127, 2) := by decide +kernel
theorem dX9_signature_38 : decode cX9_signature 38 = .ok (.invokespecial 129, 3) := by decide +kernel
theorem dX9_signature_41 : decode cX9_signature 41 = .ok (.athrow, 1) := by decide +kernel
theorem dX9_signature_42 : decode cX9_signature 42 = .ok (.aload_n 0, 1) := by decide +kernel
theorem dX9_signature_43 : decode cX9_signature 43 = .ok (.iconst (-1), 1) := by decide +kernel
theorem dX9_signature_44 : decode cX9_signature 44 = .ok (.putfield 104, 3) := by decide +kernel
theorem dX9_signature_47 : decode cX9_signature 47 = .ok (.aload_n 0, 1) := by decide +kernel
theorem dX9_signature_48 : decode cX9_signature 48 = .ok (.getfield 19, 3) := by decide +kernel
theorem dX9_signature_51 : decode cX9_signature 51 = .ok (.aload_n 0, 1) := by decide +kernel
theorem dX9_signature_52 : decode cX9_signature 52 = .ok (.getfield 23, 3) := by decide +kernel
theorem dX9_signature_55 : decode cX9_signature 55 = .ok (.invokevirtual 132, 3) := by decide +kernel
theorem dX9_signature_58 : decode cX9_signature 58 = .ok (.aload_n 0, 1) := by decide +kernel
theorem dX9_signature_59 : decode cX9_signature 59 = .ok (.getfield 49, 3) := by decide +kernel
theorem dX9_signature_62 : decode cX9_signature 62 = .ok (.invokevirtual 135, 3) := by decide +kernel
theorem dX9_signature_65 : decode cX9_signature 65 = .ok (.aload_n 0, 1) := by decide +kernel
theorem dX9_signature_66 : decode cX9_signature 66 = .ok (.getfield 53, 3) := by decide +kernel
theorem dX9_signature_69 : decode cX9_signature 69 = .ok (.invokevirtual 135, 3) := by decide +kernel
theorem dX9_signature_72 : decode cX9_signature 72 = .ok (.aload_n 0, 1) := by decide +kernel
theorem dX9_signature_73 : decode cX9_signature 73 = .ok (.getfield 62, 3) := by decide +kernel
theorem dX9_signature_76 : decode cX9_signature 76 = .ok (.invokevirtual 138, 3) := by decide +kernel
theorem dX9_signature_79 : decode cX9_signature 79 = .ok (.aload_n 0, 1) := by decide +kernel
theorem dX9_signature_80 : decode cX9_signature 80 = .ok (.iconst 0, 1) := by decide +kernel
theorem dX9_signature_81 : decode cX9_signature 81 = .ok (.putfield 100, 3) := by decide +kernel
theorem dX9_signature_84 : decode cX9_signature 84 = .ok (.aload_n 0, 1) := by decide +kernel
theorem dX9_signature_85 : decode cX9_signature 85 = .ok (.getfield 19, 3) := by decide +kernel
theorem dX9_signature_88 : decode cX9_signature 88 = .ok (.getfield 139, 3) := by decide +kernel
theorem dX9_signature_91 : decode cX9_signature 91 = .ok (.ireturn, 1) := by decide +kernel
theorem dX9_term_0 : decode cX9_term 0 = .ok (.aload_n 0, 1) := by decide +kernel
theorem dX9_term_1 : decode cX9_term 1 = .ok (.getfield 10, 3) := by decide +kernel
theorem dX9_term_4 : decode cX9_term 4 = .ok (.invokevirtual 115, 3) := by decide +kernel
theorem dX9_term_7 : decode cX9_term 7 = .ok (.aload_n 0, 1) := by decide +kernel
theorem dX9_term_8 : decode cX9_term 8 = .ok (.getfield 31, 3) := by decide +kernel
theorem dX9_term_11 : decode cX9_term 11 = .ok (.invokevirtual 142, 3) := by decide +kernel
theorem dX9_term_14 : decode cX9_term 14 = .ok (.aload_n 0, 1) := by decide +kernel
theorem dX9_term_15 : decode cX9_term 15 = .ok (.getfield 40, 3) := by decide +kernel
theorem dX9_term_18 : decode cX9_term 18 = .ok (.invokevirtual 143, 3) := by decide +kernel
theorem dX9_term_21 : decode cX9_term 21 = .ok (.istore_n 1, 1) := by decide +kernel
theorem dX9_term_22 : decode cX9_term 22 = .ok (.aload_n 0, 1) := by decide +kernel
theorem dX9_term_23 : decode cX9_term 23 = .ok (.iload_n 1, 1) := by decide +kernel
theorem dX9_term_24 : decode cX9_term 24 = .ok (.bipush (-2), 2) := by decide +kernel
theorem dX9_term_26 : decode cX9_term 26 = .ok (.if_icmp .eq 17, 3) := by decide +kernel
theorem dX9_term_29 : decode cX9_term 29 = .ok (.aload_n 0, 1) := by decide +kernel
theorem dX9_term_30 : decode cX9_term 30 = .ok (.getfield 10, 3) := by decide +kernel
theorem dX9_term_33 : decode cX9_term 33 = .ok (.getfield 146, 3) := by decide +kernel
theorem dX9_term_36 : decode cX9_term 36 = .ok (.ifCond .ne 7, 3) := by decide +kernel
theorem dX9_term_39 : decode cX9_term 39 = .ok (.iconst 1, 1) := by decide +kernel
theorem dX9_term_40 : decode cX9_term 40 = .ok (.goto 4, 3) := by decide +kernel
theorem dX9_term_43 : decode cX9_term 43 = .ok (.iconst 0, 1) := by decide +kernel
theorem dX9_term_44 : decode cX9_term 44 = .ok (.invokevirtual 149, 3) := by decide +kernel
theorem dX9_term_47 : decode cX9_term 47 = .ok (.iload_n 1, 1) := by decide +kernel
theorem dX9_term_48 : decode cX9_term 48 = .ok (.ifCond .ge 13, 3) := by decide +kernel
theorem dX9_term_51 : decode cX9_term 51 = .ok (.new 153, 3) := by decide +kernel
theorem dX9_term_54 : decode cX9_term 54 = .ok (.dup, 1) := by decide +kernel
theorem dX9_term_55 : decode cX9_term 55 = .ok (.ldc 155, 2) := by decide +kernel
theorem dX9_term_57 : decode cX9_term 57 = .ok (.invokespecial 157, 3) := by decide +kernel
theorem dX9_term_60 : decode cX9_term 60 = .ok (.athrow, 1) := by decide +kernel
theorem dX9_term_61 : decode cX9_term 61 = .ok (.aload_n 0, 1) := by decide +kernel
theorem dX9_term_62 : decode cX9_term 62 = .ok (.getfield 56, 3) := by decide +kernel
theorem dX9_term_65 : decode cX9_term 65 = .ok (.invokevirtual 135, 3) := by decide +kernel
theorem dX9_term_68 : decode cX9_term 68 = .ok (.aload_n 0, 1) := by decide +kernel
theorem dX9_term_69 : decode cX9_term 69 = .ok (.getfield 31, 3) := by decide +kernel
theorem dX9_term_72 : decode cX9_term 72 = .ok (.iload_n 1, 1) := by decide +kernel
theorem dX9_term_73 : decode cX9_term 73 = .ok (.aload_n 0, 1) := by decide +kernel
theorem dX9_term_74 : decode cX9_term 74 = .ok (.getfield 56, 3) := by decide +kernel
theorem dX9_term_77 : decode cX9_term 77 = .ok (.invokevirtual 158, 3) := by decide +kernel
theorem dX9_term_80 : decode cX9_term 80 = .ok (.aload_n 0, 1) := by decide +kernel
theorem dX9_term_81 : decode cX9_term 81 = .ok (.aload_n 0, 1) := by decide +kernel
theorem dX9_term_82 : decode cX9_term 82 = .ok (.getfield 56, 3) := by decide +kernel
theorem dX9_term_85 : decode cX9_term 85 = .ok (.invokevirtual 162, 3) := by decide +kernel
theorem dX9_term_88 : decode cX9_term 88 = .ok (.ireturn, 1) := by decide +kernel
theorem dX9_rule_0 : decode cX9_rule 0 = .ok (.aload_n 0, 1) := by decide +kernel
theorem dX9_rule_1 : decode cX9_rule 1 = .ok (.getfield 10, 3) := by decide +kernel
theorem dX9_rule_4 : decode cX9_rule 4 = .ok (.invokevirtual 115, 3) := by decide +kernel
theorem dX9_rule_7 : decode cX9_rule 7 = .ok (.aload_n 0, 1) := by decide +kernel
theorem dX9_rule_8 : decode cX9_rule 8 = .ok (.getfield 31, 3) := by decide +kernel
theorem dX9_rule_11 : decode cX9_rule 11 = .ok (.invokevirtual 142, 3) := by decide +kernel
theorem dX9_rule_14 : decode cX9_rule 14 = .ok (.aload_n 0, 1) := by decide +kernel
theorem dX9_rule_15 : decode cX9_rule 15 = .ok (.getfield 40, 3) := by decide +kernel
theorem dX9_rule_18 : decode cX9_rule 18 = .ok (.invokevirtual 143, 3) := by decide +kernel
theorem dX9_rule_21 : decode cX9_rule 21 = .ok (.istore_n 1, 1) := by decide +kernel
theorem dX9_rule_22 : decode cX9_rule 22 = .ok (.aload_n 0, 1) := by decide +kernel
theorem dX9_rule_23 : decode cX9_rule 23 = .ok (.iload_n 1, 1) := by decide +kernel
theorem dX9_rule_24 : decode cX9_rule 24 = .ok (.bipush (-2), 2) := by decide +kernel
theorem dX9_rule_26 : decode cX9_rule 26 = .ok (.if_icmp .eq 30, 3) := by decide +kernel
theorem dX9_rule_29 : decode cX9_rule 29 = .ok (.aload_n 0, 1) := by decide +kernel
theorem dX9_rule_30 : decode cX9_rule 30 = .ok (.getfield 10, 3) := by decide +kernel
theorem dX9_rule_33 : decode cX9_rule 33 = .ok (.getfield 146, 3) := by decide +kernel
theorem dX9_rule_36 : decode cX9_rule 36 = .ok (.iconst 3, 1) := by decide +kernel
theorem dX9_rule_37 : decode cX9_rule 37 = .ok (.if_icmp .ne 19, 3) := by decide +kernel
theorem dX9_rule_40 : decode cX9_rule 40 = .ok (.aload_n 0, 1) := by decide +kernel
theorem dX9_rule_41 : decode cX9_rule 41 = .ok (.getfield 10, 3) := by decide +kernel
theorem dX9_rule_44 : decode cX9_rule 44 = .ok (.getfield 166, 3) := by decide +kernel
theorem dX9_rule_47 : decode cX9_rule 47 = .ok (.bipush 61, 2) := by decide +kernel
theorem dX9_rule_49 : decode cX9_rule 49 = .ok (.if_icmp .ne 7, 3) := by decide +kernel
theorem dX9_rule_52 : decode cX9_rule 52 = .ok (.iconst 1, 1) := by decide +kernel
theorem dX9_rule_53 : decode cX9_rule 53 = .ok (.goto 4, 3) := by decide +kernel
theorem dX9_rule_56 : decode cX9_rule 56 = .ok (.iconst 0, 1) := by decide +kernel
theorem dX9_rule_57 : decode cX9_rule 57 = .ok (.invokevirtual 149, 3) := by decide +kernel
theorem dX9_rule_60 : decode cX9_rule 60 = .ok (.aload_n 0, 1) := by decide +kernel
theorem dX9_rule_61 : decode cX9_rule 61 = .ok (.getfield 10, 3) := by decide +kernel
theorem dX9_rule_64 : decode cX9_rule 64 = .ok (.invokevirtual 169, 3) := by decide +kernel
theorem dX9_rule_67 : decode cX9_rule 67 = .ok (.aload_n 0, 1) := by decide +kernel
theorem dX9_rule_68 : decode cX9_rule 68 = .ok (.getfield 40, 3) := by decide +kernel
theorem dX9_rule_71 : decode cX9_rule 71 = .ok (.invokevirtual 143, 3) := by decide +kernel
theorem dX9_rule_74 : decode cX9_rule 74 = .ok (.istore_n 2, 1) := by decide +kernel
theorem dX9_rule_75 : decode cX9_rule 75 = .ok (.aload_n 0, 1) := by decide +kernel
theorem dX9_rule_76 : decode cX9_rule 76 = .ok (.iload_n 2, 1) := by decide +kernel
theorem dX9_rule_77 : decode cX9_rule 77 = .ok (.bipush (-2), 2) := by decide +kernel
theorem dX9_rule_79 : decode cX9_rule 79 = .ok (.if_icmp .eq 17, 3) := by decide +kernel
theorem dX9_rule_82 : decode cX9_rule 82 = .ok (.aload_n 0, 1) := by decide +kernel
theorem dX9_rule_83 : decode cX9_rule 83 = .ok (.getfield 10, 3) := by decide +kernel
theorem dX9_rule_86 : decode cX9_rule 86 = .ok (.getfield 146, 3) := by decide +kernel
theorem dX9_rule_89 : decode cX9_rule 89 = .ok (.ifCond .ne 7, 3) := by decide +kernel
theorem dX9_rule_92 : decode cX9_rule 92 = .ok (.iconst 1, 1) := by decide +kernel
theorem dX9_rule_93 : decode cX9_rule 93 = .ok (.goto 4, 3) := by decide +kernel
theorem dX9_rule_96 : decode cX9_rule 96 = .ok (.iconst 0, 1) := by decide +kernel
theorem dX9_rule_97 : decode cX9_rule 97 = .ok (.invokevirtual 149, 3) := by decide +kernel
theorem dX9_rule_100 : decode cX9_rule 100 = .ok (.iload_n 1, 1) := by decide +kernel
theorem dX9_rule_101 : decode cX9_rule 101 = .ok (.ifCond .lt 20, 3) := by decide +kernel
theorem dX9_rule_104 : decode cX9_rule 104 = .ok (.iload_n 2, 1) := by decide +kernel
theorem dX9_rule_105 : decode cX9_rule 105 = .ok (.ifCond .lt 16, 3) := by decide +kernel
theorem dX9_rule_108 : decode cX9_rule 108 = .ok (.aload_n 0, 1) := by decide +kernel
theorem dX9_rule_109 : decode cX9_rule 109 = .ok (.getfield 31, 3) := by decide +kernel
theorem dX9_rule_112 : decode cX9_rule 112 = .ok (.iload_n 1, 1) := by decide +kernel
theorem dX9_rule_113 : decode cX9_rule 113 = .ok (.invokevirtual 172, 3) := by decide +kernel
theorem dX9_rule_116 : decode cX9_rule 116 = .ok (.bipush 8, 2) := by decide +kernel
theorem dX9_rule_118 : decode cX9_rule 118 = .ok (.if_icmp .ge 13, 3) := by decide +kernel
theorem dX9_rule_121 : decode cX9_rule 121 = .ok (.new 153, 3) := by decide +kernel
theorem dX9_rule_124 : decode cX9_rule 124 = .ok (.dup, 1) := by decide +kernel
theorem dX9_rule_125 : decode cX9_rule 125 = .ok (.ldc 176, 2) := by decide +kernel
theorem dX9_rule_127 : decode cX9_rule 127 = .ok (.invokespecial 157, 3) := by decide +kernel
theorem dX9_rule_130 : decode cX9_rule 130 = .ok (.athrow, 1) := by decide +kernel
theorem dX9_rule_131 : decode cX9_rule 131 = .ok (.aload_n 0, 1) := by decide +kernel
theorem dX9_rule_132 : decode cX9_rule 132 = .ok (.getfield 31, 3) := by decide +kernel
theorem dX9_rule_135 : decode cX9_rule 135 = .ok (.iload_n 2, 1) := by decide +kernel
theorem dX9_rule_136 : decode cX9_rule 136 = .ok (.invokevirtual 178, 3) := by decide +kernel
theorem dX9_rule_139 : decode cX9_rule 139 = .ok (.aload_n 0, 1) := by decide +kernel
theorem dX9_rule_140 : decode cX9_rule 140 = .ok (.getfield 31, 3) := by decide +kernel
theorem dX9_rule_143 : decode cX9_rule 143 = .ok (.iload_n 1, 1) := by decide +kernel
theorem dX9_rule_144 : decode cX9_rule 144 = .ok (.invokevirtual 178, 3) := by decide +kernel
theorem dX9_rule_147 : decode cX9_rule 147 = .ok (.iconst (-1), 1) := by decide +kernel
theorem dX9_rule_148 : decode cX9_rule 148 = .ok (.ixor, 1) := by decide +kernel
theorem dX9_rule_149 : decode cX9_rule 149 = .ok (.iand, 1) := by decide +kernel
theorem dX9_rule_150 : decode cX9_rule 150 = .ok (.ifCond .ne 12, 3) := by decide +kernel
theorem dX9_rule_153 : decode cX9_rule 153 = .ok (.aload_n 0, 1) := by decide +kernel
theorem dX9_rule_154 : decode cX9_rule 154 = .ok (.invokevirtual 181, 3) := by decide +kernel
theorem dX9_rule_157 : decode cX9_rule 157 = .ok (.bipush 8, 2) := by decide +kernel
theorem dX9_rule_159 : decode cX9_rule 159 = .ok (.if_icmp .lt 13, 3) := by decide +kernel
theorem dX9_rule_162 : decode cX9_rule 162 = .ok (.new 153, 3) := by decide +kernel
theorem dX9_rule_165 : decode cX9_rule 165 = .ok (.dup, 1) := by decide +kernel
theorem dX9_rule_166 : decode cX9_rule 166 = .ok (.ldc 184, 2) := by decide +kernel
theorem dX9_rule_168 : decode cX9_rule 168 = .ok (.invokespecial 157, 3) := by decide +kernel
theorem dX9_rule_171 : decode cX9_rule 171 = .ok (.athrow, 1) := by decide +kernel
theorem dX9_rule_172 : decode cX9_rule 172 = .ok (.aload_n 0, 1) := by decide +kernel
theorem dX9_rule_173 : decode cX9_rule 173 = .ok (.invokevirtual 181, 3) := by decide +kernel
theorem dX9_rule_176 : decode cX9_rule 176 = .ok (.istore_n 3, 1) := by decide +kernel
theorem dX9_rule_177 : decode cX9_rule 177 = .ok (.aload_n 0, 1) := by decide +kernel
theorem dX9_rule_178 : decode cX9_rule 178 = .ok (.getfield 31, 3) := by decide +kernel
theorem dX9_rule_181 : decode cX9_rule 181 = .ok (.iload_n 1, 1) := by decide +kernel
theorem dX9_rule_182 : decode cX9_rule 182 = .ok (.aload_n 0, 1) := by decide +kernel
theorem dX9_rule_183 : decode cX9_rule 183 = .ok (.getfield 53, 3) := by decide +kernel
theorem dX9_rule_186 : decode cX9_rule 186 = .ok (.invokevirtual 158, 3) := by decide +kernel
theorem dX9_rule_189 : decode cX9_rule 189 = .ok (.aload_n 0, 1) := by decide +kernel
theorem dX9_rule_190 : decode cX9_rule 190 = .ok (.getfield 31, 3) := by decide +kernel
theorem dX9_rule_193 : decode cX9_rule 193 = .ok (.iload_n 2, 1) := by decide +kernel
theorem dX9_rule_194 : decode cX9_rule 194 = .ok (.aload_n 0, 1) := by decide +kernel
theorem dX9_rule_195 : decode cX9_rule 195 = .ok (.getfield 53, 3) := by decide +kernel
theorem dX9_rule_198 : decode cX9_rule 198 = .ok (.invokevirtual 158, 3) := by decide +kernel
theorem dX9_rule_201 : decode cX9_rule 201 = .ok (.aload_n 0, 1) := by decide +kernel
theorem dX9_rule_202 : decode cX9_rule 202 = .ok (.dup, 1) := by decide +kernel
theorem dX9_rule_203 : decode cX9_rule 203 = .ok (.getfield 100, 3) := by decide +kernel
theorem dX9_rule_206 : decode cX9_rule 206 = .ok (.iconst 1, 1) := by decide +kernel
theorem dX9_rule_207 : decode cX9_rule 207 = .ok (.iload_n 3, 1) := by decide +kernel
theorem dX9_rule_208 : decode cX9_rule 208 = .ok (.ishl, 1) := by decide +kernel
theorem dX9_rule_209 : decode cX9_rule 209 = .ok (.ior, 1) := by decide +kernel
theorem dX9_rule_210 : decode cX9_rule 210 = .ok (.putfield 100, 3) := by decide +kernel
theorem dX9_rule_213 : decode cX9_rule 213 = .ok (.iload_n 3, 1) := by decide +kernel
theorem dX9_rule_214 : decode cX9_rule 214 = .ok (.ireturn, 1) := by decide +kernel
theorem dX9_steps_0 : decode cX9_steps 0 = .ok (.aload_n 0, 1) := by decide +kernel
theorem dX9_steps_1 : decode cX9_steps 1 = .ok (.iload_n 1, 1) := by decide +kernel
theorem dX9_steps_2 : decode cX9_steps 2 = .ok (.invokevirtual 227, 3) := by decide +kernel
theorem dX9_steps_5 : decode cX9_steps 5 = .ok (.aload_n 0, 1) := by decide +kernel
theorem dX9_steps_6 : decode cX9_steps 6 = .ok (.getfield 80, 3) := by decide +kernel
theorem dX9_steps_9 : decode cX9_steps 9 = .ok (.aload_n 0, 1) := by decide +kernel
theorem dX9_steps_10 : decode cX9_steps 10 = .ok (.getfield 53, 3) := by decide +kernel
theorem dX9_steps_13 : decode cX9_steps 13 = .ok (.aload_n 0, 1) := by decide +kernel
theorem dX9_steps_14 : decode cX9_steps 14 = .ok (.getfield 100, 3) := by decide +kernel
theorem dX9_steps_17 : decode cX9_steps 17 = .ok (.invokevirtual 336, 3) := by decide +kernel
theorem dX9_steps_20 : decode cX9_steps 20 = .ok (.aload_n 0, 1) := by decide +kernel
theorem dX9_steps_21 : decode cX9_steps 21 = .ok (.aload_n 0, 1) := by decide +kernel
theorem dX9_steps_22 : decode cX9_steps 22 = .ok (.getfield 49, 3) := by decide +kernel
theorem dX9_steps_25 : decode cX9_steps 25 = .ok (.iload_n 1, 1) := by decide +kernel
theorem dX9_steps_26 : decode cX9_steps 26 = .ok (.bipush 20, 2) := by decide +kernel
theorem dX9_steps_28 : decode cX9_steps 28 = .ok (.invokevirtual 339, 3) := by decide +kernel
theorem dX9_steps_31 : decode cX9_steps 31 = .ok (.aload_n 0, 1) := by decide +kernel
theorem dX9_steps_32 : decode cX9_steps 32 = .ok (.getfield 80, 3) := by decide +kernel
theorem dX9_steps_35 : decode cX9_steps 35 = .ok (.invokevirtual 343, 3) := by decide +kernel
theorem dX9_steps_38 : decode cX9_steps 38 = .ok (.ireturn, 1) := by decide +kernel
theorem dX9_step_0 : decode cX9_step 0 = .ok (.aload_n 0, 1) := by decide +kernel
theorem dX9_step_1 : decode cX9_step 1 = .ok (.iload_n 1, 1) := by decide +kernel
theorem dX9_step_2 : decode cX9_step 2 = .ok (.invokevirtual 227, 3) := by decide +kernel
theorem dX9_step_5 : decode cX9_step 5 = .ok (.aload_n 0, 1) := by decide +kernel
theorem dX9_step_6 : decode cX9_step 6 = .ok (.getfield 80, 3) := by decide +kernel
theorem dX9_step_9 : decode cX9_step 9 = .ok (.aload_n 0, 1) := by decide +kernel
theorem dX9_step_10 : decode cX9_step 10 = .ok (.getfield 53, 3) := by decide +kernel
theorem dX9_step_13 : decode cX9_step 13 = .ok (.aload_n 0, 1) := by decide +kernel
theorem dX9_step_14 : decode cX9_step 14 = .ok (.getfield 100, 3) := by decide +kernel
theorem dX9_step_17 : decode cX9_step 17 = .ok (.invokevirtual 336, 3) := by decide +kernel
theorem dX9_step_20 : decode cX9_step 20 = .ok (.aload_n 0, 1) := by decide +kernel
theorem dX9_step_21 : decode cX9_step 21 = .ok (.aload_n 0, 1) := by decide +kernel
theorem dX9_step_22 : decode cX9_step 22 = .ok (.getfield 49, 3) := by decide +kernel
theorem dX9_step_25 : decode cX9_step 25 = .ok (.iload_n 1, 1) := by decide +kernel
theorem dX9_step_26 : decode cX9_step 26 = .ok (.bipush 20, 2) := by decide +kernel
theorem dX9_step_28 : decode cX9_step 28 = .ok (.invokevirtual 339, 3) := by decide +kernel
theorem dX9_step_31 : decode cX9_step 31 = .ok (.aload_n 0, 1) := by decide +kernel
theorem dX9_step_32 : decode cX9_step 32 = .ok (.iload_n 2, 1) := by decide +kernel
theorem dX9_step_33 : decode cX9_step 33 = .ok (.invokevirtual 345, 3) := by decide +kernel
theorem dX9_step_36 : decode cX9_step 36 = .ok (.aload_n 0, 1) := by decide +kernel
theorem dX9_step_37 : decode cX9_step 37 = .ok (.getfield 62, 3) := by decide +kernel
theorem dX9_step_40 : decode cX9_step 40 = .ok (.aload_n 0, 1) := by decide +kernel
theorem dX9_step_41 : decode cX9_step 41 = .ok (.getfield 80, 3) := by decide +kernel
theorem dX9_step_44 : decode cX9_step 44 = .ok (.getfield 348, 3) := by decide +kernel
theorem dX9_step_47 : decode cX9_step 47 = .ok (.aload_n 0, 1) := by decide +kernel
theorem dX9_step_48 : decode cX9_step 48 = .ok (.getfield 80, 3) := by decide +kernel
theorem dX9_step_51 : decode cX9_step 51 = .ok (.iload_n 2, 1) := by decide +kernel
theorem dX9_step_52 : decode cX9_step 52 = .ok (.invokevirtual 351, 3) := by decide +kernel
theorem dX9_step_55 : decode cX9_step 55 = .ok (.invokevirtual 272, 3) := by decide +kernel
theorem dX9_step_58 : decode cX9_step 58 = .ok (.ireturn, 1) := by decide +kernel
theorem dX9_stepAt_0 : decode cX9_stepAt 0 = .ok (.aload_n 0, 1) := by decide +kernel
theorem dX9_stepAt_1 : decode cX9_stepAt 1 = .ok (.iload_n 1, 1) := by decide +kernel
theorem dX9_stepAt_2 : decode cX9_stepAt 2 = .ok (.invokevirtual 227, 3) := by decide +kernel
theorem dX9_stepAt_5 : decode cX9_stepAt 5 = .ok (.aload_n 0, 1) := by decide +kernel
theorem dX9_stepAt_6 : decode cX9_stepAt 6 = .ok (.getfield 80, 3) := by decide +kernel
theorem dX9_stepAt_9 : decode cX9_stepAt 9 = .ok (.aload_n 0, 1) := by decide +kernel
theorem dX9_stepAt_10 : decode cX9_stepAt 10 = .ok (.getfield 53, 3) := by decide +kernel
theorem dX9_stepAt_13 : decode cX9_stepAt 13 = .ok (.aload_n 0, 1) := by decide +kernel
theorem dX9_stepAt_14 : decode cX9_stepAt 14 = .ok (.getfield 100, 3) := by decide +kernel
theorem dX9_stepAt_17 : decode cX9_stepAt 17 = .ok (.invokevirtual 336, 3) := by decide +kernel
theorem dX9_stepAt_20 : decode cX9_stepAt 20 = .ok (.aload_n 0, 1) := by decide +kernel
theorem dX9_stepAt_21 : decode cX9_stepAt 21 = .ok (.aload_n 0, 1) := by decide +kernel
theorem dX9_stepAt_22 : decode cX9_stepAt 22 = .ok (.getfield 49, 3) := by decide +kernel
theorem dX9_stepAt_25 : decode cX9_stepAt 25 = .ok (.iload_n 1, 1) := by decide +kernel
theorem dX9_stepAt_26 : decode cX9_stepAt 26 = .ok (.bipush 20, 2) := by decide +kernel
theorem dX9_stepAt_28 : decode cX9_stepAt 28 = .ok (.invokevirtual 339, 3) := by decide +kernel
theorem dX9_stepAt_31 : decode cX9_stepAt 31 = .ok (.aload_n 0, 1) := by decide +kernel
theorem dX9_stepAt_32 : decode cX9_stepAt 32 = .ok (.iload_n 2, 1) := by decide +kernel
theorem dX9_stepAt_33 : decode cX9_stepAt 33 = .ok (.invokevirtual 345, 3) := by decide +kernel
theorem dX9_stepAt_36 : decode cX9_stepAt 36 = .ok (.iload_n 3, 1) := by decide +kernel
theorem dX9_stepAt_37 : decode cX9_stepAt 37 = .ok (.ifCond .eq 18, 3) := by decide +kernel
theorem dX9_stepAt_40 : decode cX9_stepAt 40 = .ok (.iload_n 3, 1) := by decide +kernel
theorem dX9_stepAt_41 : decode cX9_stepAt 41 = .ok (.iconst 1, 1) := by decide +kernel
theorem dX9_stepAt_42 : decode cX9_stepAt 42 = .ok (.if_icmp .eq 13, 3) := by decide +kernel
theorem dX9_stepAt_45 : decode cX9_stepAt 45 = .ok (.new 219, 3) := by decide +kernel
theorem dX9_stepAt_48 : decode cX9_stepAt 48 = .ok (.dup, 1) := by decide +kernel
theorem dX9_stepAt_49 : decode cX9_stepAt 49 = .ok (.ldc 221, 2) := by decide +kernel
theorem dX9_stepAt_51 : decode cX9_stepAt 51 = .ok (.invokespecial 223, 3) := by decide +kernel
theorem dX9_stepAt_54 : decode cX9_stepAt 54 = .ok (.athrow, 1) := by decide +kernel
theorem dX9_stepAt_55 : decode cX9_stepAt 55 = .ok (.iload_n 3, 1) := by decide +kernel
theorem dX9_stepAt_56 : decode cX9_stepAt 56 = .ok (.ifCond .ne 14, 3) := by decide +kernel
theorem dX9_stepAt_59 : decode cX9_stepAt 59 = .ok (.aload_n 0, 1) := by decide +kernel
theorem dX9_stepAt_60 : decode cX9_stepAt 60 = .ok (.getfield 80, 3) := by decide +kernel
theorem dX9_stepAt_63 : decode cX9_stepAt 63 = .ok (.iload_n 2, 1) := by decide +kernel
theorem dX9_stepAt_64 : decode cX9_stepAt 64 = .ok (.invokevirtual 354, 3) := by decide +kernel
theorem dX9_stepAt_67 : decode cX9_stepAt 67 = .ok (.goto 11, 3) := by decide +kernel
theorem dX9_stepAt_70 : decode cX9_stepAt 70 = .ok (.aload_n 0, 1) := by decide +kernel
theorem dX9_stepAt_71 : decode cX9_stepAt 71 = .ok (.getfield 80, 3) := by decide +kernel
theorem dX9_stepAt_74 : decode cX9_stepAt 74 = .ok (.iload_n 2, 1) := by decide +kernel
theorem dX9_stepAt_75 : decode cX9_stepAt 75 = .ok (.invokevirtual 357, 3) := by decide +kernel
theorem dX9_stepAt_78 : decode cX9_stepAt 78 = .ok (.ireturn, 1) := by decide +kernel
theorem dX9_atTop_0 : decode cX9_atTop 0 = .ok (.aload_n 0, 1) := by decide +kernel
theorem dX9_atTop_1 : decode cX9_atTop 1 = .ok (.iload_n 1, 1) := by decide +kernel
theorem dX9_atTop_2 : decode cX9_atTop 2 = .ok (.invokevirtual 227, 3) := by decide +kernel
theorem dX9_atTop_5 : decode cX9_atTop 5 = .ok (.aload_n 0, 1) := by decide +kernel
theorem dX9_atTop_6 : decode cX9_atTop 6 = .ok (.iload_n 2, 1) := by decide +kernel
theorem dX9_atTop_7 : decode cX9_atTop 7 = .ok (.invokevirtual 201, 3) := by decide +kernel
theorem dX9_atTop_10 : decode cX9_atTop 10 = .ok (.aload_n 0, 1) := by decide +kernel
theorem dX9_atTop_11 : decode cX9_atTop 11 = .ok (.getfield 80, 3) := by decide +kernel
theorem dX9_atTop_14 : decode cX9_atTop 14 = .ok (.aload_n 0, 1) := by decide +kernel
theorem dX9_atTop_15 : decode cX9_atTop 15 = .ok (.getfield 53, 3) := by decide +kernel
theorem dX9_atTop_18 : decode cX9_atTop 18 = .ok (.iconst 1, 1) := by decide +kernel
theorem dX9_atTop_19 : decode cX9_atTop 19 = .ok (.iload_n 2, 1) := by decide +kernel
theorem dX9_atTop_20 : decode cX9_atTop 20 = .ok (.ishl, 1) := by decide +kernel
theorem dX9_atTop_21 : decode cX9_atTop 21 = .ok (.invokevirtual 336, 3) := by decide +kernel
theorem dX9_atTop_24 : decode cX9_atTop 24 = .ok (.aload_n 0, 1) := by decide +kernel
theorem dX9_atTop_25 : decode cX9_atTop 25 = .ok (.aload_n 0, 1) := by decide +kernel
theorem dX9_atTop_26 : decode cX9_atTop 26 = .ok (.getfield 49, 3) := by decide +kernel
theorem dX9_atTop_29 : decode cX9_atTop 29 = .ok (.iload_n 1, 1) := by decide +kernel
theorem dX9_atTop_30 : decode cX9_atTop 30 = .ok (.iconst 1, 1) := by decide +kernel
theorem dX9_atTop_31 : decode cX9_atTop 31 = .ok (.invokevirtual 339, 3) := by decide +kernel
theorem dX9_atTop_34 : decode cX9_atTop 34 = .ok (.aload_n 0, 1) := by decide +kernel
theorem dX9_atTop_35 : decode cX9_atTop 35 = .ok (.getfield 80, 3) := by decide +kernel
theorem dX9_atTop_38 : decode cX9_atTop 38 = .ok (.invokevirtual 343, 3) := by decide +kernel
theorem dX9_atTop_41 : decode cX9_atTop 41 = .ok (.ireturn, 1) := by decide +kernel
theorem dX9_walk_0 : decode cX9_walk 0 = .ok (.aload_n 0, 1) := by decide +kernel
theorem dX9_walk_1 : decode cX9_walk 1 = .ok (.iload_n 1, 1) := by decide +kernel
theorem dX9_walk_2 : decode cX9_walk 2 = .ok (.invokevirtual 227, 3) := by decide +kernel
theorem dX9_walk_5 : decode cX9_walk 5 = .ok (.aload_n 0, 1) := by decide +kernel
theorem dX9_walk_6 : decode cX9_walk 6 = .ok (.getfield 80, 3) := by decide +kernel
theorem dX9_walk_9 : decode cX9_walk 9 = .ok (.aload_n 0, 1) := by decide +kernel
theorem dX9_walk_10 : decode cX9_walk 10 = .ok (.getfield 53, 3) := by decide +kernel
theorem dX9_walk_13 : decode cX9_walk 13 = .ok (.aload_n 0, 1) := by decide +kernel
theorem dX9_walk_14 : decode cX9_walk 14 = .ok (.getfield 100, 3) := by decide +kernel
theorem dX9_walk_17 : decode cX9_walk 17 = .ok (.invokevirtual 336, 3) := by decide +kernel
theorem dX9_walk_20 : decode cX9_walk 20 = .ok (.aload_n 0, 1) := by decide +kernel
theorem dX9_walk_21 : decode cX9_walk 21 = .ok (.getfield 56, 3) := by decide +kernel
theorem dX9_walk_24 : decode cX9_walk 24 = .ok (.invokevirtual 135, 3) := by decide +kernel
theorem dX9_walk_27 : decode cX9_walk 27 = .ok (.aload_n 0, 1) := by decide +kernel
theorem dX9_walk_28 : decode cX9_walk 28 = .ok (.getfield 56, 3) := by decide +kernel
theorem dX9_walk_31 : decode cX9_walk 31 = .ok (.aload_n 0, 1) := by decide +kernel
theorem dX9_walk_32 : decode cX9_walk 32 = .ok (.getfield 49, 3) := by decide +kernel
theorem dX9_walk_35 : decode cX9_walk 35 = .ok (.iload_n 1, 1) := by decide +kernel
theorem dX9_walk_36 : decode cX9_walk 36 = .ok (.invokevirtual 197, 3) := by decide +kernel
theorem dX9_walk_39 : decode cX9_walk 39 = .ok (.iconst 0, 1) := by decide +kernel
theorem dX9_walk_40 : decode cX9_walk 40 = .ok (.istore_n 2, 1) := by decide +kernel
theorem dX9_walk_41 : decode cX9_walk 41 = .ok (.iload_n 2, 1) := by decide +kernel
theorem dX9_walk_42 : decode cX9_walk 42 = .ok (.bipush 40, 2) := by decide +kernel
theorem dX9_walk_44 : decode cX9_walk 44 = .ok (.if_icmp .ge 62, 3) := by decide +kernel
theorem dX9_walk_47 : decode cX9_walk 47 = .ok (.aload_n 0, 1) := by decide +kernel
theorem dX9_walk_48 : decode cX9_walk 48 = .ok (.aload_n 0, 1) := by decide +kernel
theorem dX9_walk_49 : decode cX9_walk 49 = .ok (.getfield 56, 3) := by decide +kernel
theorem dX9_walk_52 : decode cX9_walk 52 = .ok (.iconst 0, 1) := by decide +kernel
theorem dX9_walk_53 : decode cX9_walk 53 = .ok (.bipush 20, 2) := by decide +kernel
theorem dX9_walk_55 : decode cX9_walk 55 = .ok (.invokevirtual 339, 3) := by decide +kernel
theorem dX9_walk_58 : decode cX9_walk 58 = .ok (.aload_n 0, 1) := by decide +kernel
theorem dX9_walk_59 : decode cX9_walk 59 = .ok (.getfield 80, 3) := by decide +kernel
theorem dX9_walk_62 : decode cX9_walk 62 = .ok (.invokevirtual 343, 3) := by decide +kernel
theorem dX9_walk_65 : decode cX9_walk 65 = .ok (.ifCond .ne 6, 3) := by decide +kernel
theorem dX9_walk_68 : decode cX9_walk 68 = .ok (.goto 38, 3) := by decide +kernel
theorem dX9_walk_71 : decode cX9_walk 71 = .ok (.aload_n 0, 1) := by decide +kernel
theorem dX9_walk_72 : decode cX9_walk 72 = .ok (.getfield 56, 3) := by decide +kernel
theorem dX9_walk_75 : decode cX9_walk 75 = .ok (.invokevirtual 135, 3) := by decide +kernel
theorem dX9_walk_78 : decode cX9_walk 78 = .ok (.aload_n 0, 1) := by decide +kernel
theorem dX9_walk_79 : decode cX9_walk 79 = .ok (.getfield 56, 3) := by decide +kernel
theorem dX9_walk_82 : decode cX9_walk 82 = .ok (.aload_n 0, 1) := by decide +kernel
theorem dX9_walk_83 : decode cX9_walk 83 = .ok (.getfield 80, 3) := by decide +kernel
theorem dX9_walk_86 : decode cX9_walk 86 = .ok (.getfield 348, 3) := by decide +kernel
theorem dX9_walk_89 : decode cX9_walk 89 = .ok (.aload_n 0, 1) := by decide +kernel
theorem dX9_walk_90 : decode cX9_walk 90 = .ok (.getfield 80, 3) := by decide +kernel
theorem dX9_walk_93 : decode cX9_walk 93 = .ok (.iconst 0, 1) := by decide +kernel
theorem dX9_walk_94 : decode cX9_walk 94 = .ok (.invokevirtual 351, 3) := by decide +kernel
theorem dX9_walk_97 : decode cX9_walk 97 = .ok (.invokevirtual 197, 3) := by decide +kernel
theorem dX9_walk_100 : decode cX9_walk 100 = .ok (.iinc 2 1, 3) := by decide +kernel
theorem dX9_walk_103 : decode cX9_walk 103 = .ok (.goto (-62), 3) := by decide +kernel
theorem dX9_walk_106 : decode cX9_walk 106 = .ok (.aload_n 0, 1) := by decide +kernel
theorem dX9_walk_107 : decode cX9_walk 107 = .ok (.getfield 62, 3) := by decide +kernel
theorem dX9_walk_110 : decode cX9_walk 110 = .ok (.aload_n 0, 1) := by decide +kernel
theorem dX9_walk_111 : decode cX9_walk 111 = .ok (.getfield 56, 3) := by decide +kernel
theorem dX9_walk_114 : decode cX9_walk 114 = .ok (.iconst 0, 1) := by decide +kernel
theorem dX9_walk_115 : decode cX9_walk 115 = .ok (.invokevirtual 272, 3) := by decide +kernel
theorem dX9_walk_118 : decode cX9_walk 118 = .ok (.pop, 1) := by decide +kernel
theorem dX9_walk_119 : decode cX9_walk 119 = .ok (.iload_n 2, 1) := by decide +kernel
theorem dX9_walk_120 : decode cX9_walk 120 = .ok (.ireturn, 1) := by decide +kernel
theorem dX9_listSteps_0 : decode cX9_listSteps 0 = .ok (.aload_n 0, 1) := by decide +kernel
theorem dX9_listSteps_1 : decode cX9_listSteps 1 = .ok (.getfield 80, 3) := by decide +kernel
theorem dX9_listSteps_4 : decode cX9_listSteps 4 = .ok (.aload_n 1, 1) := by decide +kernel
theorem dX9_listSteps_5 : decode cX9_listSteps 5 = .ok (.iload_n 2, 1) := by decide +kernel
theorem dX9_listSteps_6 : decode cX9_listSteps 6 = .ok (.iload_n 3, 1) := by decide +kernel
theorem dX9_listSteps_7 : decode cX9_listSteps 7 = .ok (.invokevirtual 360, 3) := by decide +kernel
theorem dX9_listSteps_10 : decode cX9_listSteps 10 = .ok (.ifCond .ne 14, 3) := by decide +kernel
theorem dX9_listSteps_13 : decode cX9_listSteps 13 = .ok (.new 153, 3) := by decide +kernel
theorem dX9_listSteps_16 : decode cX9_listSteps 16 = .ok (.dup, 1) := by decide +kernel
theorem dX9_listSteps_17 : decode cX9_listSteps 17 = .ok (.ldc_w 364, 3) := by decide +kernel
theorem dX9_listSteps_20 : decode cX9_listSteps 20 = .ok (.invokespecial 157, 3) := by decide +kernel
theorem dX9_listSteps_23 : decode cX9_listSteps 23 = .ok (.athrow, 1) := by decide +kernel
theorem dX9_listSteps_24 : decode cX9_listSteps 24 = .ok (.return_, 1) := by decide +kernel
theorem dX9_reach_0 : decode cX9_reach 0 = .ok (.aload_n 0, 1) := by decide +kernel
theorem dX9_reach_1 : decode cX9_reach 1 = .ok (.iload_n 1, 1) := by decide +kernel
theorem dX9_reach_2 : decode cX9_reach 2 = .ok (.invokevirtual 227, 3) := by decide +kernel
theorem dX9_reach_5 : decode cX9_reach 5 = .ok (.aload_n 0, 1) := by decide +kernel
theorem dX9_reach_6 : decode cX9_reach 6 = .ok (.iload_n 2, 1) := by decide +kernel
theorem dX9_reach_7 : decode cX9_reach 7 = .ok (.invokevirtual 368, 3) := by decide +kernel
theorem dX9_reach_10 : decode cX9_reach 10 = .ok (.aload_n 0, 1) := by decide +kernel
theorem dX9_reach_11 : decode cX9_reach 11 = .ok (.getfield 80, 3) := by decide +kernel
theorem dX9_reach_14 : decode cX9_reach 14 = .ok (.aload_n 0, 1) := by decide +kernel
theorem dX9_reach_15 : decode cX9_reach 15 = .ok (.getfield 53, 3) := by decide +kernel
theorem dX9_reach_18 : decode cX9_reach 18 = .ok (.aload_n 0, 1) := by decide +kernel
theorem dX9_reach_19 : decode cX9_reach 19 = .ok (.getfield 100, 3) := by decide +kernel
theorem dX9_reach_22 : decode cX9_reach 22 = .ok (.invokevirtual 336, 3) := by decide +kernel
theorem dX9_reach_25 : decode cX9_reach 25 = .ok (.aload_n 0, 1) := by decide +kernel
theorem dX9_reach_26 : decode cX9_reach 26 = .ok (.getfield 89, 3) := by decide +kernel
theorem dX9_reach_29 : decode cX9_reach 29 = .ok (.aload_n 0, 1) := by decide +kernel
theorem dX9_reach_30 : decode cX9_reach 30 = .ok (.getfield 49, 3) := by decide +kernel
theorem dX9_reach_33 : decode cX9_reach 33 = .ok (.iload_n 1, 1) := by decide +kernel
theorem dX9_reach_34 : decode cX9_reach 34 = .ok (.invokevirtual 371, 3) := by decide +kernel
theorem dX9_reach_37 : decode cX9_reach 37 = .ok (.aload_n 0, 1) := by decide +kernel
theorem dX9_reach_38 : decode cX9_reach 38 = .ok (.getfield 89, 3) := by decide +kernel
theorem dX9_reach_41 : decode cX9_reach 41 = .ok (.iload_n 2, 1) := by decide +kernel
theorem dX9_reach_42 : decode cX9_reach 42 = .ok (.iload_n 3, 1) := by decide +kernel
theorem dX9_reach_43 : decode cX9_reach 43 = .ok (.invokevirtual 373, 3) := by decide +kernel
theorem dX9_reach_46 : decode cX9_reach 46 = .ok (.ifCond .ne 14, 3) := by decide +kernel
theorem dX9_reach_49 : decode cX9_reach 49 = .ok (.new 153, 3) := by decide +kernel
theorem dX9_reach_52 : decode cX9_reach 52 = .ok (.dup, 1) := by decide +kernel
theorem dX9_reach_53 : decode cX9_reach 53 = .ok (.ldc_w 377, 3) := by decide +kernel
theorem dX9_reach_56 : decode cX9_reach 56 = .ok (.invokespecial 157, 3) := by decide +kernel
theorem dX9_reach_59 : decode cX9_reach 59 = .ok (.athrow, 1) := by decide +kernel
theorem dX9_reach_60 : decode cX9_reach 60 = .ok (.iload_n 3, 1) := by decide +kernel
theorem dX9_reach_61 : decode cX9_reach 61 = .ok (.ifCond .eq 13, 3) := by decide +kernel
theorem dX9_reach_64 : decode cX9_reach 64 = .ok (.aload_n 0, 1) := by decide +kernel
theorem dX9_reach_65 : decode cX9_reach 65 = .ok (.getfield 89, 3) := by decide +kernel
theorem dX9_reach_68 : decode cX9_reach 68 = .ok (.invokevirtual 379, 3) := by decide +kernel
theorem dX9_reach_71 : decode cX9_reach 71 = .ok (.goto 13, 3) := by decide +kernel
theorem dX9_reach_74 : decode cX9_reach 74 = .ok (.aload_n 0, 1) := by decide +kernel
theorem dX9_reach_75 : decode cX9_reach 75 = .ok (.getfield 89, 3) := by decide +kernel
theorem dX9_reach_78 : decode cX9_reach 78 = .ok (.getfield 382, 3) := by decide +kernel
theorem dX9_reach_81 : decode cX9_reach 81 = .ok (.getfield 192, 3) := by decide +kernel
theorem dX9_reach_84 : decode cX9_reach 84 = .ok (.ireturn, 1) := by decide +kernel
theorem dX9_reached_0 : decode cX9_reached 0 = .ok (.aload_n 0, 1) := by decide +kernel
theorem dX9_reached_1 : decode cX9_reached 1 = .ok (.iload_n 1, 1) := by decide +kernel
theorem dX9_reached_2 : decode cX9_reached 2 = .ok (.invokevirtual 227, 3) := by decide +kernel
theorem dX9_reached_5 : decode cX9_reached 5 = .ok (.aload_n 0, 1) := by decide +kernel
theorem dX9_reached_6 : decode cX9_reached 6 = .ok (.iload_n 2, 1) := by decide +kernel
theorem dX9_reached_7 : decode cX9_reached 7 = .ok (.invokevirtual 368, 3) := by decide +kernel
theorem dX9_reached_10 : decode cX9_reached 10 = .ok (.aload_n 0, 1) := by decide +kernel
theorem dX9_reached_11 : decode cX9_reached 11 = .ok (.getfield 80, 3) := by decide +kernel
theorem dX9_reached_14 : decode cX9_reached 14 = .ok (.aload_n 0, 1) := by decide +kernel
theorem dX9_reached_15 : decode cX9_reached 15 = .ok (.getfield 53, 3) := by decide +kernel
theorem dX9_reached_18 : decode cX9_reached 18 = .ok (.aload_n 0, 1) := by decide +kernel
theorem dX9_reached_19 : decode cX9_reached 19 = .ok (.getfield 100, 3) := by decide +kernel
theorem dX9_reached_22 : decode cX9_reached 22 = .ok (.invokevirtual 336, 3) := by decide +kernel
theorem dX9_reached_25 : decode cX9_reached 25 = .ok (.aload_n 0, 1) := by decide +kernel
theorem dX9_reached_26 : decode cX9_reached 26 = .ok (.getfield 89, 3) := by decide +kernel
theorem dX9_reached_29 : decode cX9_reached 29 = .ok (.aload_n 0, 1) := by decide +kernel
theorem dX9_reached_30 : decode cX9_reached 30 = .ok (.getfield 49, 3) := by decide +kernel
theorem dX9_reached_33 : decode cX9_reached 33 = .ok (.iload_n 1, 1) := by decide +kernel
theorem dX9_reached_34 : decode cX9_reached 34 = .ok (.invokevirtual 371, 3) := by decide +kernel
theorem dX9_reached_37 : decode cX9_reached 37 = .ok (.aload_n 0, 1) := by decide +kernel
theorem dX9_reached_38 : decode cX9_reached 38 = .ok (.getfield 89, 3) := by decide +kernel
theorem dX9_reached_41 : decode cX9_reached 41 = .ok (.iload_n 2, 1) := by decide +kernel
theorem dX9_reached_42 : decode cX9_reached 42 = .ok (.iload_n 3, 1) := by decide +kernel
theorem dX9_reached_43 : decode cX9_reached 43 = .ok (.invokevirtual 373, 3) := by decide +kernel
theorem dX9_reached_46 : decode cX9_reached 46 = .ok (.ifCond .ne 14, 3) := by decide +kernel
theorem dX9_reached_49 : decode cX9_reached 49 = .ok (.new 153, 3) := by decide +kernel
theorem dX9_reached_52 : decode cX9_reached 52 = .ok (.dup, 1) := by decide +kernel
theorem dX9_reached_53 : decode cX9_reached 53 = .ok (.ldc_w 377, 3) := by decide +kernel
theorem dX9_reached_56 : decode cX9_reached 56 = .ok (.invokespecial 157, 3) := by decide +kernel
theorem dX9_reached_59 : decode cX9_reached 59 = .ok (.athrow, 1) := by decide +kernel
theorem dX9_reached_60 : decode cX9_reached 60 = .ok (.aload_n 0, 1) := by decide +kernel
theorem dX9_reached_61 : decode cX9_reached 61 = .ok (.getfield 89, 3) := by decide +kernel
theorem dX9_reached_64 : decode cX9_reached 64 = .ok (.getfield 382, 3) := by decide +kernel
theorem dX9_reached_67 : decode cX9_reached 67 = .ok (.iload 4, 2) := by decide +kernel
theorem dX9_reached_69 : decode cX9_reached 69 = .ok (.iload_n 3, 1) := by decide +kernel
theorem dX9_reached_70 : decode cX9_reached 70 = .ok (.ifCond .eq 13, 3) := by decide +kernel
theorem dX9_reached_73 : decode cX9_reached 73 = .ok (.aload_n 0, 1) := by decide +kernel
theorem dX9_reached_74 : decode cX9_reached 74 = .ok (.getfield 89, 3) := by decide +kernel
theorem dX9_reached_77 : decode cX9_reached 77 = .ok (.getfield 385, 3) := by decide +kernel
theorem dX9_reached_80 : decode cX9_reached 80 = .ok (.goto 6, 3) := by decide +kernel
theorem dX9_reached_83 : decode cX9_reached 83 = .ok (.ldc2_w 266, 3) := by decide +kernel
theorem dX9_reached_86 : decode cX9_reached 86 = .ok (.invokevirtual 268, 3) := by decide +kernel
theorem dX9_reached_89 : decode cX9_reached 89 = .ok (.istore 5, 2) := by decide +kernel
theorem dX9_reached_91 : decode cX9_reached 91 = .ok (.iload 5, 2) := by decide +kernel
theorem dX9_reached_93 : decode cX9_reached 93 = .ok (.ifCond .ge 14, 3) := by decide +kernel
theorem dX9_reached_96 : decode cX9_reached 96 = .ok (.new 219, 3) := by decide +kernel
theorem dX9_reached_99 : decode cX9_reached 99 = .ok (.dup, 1) := by decide +kernel
theorem dX9_reached_100 : decode cX9_reached 100 = .ok (.ldc_w 389, 3) := by decide +kernel
theorem dX9_reached_103 : decode cX9_reached 103 = .ok (.invokespecial 223, 3) := by decide +kernel
theorem dX9_reached_106 : decode cX9_reached 106 = .ok (.athrow, 1) := by decide +kernel
theorem dX9_reached_107 : decode cX9_reached 107 = .ok (.aload_n 0, 1) := by decide +kernel
theorem dX9_reached_108 : decode cX9_reached 108 = .ok (.getfield 62, 3) := by decide +kernel
theorem dX9_reached_111 : decode cX9_reached 111 = .ok (.aload_n 0, 1) := by decide +kernel
theorem dX9_reached_112 : decode cX9_reached 112 = .ok (.getfield 89, 3) := by decide +kernel
theorem dX9_reached_115 : decode cX9_reached 115 = .ok (.getfield 382, 3) := by decide +kernel
theorem dX9_reached_118 : decode cX9_reached 118 = .ok (.iload 5, 2) := by decide +kernel
theorem dX9_reached_120 : decode cX9_reached 120 = .ok (.invokevirtual 272, 3) := by decide +kernel
theorem dX9_reached_123 : decode cX9_reached 123 = .ok (.ireturn, 1) := by decide +kernel
theorem dX9_meet_0 : decode cX9_meet 0 = .ok (.aload_n 0, 1) := by decide +kernel
theorem dX9_meet_1 : decode cX9_meet 1 = .ok (.iload_n 1, 1) := by decide +kernel
theorem dX9_meet_2 : decode cX9_meet 2 = .ok (.invokevirtual 227, 3) := by decide +kernel
theorem dX9_meet_5 : decode cX9_meet 5 = .ok (.aload_n 0, 1) := by decide +kernel
theorem dX9_meet_6 : decode cX9_meet 6 = .ok (.iload_n 2, 1) := by decide +kernel
theorem dX9_meet_7 : decode cX9_meet 7 = .ok (.invokevirtual 227, 3) := by decide +kernel
theorem dX9_meet_10 : decode cX9_meet 10 = .ok (.aload_n 0, 1) := by decide +kernel
theorem dX9_meet_11 : decode cX9_meet 11 = .ok (.iload_n 3, 1) := by decide +kernel
theorem dX9_meet_12 : decode cX9_meet 12 = .ok (.invokevirtual 368, 3) := by decide +kernel
theorem dX9_meet_15 : decode cX9_meet 15 = .ok (.aload_n 0, 1) := by decide +kernel
theorem dX9_meet_16 : decode cX9_meet 16 = .ok (.getfield 80, 3) := by decide +kernel
theorem dX9_meet_19 : decode cX9_meet 19 = .ok (.aload_n 0, 1) := by decide +kernel
theorem dX9_meet_20 : decode cX9_meet 20 = .ok (.getfield 53, 3) := by decide +kernel
theorem dX9_meet_23 : decode cX9_meet 23 = .ok (.aload_n 0, 1) := by decide +kernel
theorem dX9_meet_24 : decode cX9_meet 24 = .ok (.getfield 100, 3) := by decide +kernel
theorem dX9_meet_27 : decode cX9_meet 27 = .ok (.invokevirtual 336, 3) := by decide +kernel
theorem dX9_meet_30 : decode cX9_meet 30 = .ok (.aload_n 0, 1) := by decide +kernel
theorem dX9_meet_31 : decode cX9_meet 31 = .ok (.getfield 89, 3) := by decide +kernel
theorem dX9_meet_34 : decode cX9_meet 34 = .ok (.aload_n 0, 1) := by decide +kernel
theorem dX9_meet_35 : decode cX9_meet 35 = .ok (.getfield 49, 3) := by decide +kernel
theorem dX9_meet_38 : decode cX9_meet 38 = .ok (.iload_n 1, 1) := by decide +kernel
theorem dX9_meet_39 : decode cX9_meet 39 = .ok (.invokevirtual 371, 3) := by decide +kernel
theorem dX9_meet_42 : decode cX9_meet 42 = .ok (.aload_n 0, 1) := by decide +kernel
theorem dX9_meet_43 : decode cX9_meet 43 = .ok (.getfield 93, 3) := by decide +kernel
theorem dX9_meet_46 : decode cX9_meet 46 = .ok (.aload_n 0, 1) := by decide +kernel
theorem dX9_meet_47 : decode cX9_meet 47 = .ok (.getfield 49, 3) := by decide +kernel
theorem dX9_meet_50 : decode cX9_meet 50 = .ok (.iload_n 2, 1) := by decide +kernel
theorem dX9_meet_51 : decode cX9_meet 51 = .ok (.invokevirtual 371, 3) := by decide +kernel
theorem dX9_meet_54 : decode cX9_meet 54 = .ok (.iconst 0, 1) := by decide +kernel
theorem dX9_meet_55 : decode cX9_meet 55 = .ok (.istore 4, 2) := by decide +kernel
theorem dX9_meet_57 : decode cX9_meet 57 = .ok (.iload 4, 2) := by decide +kernel
theorem dX9_meet_59 : decode cX9_meet 59 = .ok (.iload_n 3, 1) := by decide +kernel
theorem dX9_meet_60 : decode cX9_meet 60 = .ok (.if_icmp .gt 66, 3) := by decide +kernel
theorem dX9_meet_63 : decode cX9_meet 63 = .ok (.iload 4, 2) := by decide +kernel
theorem dX9_meet_65 : decode cX9_meet 65 = .ok (.ifCond .le 38, 3) := by decide +kernel
theorem dX9_meet_68 : decode cX9_meet 68 = .ok (.aload_n 0, 1) := by decide +kernel
theorem dX9_meet_69 : decode cX9_meet 69 = .ok (.getfield 89, 3) := by decide +kernel
theorem dX9_meet_72 : decode cX9_meet 72 = .ok (.iconst 1, 1) := by decide +kernel
theorem dX9_meet_73 : decode cX9_meet 73 = .ok (.iconst 0, 1) := by decide +kernel
theorem dX9_meet_74 : decode cX9_meet 74 = .ok (.invokevirtual 373, 3) := by decide +kernel
theorem dX9_meet_77 : decode cX9_meet 77 = .ok (.ifCond .eq 15, 3) := by decide +kernel
theorem dX9_meet_80 : decode cX9_meet 80 = .ok (.aload_n 0, 1) := by decide +kernel
theorem dX9_meet_81 : decode cX9_meet 81 = .ok (.getfield 93, 3) := by decide +kernel
theorem dX9_meet_84 : decode cX9_meet 84 = .ok (.iconst 1, 1) := by decide +kernel
theorem dX9_meet_85 : decode cX9_meet 85 = .ok (.iconst 0, 1) := by decide +kernel
theorem dX9_meet_86 : decode cX9_meet 86 = .ok (.invokevirtual 373, 3) := by decide +kernel
theorem dX9_meet_89 : decode cX9_meet 89 = .ok (.ifCond .ne 14, 3) := by decide +kernel
theorem dX9_meet_92 : decode cX9_meet 92 = .ok (.new 153, 3) := by decide +kernel
theorem dX9_meet_95 : decode cX9_meet 95 = .ok (.dup, 1) := by decide +kernel
theorem dX9_meet_96 : decode cX9_meet 96 = .ok (.ldc_w 377, 3) := by decide +kernel
theorem dX9_meet_99 : decode cX9_meet 99 = .ok (.invokespecial 157, 3) := by decide +kernel
theorem dX9_meet_102 : decode cX9_meet 102 = .ok (.athrow, 1) := by decide +kernel
theorem dX9_meet_103 : decode cX9_meet 103 = .ok (.aload_n 0, 1) := by decide +kernel
theorem dX9_meet_104 : decode cX9_meet 104 = .ok (.getfield 89, 3) := by decide +kernel
theorem dX9_meet_107 : decode cX9_meet 107 = .ok (.aload_n 0, 1) := by decide +kernel
theorem dX9_meet_108 : decode cX9_meet 108 = .ok (.getfield 93, 3) := by decide +kernel
theorem dX9_meet_111 : decode cX9_meet 111 = .ok (.invokevirtual 391, 3) := by decide +kernel
theorem dX9_meet_114 : decode cX9_meet 114 = .ok (.ifCond .eq 6, 3) := by decide +kernel
theorem dX9_meet_117 : decode cX9_meet 117 = .ok (.iload 4, 2) := by decide +kernel
theorem dX9_meet_119 : decode cX9_meet 119 = .ok (.ireturn, 1) := by decide +kernel
theorem dX9_meet_120 : decode cX9_meet 120 = .ok (.iinc 4 1, 3) := by decide +kernel
theorem dX9_meet_123 : decode cX9_meet 123 = .ok (.goto (-66), 3) := by decide +kernel
theorem dX9_meet_126 : decode cX9_meet 126 = .ok (.iconst (-1), 1) := by decide +kernel
theorem dX9_meet_127 : decode cX9_meet 127 = .ok (.ireturn, 1) := by decide +kernel
theorem dX9_count_0 : decode cX9_count 0 = .ok (.iload_n 1, 1) := by decide +kernel
theorem dX9_count_1 : decode cX9_count 1 = .ok (.tableswitch 108 0 8 #[51, 59, 67, 75, 80, 85, 93, 98, 103], 51) := by decide +kernel
theorem dX9_count_52 : decode cX9_count 52 = .ok (.aload_n 0, 1) := by decide +kernel
theorem dX9_count_53 : decode cX9_count 53 = .ok (.getfield 19, 3) := by decide +kernel
theorem dX9_count_56 : decode cX9_count 56 = .ok (.getfield 139, 3) := by decide +kernel
theorem dX9_count_59 : decode cX9_count 59 = .ok (.ireturn, 1) := by decide +kernel
theorem dX9_count_60 : decode cX9_count 60 = .ok (.aload_n 0, 1) := by decide +kernel
theorem dX9_count_61 : decode cX9_count 61 = .ok (.getfield 19, 3) := by decide +kernel
theorem dX9_count_64 : decode cX9_count 64 = .ok (.getfield 395, 3) := by decide +kernel
theorem dX9_count_67 : decode cX9_count 67 = .ok (.ireturn, 1) := by decide +kernel
theorem dX9_count_68 : decode cX9_count 68 = .ok (.aload_n 0, 1) := by decide +kernel
theorem dX9_count_69 : decode cX9_count 69 = .ok (.getfield 49, 3) := by decide +kernel
theorem dX9_count_72 : decode cX9_count 72 = .ok (.getfield 192, 3) := by decide +kernel
theorem dX9_count_75 : decode cX9_count 75 = .ok (.ireturn, 1) := by decide +kernel
theorem dX9_count_76 : decode cX9_count 76 = .ok (.aload_n 0, 1) := by decide +kernel
theorem dX9_count_77 : decode cX9_count 77 = .ok (.invokevirtual 181, 3) := by decide +kernel
theorem dX9_count_80 : decode cX9_count 80 = .ok (.ireturn, 1) := by decide +kernel
theorem dX9_count_81 : decode cX9_count 81 = .ok (.aload_n 0, 1) := by decide +kernel
theorem dX9_count_82 : decode cX9_count 82 = .ok (.getfield 100, 3) := by decide +kernel
theorem dX9_count_85 : decode cX9_count 85 = .ok (.ireturn, 1) := by decide +kernel
theorem dX9_count_86 : decode cX9_count 86 = .ok (.aload_n 0, 1) := by decide +kernel
theorem dX9_count_87 : decode cX9_count 87 = .ok (.getfield 62, 3) := by decide +kernel
theorem dX9_count_90 : decode cX9_count 90 = .ok (.getfield 398, 3) := by decide +kernel
theorem dX9_count_93 : decode cX9_count 93 = .ok (.ireturn, 1) := by decide +kernel
theorem dX9_count_94 : decode cX9_count 94 = .ok (.aload_n 0, 1) := by decide +kernel
theorem dX9_count_95 : decode cX9_count 95 = .ok (.invokevirtual 401, 3) := by decide +kernel
theorem dX9_count_98 : decode cX9_count 98 = .ok (.ireturn, 1) := by decide +kernel
theorem dX9_count_99 : decode cX9_count 99 = .ok (.aload_n 0, 1) := by decide +kernel
theorem dX9_count_100 : decode cX9_count 100 = .ok (.invokevirtual 404, 3) := by decide +kernel
theorem dX9_count_103 : decode cX9_count 103 = .ok (.ireturn, 1) := by decide +kernel
theorem dX9_count_104 : decode cX9_count 104 = .ok (.aload_n 0, 1) := by decide +kernel
theorem dX9_count_105 : decode cX9_count 105 = .ok (.invokevirtual 407, 3) := by decide +kernel
theorem dX9_count_108 : decode cX9_count 108 = .ok (.ireturn, 1) := by decide +kernel
theorem dX9_count_109 : decode cX9_count 109 = .ok (.iconst (-1), 1) := by decide +kernel
theorem dX9_count_110 : decode cX9_count 110 = .ok (.ireturn, 1) := by decide +kernel
theorem dX9_normalTerms_0 : decode cX9_normalTerms 0 = .ok (.iconst 0, 1) := by decide +kernel
theorem dX9_normalTerms_1 : decode cX9_normalTerms 1 = .ok (.istore_n 1, 1) := by decide +kernel
theorem dX9_normalTerms_2 : decode cX9_normalTerms 2 = .ok (.aload_n 0, 1) := by decide +kernel
theorem dX9_normalTerms_3 : decode cX9_normalTerms 3 = .ok (.getfield 80, 3) := by decide +kernel
theorem dX9_normalTerms_6 : decode cX9_normalTerms 6 = .ok (.aload_n 0, 1) := by decide +kernel
theorem dX9_normalTerms_7 : decode cX9_normalTerms 7 = .ok (.getfield 53, 3) := by decide +kernel
theorem dX9_normalTerms_10 : decode cX9_normalTerms 10 = .ok (.aload_n 0, 1) := by decide +kernel
theorem dX9_normalTerms_11 : decode cX9_normalTerms 11 = .ok (.getfield 100, 3) := by decide +kernel
theorem dX9_normalTerms_14 : decode cX9_normalTerms 14 = .ok (.invokevirtual 336, 3) := by decide +kernel
theorem dX9_normalTerms_17 : decode cX9_normalTerms 17 = .ok (.iconst 0, 1) := by decide +kernel
theorem dX9_normalTerms_18 : decode cX9_normalTerms 18 = .ok (.istore_n 2, 1) := by decide +kernel
theorem dX9_normalTerms_19 : decode cX9_normalTerms 19 = .ok (.iload_n 2, 1) := by decide +kernel
theorem dX9_normalTerms_20 : decode cX9_normalTerms 20 = .ok (.aload_n 0, 1) := by decide +kernel
theorem dX9_normalTerms_21 : decode cX9_normalTerms 21 = .ok (.getfield 49, 3) := by decide +kernel
theorem dX9_normalTerms_24 : decode cX9_normalTerms 24 = .ok (.getfield 192, 3) := by decide +kernel
theorem dX9_normalTerms_27 : decode cX9_normalTerms 27 = .ok (.if_icmp .ge 44, 3) := by decide +kernel
theorem dX9_normalTerms_30 : decode cX9_normalTerms 30 = .ok (.aload_n 0, 1) := by decide +kernel
theorem dX9_normalTerms_31 : decode cX9_normalTerms 31 = .ok (.getfield 80, 3) := by decide +kernel
theorem dX9_normalTerms_34 : decode cX9_normalTerms 34 = .ok (.aload_n 0, 1) := by decide +kernel
theorem dX9_normalTerms_35 : decode cX9_normalTerms 35 = .ok (.getfield 49, 3) := by decide +kernel
theorem dX9_normalTerms_38 : decode cX9_normalTerms 38 = .ok (.iload_n 2, 1) := by decide +kernel
theorem dX9_normalTerms_39 : decode cX9_normalTerms 39 = .ok (.bipush 20, 2) := by decide +kernel
theorem dX9_normalTerms_41 : decode cX9_normalTerms 41 = .ok (.invokevirtual 360, 3) := by decide +kernel
theorem dX9_normalTerms_44 : decode cX9_normalTerms 44 = .ok (.ifCond .ne 5, 3) := by decide +kernel
theorem dX9_normalTerms_47 : decode cX9_normalTerms 47 = .ok (.iconst (-1), 1) := by decide +kernel
theorem dX9_normalTerms_48 : decode cX9_normalTerms 48 = .ok (.ireturn, 1) := by decide +kernel
theorem dX9_normalTerms_49 : decode cX9_normalTerms 49 = .ok (.aload_n 0, 1) := by decide +kernel
theorem dX9_normalTerms_50 : decode cX9_normalTerms 50 = .ok (.getfield 80, 3) := by decide +kernel
theorem dX9_normalTerms_53 : decode cX9_normalTerms 53 = .ok (.invokevirtual 343, 3) := by decide +kernel
theorem dX9_normalTerms_56 : decode cX9_normalTerms 56 = .ok (.ifCond .ne 9, 3) := by decide +kernel
theorem dX9_normalTerms_59 : decode cX9_normalTerms 59 = .ok (.iload_n 1, 1) := by decide +kernel
theorem dX9_normalTerms_60 : decode cX9_normalTerms 60 = .ok (.iconst 1, 1) := by decide +kernel
theorem dX9_normalTerms_61 : decode cX9_normalTerms 61 = .ok (.iload_n 2, 1) := by decide +kernel
theorem dX9_normalTerms_62 : decode cX9_normalTerms 62 = .ok (.ishl, 1) := by decide +kernel
theorem dX9_normalTerms_63 : decode cX9_normalTerms 63 = .ok (.ior, 1) := by decide +kernel
theorem dX9_normalTerms_64 : decode cX9_normalTerms 64 = .ok (.istore_n 1, 1) := by decide +kernel
theorem dX9_normalTerms_65 : decode cX9_normalTerms 65 = .ok (.iinc 2 1, 3) := by decide +kernel
theorem dX9_normalTerms_68 : decode cX9_normalTerms 68 = .ok (.goto (-49), 3) := by decide +kernel
theorem dX9_normalTerms_71 : decode cX9_normalTerms 71 = .ok (.iload_n 1, 1) := by decide +kernel
theorem dX9_normalTerms_72 : decode cX9_normalTerms 72 = .ok (.ireturn, 1) := by decide +kernel
theorem dX9_greatestSize_0 : decode cX9_greatestSize 0 = .ok (.iconst 0, 1) := by decide +kernel
theorem dX9_greatestSize_1 : decode cX9_greatestSize 1 = .ok (.istore_n 1, 1) := by decide +kernel
theorem dX9_greatestSize_2 : decode cX9_greatestSize 2 = .ok (.iconst 0, 1) := by decide +kernel
theorem dX9_greatestSize_3 : decode cX9_greatestSize 3 = .ok (.istore_n 2, 1) := by decide +kernel
theorem dX9_greatestSize_4 : decode cX9_greatestSize 4 = .ok (.iload_n 2, 1) := by decide +kernel
theorem dX9_greatestSize_5 : decode cX9_greatestSize 5 = .ok (.aload_n 0, 1) := by decide +kernel
theorem dX9_greatestSize_6 : decode cX9_greatestSize 6 = .ok (.getfield 49, 3) := by decide +kernel
theorem dX9_greatestSize_9 : decode cX9_greatestSize 9 = .ok (.getfield 192, 3) := by decide +kernel
theorem dX9_greatestSize_12 : decode cX9_greatestSize 12 = .ok (.if_icmp .ge 22, 3) := by decide +kernel
theorem dX9_greatestSize_15 : decode cX9_greatestSize 15 = .ok (.iload_n 1, 1) := by decide +kernel
theorem dX9_greatestSize_16 : decode cX9_greatestSize 16 = .ok (.aload_n 0, 1) := by decide +kernel
theorem dX9_greatestSize_17 : decode cX9_greatestSize 17 = .ok (.getfield 49, 3) := by decide +kernel
theorem dX9_greatestSize_20 : decode cX9_greatestSize 20 = .ok (.iload_n 2, 1) := by decide +kernel
theorem dX9_greatestSize_21 : decode cX9_greatestSize 21 = .ok (.invokevirtual 240, 3) := by decide +kernel
theorem dX9_greatestSize_24 : decode cX9_greatestSize 24 = .ok (.invokestatic 410, 3) := by decide +kernel
theorem dX9_greatestSize_27 : decode cX9_greatestSize 27 = .ok (.istore_n 1, 1) := by decide +kernel
theorem dX9_greatestSize_28 : decode cX9_greatestSize 28 = .ok (.iinc 2 1, 3) := by decide +kernel
theorem dX9_greatestSize_31 : decode cX9_greatestSize 31 = .ok (.goto (-27), 3) := by decide +kernel
theorem dX9_greatestSize_34 : decode cX9_greatestSize 34 = .ok (.iload_n 1, 1) := by decide +kernel
theorem dX9_greatestSize_35 : decode cX9_greatestSize 35 = .ok (.ireturn, 1) := by decide +kernel
theorem dX9_matchesOfAll_0 : decode cX9_matchesOfAll 0 = .ok (.iconst 0, 1) := by decide +kernel
theorem dX9_matchesOfAll_1 : decode cX9_matchesOfAll 1 = .ok (.istore_n 1, 1) := by decide +kernel
theorem dX9_matchesOfAll_2 : decode cX9_matchesOfAll 2 = .ok (.iconst 0, 1) := by decide +kernel
theorem dX9_matchesOfAll_3 : decode cX9_matchesOfAll 3 = .ok (.istore_n 2, 1) := by decide +kernel
theorem dX9_matchesOfAll_4 : decode cX9_matchesOfAll 4 = .ok (.iload_n 2, 1) := by decide +kernel
theorem dX9_matchesOfAll_5 : decode cX9_matchesOfAll 5 = .ok (.aload_n 0, 1) := by decide +kernel
theorem dX9_matchesOfAll_6 : decode cX9_matchesOfAll 6 = .ok (.invokevirtual 181, 3) := by decide +kernel
theorem dX9_matchesOfAll_9 : decode cX9_matchesOfAll 9 = .ok (.if_icmp .ge 98, 3) := by decide +kernel
theorem dX9_matchesOfAll_12 : decode cX9_matchesOfAll 12 = .ok (.iconst 0, 1) := by decide +kernel
theorem dX9_matchesOfAll_13 : decode cX9_matchesOfAll 13 = .ok (.istore_n 3, 1) := by decide +kernel
theorem dX9_matchesOfAll_14 : decode cX9_matchesOfAll 14 = .ok (.aload_n 0, 1) := by decide +kernel
theorem dX9_matchesOfAll_15 : decode cX9_matchesOfAll 15 = .ok (.getfield 100, 3) := by decide +kernel
theorem dX9_matchesOfAll_18 : decode cX9_matchesOfAll 18 = .ok (.iload_n 2, 1) := by decide +kernel
theorem dX9_matchesOfAll_19 : decode cX9_matchesOfAll 19 = .ok (.ishr, 1) := by decide +kernel
theorem dX9_matchesOfAll_20 : decode cX9_matchesOfAll 20 = .ok (.iconst 1, 1) := by decide +kernel
theorem dX9_matchesOfAll_21 : decode cX9_matchesOfAll 21 = .ok (.iand, 1) := by decide +kernel
theorem dX9_matchesOfAll_22 : decode cX9_matchesOfAll 22 = .ok (.ifCond .eq 79, 3) := by decide +kernel
theorem dX9_matchesOfAll_25 : decode cX9_matchesOfAll 25 = .ok (.iload_n 3, 1) := by decide +kernel
theorem dX9_matchesOfAll_26 : decode cX9_matchesOfAll 26 = .ok (.aload_n 0, 1) := by decide +kernel
theorem dX9_matchesOfAll_27 : decode cX9_matchesOfAll 27 = .ok (.getfield 49, 3) := by decide +kernel
theorem dX9_matchesOfAll_30 : decode cX9_matchesOfAll 30 = .ok (.getfield 192, 3) := by decide +kernel
theorem dX9_matchesOfAll_33 : decode cX9_matchesOfAll 33 = .ok (.if_icmp .ge 68, 3) := by decide +kernel
theorem dX9_matchesOfAll_36 : decode cX9_matchesOfAll 36 = .ok (.aload_n 0, 1) := by decide +kernel
theorem dX9_matchesOfAll_37 : decode cX9_matchesOfAll 37 = .ok (.getfield 31, 3) := by decide +kernel
theorem dX9_matchesOfAll_40 : decode cX9_matchesOfAll 40 = .ok (.invokevirtual 142, 3) := by decide +kernel
theorem dX9_matchesOfAll_43 : decode cX9_matchesOfAll 43 = .ok (.aload_n 0, 1) := by decide +kernel
theorem dX9_matchesOfAll_44 : decode cX9_matchesOfAll 44 = .ok (.getfield 31, 3) := by decide +kernel
theorem dX9_matchesOfAll_47 : decode cX9_matchesOfAll 47 = .ok (.aload_n 0, 1) := by decide +kernel
theorem dX9_matchesOfAll_48 : decode cX9_matchesOfAll 48 = .ok (.getfield 53, 3) := by decide +kernel
theorem dX9_matchesOfAll_51 : decode cX9_matchesOfAll 51 = .ok (.iconst 2, 1) := by decide +kernel
theorem dX9_matchesOfAll_52 : decode cX9_matchesOfAll 52 = .ok (.iload_n 2, 1) := by decide +kernel
theorem dX9_matchesOfAll_53 : decode cX9_matchesOfAll 53 = .ok (.imul, 1) := by decide +kernel
theorem dX9_matchesOfAll_54 : decode cX9_matchesOfAll 54 = .ok (.invokevirtual 308, 3) := by decide +kernel
theorem dX9_matchesOfAll_57 : decode cX9_matchesOfAll 57 = .ok (.istore 4, 2) := by decide +kernel
theorem dX9_matchesOfAll_59 : decode cX9_matchesOfAll 59 = .ok (.aload_n 0, 1) := by decide +kernel
theorem dX9_matchesOfAll_60 : decode cX9_matchesOfAll 60 = .ok (.getfield 71, 3) := by decide +kernel
theorem dX9_matchesOfAll_63 : decode cX9_matchesOfAll 63 = .ok (.iload 4, 2) := by decide +kernel
theorem dX9_matchesOfAll_65 : decode cX9_matchesOfAll 65 = .ok (.aload_n 0, 1) := by decide +kernel
theorem dX9_matchesOfAll_66 : decode cX9_matchesOfAll 66 = .ok (.getfield 31, 3) := by decide +kernel
theorem dX9_matchesOfAll_69 : decode cX9_matchesOfAll 69 = .ok (.aload_n 0, 1) := by decide +kernel
theorem dX9_matchesOfAll_70 : decode cX9_matchesOfAll 70 = .ok (.getfield 49, 3) := by decide +kernel
theorem dX9_matchesOfAll_73 : decode cX9_matchesOfAll 73 = .ok (.iload_n 3, 1) := by decide +kernel
theorem dX9_matchesOfAll_74 : decode cX9_matchesOfAll 74 = .ok (.invokevirtual 308, 3) := by decide +kernel
theorem dX9_matchesOfAll_77 : decode cX9_matchesOfAll 77 = .ok (.invokevirtual 311, 3) := by decide +kernel
theorem dX9_matchesOfAll_80 : decode cX9_matchesOfAll 80 = .ok (.ifCond .ne 5, 3) := by decide +kernel
theorem dX9_matchesOfAll_83 : decode cX9_matchesOfAll 83 = .ok (.iconst (-1), 1) := by decide +kernel
theorem dX9_matchesOfAll_84 : decode cX9_matchesOfAll 84 = .ok (.ireturn, 1) := by decide +kernel
theorem dX9_matchesOfAll_85 : decode cX9_matchesOfAll 85 = .ok (.iload_n 1, 1) := by decide +kernel
theorem dX9_matchesOfAll_86 : decode cX9_matchesOfAll 86 = .ok (.aload_n 0, 1) := by decide +kernel
theorem dX9_matchesOfAll_87 : decode cX9_matchesOfAll 87 = .ok (.getfield 71, 3) := by decide +kernel
theorem dX9_matchesOfAll_90 : decode cX9_matchesOfAll 90 = .ok (.getfield 296, 3) := by decide +kernel
theorem dX9_matchesOfAll_93 : decode cX9_matchesOfAll 93 = .ok (.iadd, 1) := by decide +kernel
theorem dX9_matchesOfAll_94 : decode cX9_matchesOfAll 94 = .ok (.istore_n 1, 1) := by decide +kernel
theorem dX9_matchesOfAll_95 : decode cX9_matchesOfAll 95 = .ok (.iinc 3 1, 3) := by decide +kernel
theorem dX9_matchesOfAll_98 : decode cX9_matchesOfAll 98 = .ok (.goto (-84), 3) := by decide +kernel
theorem dX9_matchesOfAll_101 : decode cX9_matchesOfAll 101 = .ok (.iinc 2 1, 3) := by decide +kernel
theorem dX9_matchesOfAll_104 : decode cX9_matchesOfAll 104 = .ok (.goto (-100), 3) := by decide +kernel
theorem dX9_matchesOfAll_107 : decode cX9_matchesOfAll 107 = .ok (.iload_n 1, 1) := by decide +kernel
theorem dX9_matchesOfAll_108 : decode cX9_matchesOfAll 108 = .ok (.ireturn, 1) := by decide +kernel
theorem dX10_thrown_0 : decode cX10_thrown 0 = .ok (.aload_n 0, 1) := by decide +kernel
theorem dX10_thrown_1 : decode cX10_thrown 1 = .ok (.getfield 100, 3) := by decide +kernel
theorem dX10_thrown_4 : decode cX10_thrown 4 = .ok (.ireturn, 1) := by decide +kernel
theorem dX10_throwsIf_0 : decode cX10_throwsIf 0 = .ok (.iload_n 1, 1) := by decide +kernel
theorem dX10_throwsIf_1 : decode cX10_throwsIf 1 = .ok (.ifCond .eq 8, 3) := by decide +kernel
theorem dX10_throwsIf_4 : decode cX10_throwsIf 4 = .ok (.aload_n 0, 1) := by decide +kernel
theorem dX10_throwsIf_5 : decode cX10_throwsIf 5 = .ok (.iload_n 2, 1) := by decide +kernel
theorem dX10_throwsIf_6 : decode cX10_throwsIf 6 = .ok (.putfield 100, 3) := by decide +kernel
theorem dX10_throwsIf_9 : decode cX10_throwsIf 9 = .ok (.iload_n 1, 1) := by decide +kernel
theorem dX10_throwsIf_10 : decode cX10_throwsIf 10 = .ok (.ireturn, 1) := by decide +kernel
theorem dX10_in_0 : decode cX10_in 0 = .ok (.iload_n 0, 1) := by decide +kernel
theorem dX10_in_1 : decode cX10_in 1 = .ok (.iload_n 1, 1) := by decide +kernel
theorem dX10_in_2 : decode cX10_in 2 = .ok (.if_icmp .lt 12, 3) := by decide +kernel
theorem dX10_in_5 : decode cX10_in 5 = .ok (.iload_n 0, 1) := by decide +kernel
theorem dX10_in_6 : decode cX10_in 6 = .ok (.iload_n 2, 1) := by decide +kernel
theorem dX10_in_7 : decode cX10_in 7 = .ok (.if_icmp .gt 7, 3) := by decide +kernel
theorem dX10_in_10 : decode cX10_in 10 = .ok (.iconst 1, 1) := by decide +kernel
theorem dX10_in_11 : decode cX10_in 11 = .ok (.goto 4, 3) := by decide +kernel
theorem dX10_in_14 : decode cX10_in 14 = .ok (.iconst 0, 1) := by decide +kernel
theorem dX10_in_15 : decode cX10_in 15 = .ok (.ireturn, 1) := by decide +kernel
theorem dX10_operatorAt_0 : decode cX10_operatorAt 0 = .ok (.aload_n 0, 1) := by decide +kernel
theorem dX10_operatorAt_1 : decode cX10_operatorAt 1 = .ok (.getfield 52, 3) := by decide +kernel
theorem dX10_operatorAt_4 : decode cX10_operatorAt 4 = .ok (.iload_n 1, 1) := by decide +kernel
theorem dX10_operatorAt_5 : decode cX10_operatorAt 5 = .ok (.iaload, 1) := by decide +kernel
theorem dX10_operatorAt_6 : decode cX10_operatorAt 6 = .ok (.sipush 512, 3) := by decide +kernel
theorem dX10_operatorAt_9 : decode cX10_operatorAt 9 = .ok (.idiv, 1) := by decide +kernel
theorem dX10_operatorAt_10 : decode cX10_operatorAt 10 = .ok (.iconst 1, 1) := by decide +kernel
theorem dX10_operatorAt_11 : decode cX10_operatorAt 11 = .ok (.isub, 1) := by decide +kernel
theorem dX10_operatorAt_12 : decode cX10_operatorAt 12 = .ok (.ireturn, 1) := by decide +kernel
theorem dX10_partsAt_0 : decode cX10_partsAt 0 = .ok (.aload_n 0, 1) := by decide +kernel
theorem dX10_partsAt_1 : decode cX10_partsAt 1 = .ok (.getfield 52, 3) := by decide +kernel
theorem dX10_partsAt_4 : decode cX10_partsAt 4 = .ok (.iload_n 1, 1) := by decide +kernel
theorem dX10_partsAt_5 : decode cX10_partsAt 5 = .ok (.iaload, 1) := by decide +kernel
theorem dX10_partsAt_6 : decode cX10_partsAt 6 = .ok (.sipush 512, 3) := by decide +kernel
theorem dX10_partsAt_9 : decode cX10_partsAt 9 = .ok (.if_icmp .ge 7, 3) := by decide +kernel
theorem dX10_partsAt_12 : decode cX10_partsAt 12 = .ok (.iconst 0, 1) := by decide +kernel
theorem dX10_partsAt_13 : decode cX10_partsAt 13 = .ok (.goto 13, 3) := by decide +kernel
theorem dX10_partsAt_16 : decode cX10_partsAt 16 = .ok (.aload_n 0, 1) := by decide +kernel
theorem dX10_partsAt_17 : decode cX10_partsAt 17 = .ok (.getfield 52, 3) := by decide +kernel
theorem dX10_partsAt_20 : decode cX10_partsAt 20 = .ok (.iload_n 1, 1) := by decide +kernel
theorem dX10_partsAt_21 : decode cX10_partsAt 21 = .ok (.iaload, 1) := by decide +kernel
theorem dX10_partsAt_22 : decode cX10_partsAt 22 = .ok (.sipush 512, 3) := by decide +kernel
theorem dX10_partsAt_25 : decode cX10_partsAt 25 = .ok (.irem, 1) := by decide +kernel
theorem dX10_partsAt_26 : decode cX10_partsAt 26 = .ok (.ireturn, 1) := by decide +kernel
theorem dX10_behind_0 : decode cX10_behind 0 = .ok (.iconst 1, 1) := by decide +kernel
theorem dX10_behind_1 : decode cX10_behind 1 = .ok (.istore_n 2, 1) := by decide +kernel
theorem dX10_behind_2 : decode cX10_behind 2 = .ok (.iload_n 1, 1) := by decide +kernel
theorem dX10_behind_3 : decode cX10_behind 3 = .ok (.istore_n 3, 1) := by decide +kernel
theorem dX10_behind_4 : decode cX10_behind 4 = .ok (.iload_n 2, 1) := by decide +kernel
theorem dX10_behind_5 : decode cX10_behind 5 = .ok (.ifCond .le 19, 3) := by decide +kernel
theorem dX10_behind_8 : decode cX10_behind 8 = .ok (.iload_n 2, 1) := by decide +kernel
theorem dX10_behind_9 : decode cX10_behind 9 = .ok (.aload_n 0, 1) := by decide +kernel
theorem dX10_behind_10 : decode cX10_behind 10 = .ok (.iload_n 3, 1) := by decide +kernel
theorem dX10_behind_11 : decode cX10_behind 11 = .ok (.invokevirtual 209, 3) := by decide +kernel
theorem dX10_behind_14 : decode cX10_behind 14 = .ok (.iconst 1, 1) := by decide +kernel
theorem dX10_behind_15 : decode cX10_behind 15 = .ok (.isub, 1) := by decide +kernel
theorem dX10_behind_16 : decode cX10_behind 16 = .ok (.iadd, 1) := by decide +kernel
theorem dX10_behind_17 : decode cX10_behind 17 = .ok (.istore_n 2, 1) := by decide +kernel
theorem dX10_behind_18 : decode cX10_behind 18 = .ok (.iinc 3 1, 3) := by decide +kernel
theorem dX10_behind_21 : decode cX10_behind 21 = .ok (.goto (-17), 3) := by decide +kernel
theorem dX10_behind_24 : decode cX10_behind 24 = .ok (.iload_n 3, 1) := by decide +kernel
theorem dX10_behind_25 : decode cX10_behind 25 = .ok (.ireturn, 1) := by decide +kernel
theorem dX10_compares_0 : decode cX10_compares 0 = .ok (.aload_n 0, 1) := by decide +kernel
theorem dX10_compares_1 : decode cX10_compares 1 = .ok (.iload_n 1, 1) := by decide +kernel
theorem dX10_compares_2 : decode cX10_compares 2 = .ok (.invokevirtual 213, 3) := by decide +kernel
theorem dX10_compares_5 : decode cX10_compares 5 = .ok (.istore_n 3, 1) := by decide +kernel
theorem dX10_compares_6 : decode cX10_compares 6 = .ok (.aload_n 0, 1) := by decide +kernel
theorem dX10_compares_7 : decode cX10_compares 7 = .ok (.iload_n 2, 1) := by decide +kernel
theorem dX10_compares_8 : decode cX10_compares 8 = .ok (.invokevirtual 213, 3) := by decide +kernel
theorem dX10_compares_11 : decode cX10_compares 11 = .ok (.istore 4, 2) := by decide +kernel
theorem dX10_compares_13 : decode cX10_compares 13 = .ok (.iconst 0, 1) := by decide +kernel
theorem dX10_compares_14 : decode cX10_compares 14 = .ok (.istore 5, 2) := by decide +kernel
theorem dX10_compares_16 : decode cX10_compares 16 = .ok (.iload_n 1, 1) := by decide +kernel
theorem dX10_compares_17 : decode cX10_compares 17 = .ok (.iload 5, 2) := by decide +kernel
theorem dX10_compares_19 : decode cX10_compares 19 = .ok (.iadd, 1) := by decide +kernel
theorem dX10_compares_20 : decode cX10_compares 20 = .ok (.iload_n 3, 1) := by decide +kernel
theorem dX10_compares_21 : decode cX10_compares 21 = .ok (.if_icmp .ge 39, 3) := by decide +kernel
theorem dX10_compares_24 : decode cX10_compares 24 = .ok (.iload_n 2, 1) := by decide +kernel
theorem dX10_compares_25 : decode cX10_compares 25 = .ok (.iload 5, 2) := by decide +kernel
theorem dX10_compares_27 : decode cX10_compares 27 = .ok (.iadd, 1) := by decide +kernel
theorem dX10_compares_28 : decode cX10_compares 28 = .ok (.iload 4, 2) := by decide +kernel
theorem dX10_compares_30 : decode cX10_compares 30 = .ok (.if_icmp .ge 30, 3) := by decide +kernel
theorem dX10_compares_33 : decode cX10_compares 33 = .ok (.aload_n 0, 1) := by decide +kernel
theorem dX10_compares_34 : decode cX10_compares 34 = .ok (.getfield 52, 3) := by decide +kernel
theorem dX10_compares_37 : decode cX10_compares 37 = .ok (.iload_n 1, 1) := by decide +kernel
theorem dX10_compares_38 : decode cX10_compares 38 = .ok (.iload 5, 2) := by decide +kernel
theorem dX10_compares_40 : decode cX10_compares 40 = .ok (.iadd, 1) := by decide +kernel
theorem dX10_compares_41 : decode cX10_compares 41 = .ok (.iaload, 1) := by decide +kernel
theorem dX10_compares_42 : decode cX10_compares 42 = .ok (.aload_n 0, 1) := by decide +kernel
theorem dX10_compares_43 : decode cX10_compares 43 = .ok (.getfield 52, 3) := by decide +kernel
theorem dX10_compares_46 : decode cX10_compares 46 = .ok (.iload_n 2, 1) := by decide +kernel
theorem dX10_compares_47 : decode cX10_compares 47 = .ok (.iload 5, 2) := by decide +kernel
theorem dX10_compares_49 : decode cX10_compares 49 = .ok (.iadd, 1) := by decide +kernel
theorem dX10_compares_50 : decode cX10_compares 50 = .ok (.iaload, 1) := by decide +kernel
theorem dX10_compares_51 : decode cX10_compares 51 = .ok (.if_icmp .ne 9, 3) := by decide +kernel
theorem dX10_compares_54 : decode cX10_compares 54 = .ok (.iinc 5 1, 3) := by decide +kernel
theorem dX10_compares_57 : decode cX10_compares 57 = .ok (.goto (-41), 3) := by decide +kernel
theorem dX10_compares_60 : decode cX10_compares 60 = .ok (.iload_n 1, 1) := by decide +kernel
theorem dX10_compares_61 : decode cX10_compares 61 = .ok (.iload 5, 2) := by decide +kernel
theorem dX10_compares_63 : decode cX10_compares 63 = .ok (.iadd, 1) := by decide +kernel
theorem dX10_compares_64 : decode cX10_compares 64 = .ok (.iload_n 3, 1) := by decide +kernel
theorem dX10_compares_65 : decode cX10_compares 65 = .ok (.if_icmp .eq 12, 3) := by decide +kernel
theorem dX10_compares_68 : decode cX10_compares 68 = .ok (.iload_n 2, 1) := by decide +kernel
theorem dX10_compares_69 : decode cX10_compares 69 = .ok (.iload 5, 2) := by decide +kernel
theorem dX10_compares_71 : decode cX10_compares 71 = .ok (.iadd, 1) := by decide +kernel
theorem dX10_compares_72 : decode cX10_compares 72 = .ok (.iload 4, 2) := by decide +kernel
theorem dX10_compares_74 : decode cX10_compares 74 = .ok (.if_icmp .ne 5, 3) := by decide +kernel
theorem dX10_compares_77 : decode cX10_compares 77 = .ok (.iconst 0, 1) := by decide +kernel
theorem dX10_compares_78 : decode cX10_compares 78 = .ok (.ireturn, 1) := by decide +kernel
theorem dX10_compares_79 : decode cX10_compares 79 = .ok (.aload_n 0, 1) := by decide +kernel
theorem dX10_compares_80 : decode cX10_compares 80 = .ok (.getfield 52, 3) := by decide +kernel
theorem dX10_compares_83 : decode cX10_compares 83 = .ok (.iload_n 1, 1) := by decide +kernel
theorem dX10_compares_84 : decode cX10_compares 84 = .ok (.iload 5, 2) := by decide +kernel
theorem dX10_compares_86 : decode cX10_compares 86 = .ok (.iadd, 1) := by decide +kernel
theorem dX10_compares_87 : decode cX10_compares 87 = .ok (.iaload, 1) := by decide +kernel
theorem dX10_compares_88 : decode cX10_compares 88 = .ok (.aload_n 0, 1) := by decide +kernel
theorem dX10_compares_89 : decode cX10_compares 89 = .ok (.getfield 52, 3) := by decide +kernel
theorem dX10_compares_92 : decode cX10_compares 92 = .ok (.iload_n 2, 1) := by decide +kernel
theorem dX10_compares_93 : decode cX10_compares 93 = .ok (.iload 5, 2) := by decide +kernel
theorem dX10_compares_95 : decode cX10_compares 95 = .ok (.iadd, 1) := by decide +kernel
theorem dX10_compares_96 : decode cX10_compares 96 = .ok (.iaload, 1) := by decide +kernel
theorem dX10_compares_97 : decode cX10_compares 97 = .ok (.if_icmp .ge 7, 3) := by decide +kernel
theorem dX10_compares_100 : decode cX10_compares 100 = .ok (.iconst (-1), 1) := by decide +kernel
theorem dX10_compares_101 : decode cX10_compares 101 = .ok (.goto 4, 3) := by decide +kernel
theorem dX10_compares_104 : decode cX10_compares 104 = .ok (.iconst 1, 1) := by decide +kernel
theorem dX10_compares_105 : decode cX10_compares 105 = .ok (.ireturn, 1) := by decide +kernel
theorem dX10_areAlike_0 : decode cX10_areAlike 0 = .ok (.aload_n 0, 1) := by decide +kernel
theorem dX10_areAlike_1 : decode cX10_areAlike 1 = .ok (.iload_n 1, 1) := by decide +kernel
theorem dX10_areAlike_2 : decode cX10_areAlike 2 = .ok (.iload_n 2, 1) := by decide +kernel
theorem dX10_areAlike_3 : decode cX10_areAlike 3 = .ok (.invokevirtual 216, 3) := by decide +kernel
theorem dX10_areAlike_6 : decode cX10_areAlike 6 = .ok (.ifCond .ne 7, 3) := by decide +kernel
theorem dX10_areAlike_9 : decode cX10_areAlike 9 = .ok (.iconst 1, 1) := by decide +kernel
theorem dX10_areAlike_10 : decode cX10_areAlike 10 = .ok (.goto 4, 3) := by decide +kernel
theorem dX10_areAlike_13 : decode cX10_areAlike 13 = .ok (.iconst 0, 1) := by decide +kernel
theorem dX10_areAlike_14 : decode cX10_areAlike 14 = .ok (.ireturn, 1) := by decide +kernel
theorem dX10_copies_0 : decode cX10_copies 0 = .ok (.aload_n 0, 1) := by decide +kernel
theorem dX10_copies_1 : decode cX10_copies 1 = .ok (.iload_n 1, 1) := by decide +kernel
theorem dX10_copies_2 : decode cX10_copies 2 = .ok (.invokevirtual 213, 3) := by decide +kernel
theorem dX10_copies_5 : decode cX10_copies 5 = .ok (.istore_n 2, 1) := by decide +kernel
theorem dX10_copies_6 : decode cX10_copies 6 = .ok (.aload_n 0, 1) := by decide +kernel
theorem dX10_copies_7 : decode cX10_copies 7 = .ok (.getfield 178, 3) := by decide +kernel
theorem dX10_copies_10 : decode cX10_copies 10 = .ok (.istore_n 3, 1) := by decide +kernel
theorem dX10_copies_11 : decode cX10_copies 11 = .ok (.iload_n 1, 1) := by decide +kernel
theorem dX10_copies_12 : decode cX10_copies 12 = .ok (.istore 4, 2) := by decide +kernel
theorem dX10_copies_14 : decode cX10_copies 14 = .ok (.iload 4, 2) := by decide +kernel
theorem dX10_copies_16 : decode cX10_copies 16 = .ok (.iload_n 2, 1) := by decide +kernel
theorem dX10_copies_17 : decode cX10_copies 17 = .ok (.if_icmp .ge 35, 3) := by decide +kernel
theorem dX10_copies_20 : decode cX10_copies 20 = .ok (.aload_n 0, 1) := by decide +kernel
theorem dX10_copies_21 : decode cX10_copies 21 = .ok (.getfield 52, 3) := by decide +kernel
theorem dX10_copies_24 : decode cX10_copies 24 = .ok (.aload_n 0, 1) := by decide +kernel
theorem dX10_copies_25 : decode cX10_copies 25 = .ok (.getfield 178, 3) := by decide +kernel
theorem dX10_copies_28 : decode cX10_copies 28 = .ok (.aload_n 0, 1) := by decide +kernel
theorem dX10_copies_29 : decode cX10_copies 29 = .ok (.getfield 52, 3) := by decide +kernel
theorem dX10_copies_32 : decode cX10_copies 32 = .ok (.iload 4, 2) := by decide +kernel
theorem dX10_copies_34 : decode cX10_copies 34 = .ok (.iaload, 1) := by decide +kernel
theorem dX10_copies_35 : decode cX10_copies 35 = .ok (.iastore, 1) := by decide +kernel
theorem dX10_copies_36 : decode cX10_copies 36 = .ok (.aload_n 0, 1) := by decide +kernel
theorem dX10_copies_37 : decode cX10_copies 37 = .ok (.dup, 1) := by decide +kernel
theorem dX10_copies_38 : decode cX10_copies 38 = .ok (.getfield 178, 3) := by decide +kernel
theorem dX10_copies_41 : decode cX10_copies 41 = .ok (.iconst 1, 1) := by decide +kernel
theorem dX10_copies_42 : decode cX10_copies 42 = .ok (.iadd, 1) := by decide +kernel
theorem dX10_copies_43 : decode cX10_copies 43 = .ok (.putfield 178, 3) := by decide +kernel
theorem dX10_copies_46 : decode cX10_copies 46 = .ok (.iinc 4 1, 3) := by decide +kernel
theorem dX10_copies_49 : decode cX10_copies 49 = .ok (.goto (-35), 3) := by decide +kernel
theorem dX10_copies_52 : decode cX10_copies 52 = .ok (.iload_n 3, 1) := by decide +kernel
theorem dX10_copies_53 : decode cX10_copies 53 = .ok (.ireturn, 1) := by decide +kernel
theorem dX10_variablesAt_0 : decode cX10_variablesAt 0 = .ok (.iconst 0, 1) := by decide +kernel
theorem dX10_variablesAt_1 : decode cX10_variablesAt 1 = .ok (.istore_n 2, 1) := by decide +kernel
theorem dX10_variablesAt_2 : decode cX10_variablesAt 2 = .ok (.aload_n 0, 1) := by decide +kernel
theorem dX10_variablesAt_3 : decode cX10_variablesAt 3 = .ok (.iload_n 1, 1) := by decide +kernel
theorem dX10_variablesAt_4 : decode cX10_variablesAt 4 = .ok (.invokevirtual 213, 3) := by decide +kernel
theorem dX10_variablesAt_7 : decode cX10_variablesAt 7 = .ok (.istore_n 3, 1) := by decide +kernel
theorem dX10_variablesAt_8 : decode cX10_variablesAt 8 = .ok (.iload_n 1, 1) := by decide +kernel
theorem dX10_variablesAt_9 : decode cX10_variablesAt 9 = .ok (.istore 4, 2) := by decide +kernel
theorem dX10_variablesAt_11 : decode cX10_variablesAt 11 = .ok (.iload 4, 2) := by decide +kernel
theorem dX10_variablesAt_13 : decode cX10_variablesAt 13 = .ok (.iload_n 3, 1) := by decide +kernel
theorem dX10_variablesAt_14 : decode cX10_variablesAt 14 = .ok (.if_icmp .ge 34, 3) := by decide +kernel
theorem dX10_variablesAt_17 : decode cX10_variablesAt 17 = .ok (.aload_n 0, 1) := by decide +kernel
theorem dX10_variablesAt_18 : decode cX10_variablesAt 18 = .ok (.getfield 52, 3) := by decide +kernel
theorem dX10_variablesAt_21 : decode cX10_variablesAt 21 = .ok (.iload 4, 2) := by decide +kernel
theorem dX10_variablesAt_23 : decode cX10_variablesAt 23 = .ok (.iaload, 1) := by decide +kernel
theorem dX10_variablesAt_24 : decode cX10_variablesAt 24 = .ok (.sipush 512, 3) := by decide +kernel
theorem dX10_variablesAt_27 : decode cX10_variablesAt 27 = .ok (.if_icmp .ge 15, 3) := by decide +kernel
theorem dX10_variablesAt_30 : decode cX10_variablesAt 30 = .ok (.iload_n 2, 1) := by decide +kernel
theorem dX10_variablesAt_31 : decode cX10_variablesAt 31 = .ok (.iconst 1, 1) := by decide +kernel
theorem dX10_variablesAt_32 : decode cX10_variablesAt 32 = .ok (.aload_n 0, 1) := by decide +kernel
theorem dX10_variablesAt_33 : decode cX10_variablesAt 33 = .ok (.getfield 52, 3) := by decide +kernel
theorem dX10_variablesAt_36 : decode cX10_variablesAt 36 = .ok (.iload 4, 2) := by decide +kernel
theorem dX10_variablesAt_38 : decode cX10_variablesAt 38 = .ok (.iaload, 1) := by decide +kernel
theorem dX10_variablesAt_39 : decode cX10_variablesAt 39 = .ok (.ishl, 1) := by decide +kernel
theorem dX10_variablesAt_40 : decode cX10_variablesAt 40 = .ok (.ior, 1) := by decide +kernel
theorem dX10_variablesAt_41 : decode cX10_variablesAt 41 = .ok (.istore_n 2, 1) := by decide +kernel
theorem dX10_variablesAt_42 : decode cX10_variablesAt 42 = .ok (.iinc 4 1, 3) := by decide +kernel
theorem dX10_variablesAt_45 : decode cX10_variablesAt 45 = .ok (.goto (-34), 3) := by decide +kernel
theorem dX10_variablesAt_48 : decode cX10_variablesAt 48 = .ok (.iload_n 2, 1) := by decide +kernel
theorem dX10_variablesAt_49 : decode cX10_variablesAt 49 = .ok (.ireturn, 1) := by decide +kernel
theorem dX10_operatorsAt_0 : decode cX10_operatorsAt 0 = .ok (.iconst 0, 1) := by decide +kernel
theorem dX10_operatorsAt_1 : decode cX10_operatorsAt 1 = .ok (.istore_n 2, 1) := by decide +kernel
theorem dX10_operatorsAt_2 : decode cX10_operatorsAt 2 = .ok (.aload_n 0, 1) := by decide +kernel
theorem dX10_operatorsAt_3 : decode cX10_operatorsAt 3 = .ok (.iload_n 1, 1) := by decide +kernel
theorem dX10_operatorsAt_4 : decode cX10_operatorsAt 4 = .ok (.invokevirtual 213, 3) := by decide +kernel
theorem dX10_operatorsAt_7 : decode cX10_operatorsAt 7 = .ok (.istore_n 3, 1) := by decide +kernel
theorem dX10_operatorsAt_8 : decode cX10_operatorsAt 8 = .ok (.iload_n 1, 1) := by decide +kernel
theorem dX10_operatorsAt_9 : decode cX10_operatorsAt 9 = .ok (.istore 4, 2) := by decide +kernel
theorem dX10_operatorsAt_11 : decode cX10_operatorsAt 11 = .ok (.iload 4, 2) := by decide +kernel
theorem dX10_operatorsAt_13 : decode cX10_operatorsAt 13 = .ok (.iload_n 3, 1) := by decide +kernel
theorem dX10_operatorsAt_14 : decode cX10_operatorsAt 14 = .ok (.if_icmp .ge 33, 3) := by decide +kernel
theorem dX10_operatorsAt_17 : decode cX10_operatorsAt 17 = .ok (.aload_n 0, 1) := by decide +kernel
theorem dX10_operatorsAt_18 : decode cX10_operatorsAt 18 = .ok (.getfield 52, 3) := by decide +kernel
theorem dX10_operatorsAt_21 : decode cX10_operatorsAt 21 = .ok (.iload 4, 2) := by decide +kernel
theorem dX10_operatorsAt_23 : decode cX10_operatorsAt 23 = .ok (.iaload, 1) := by decide +kernel
theorem dX10_operatorsAt_24 : decode cX10_operatorsAt 24 = .ok (.sipush 512, 3) := by decide +kernel
theorem dX10_operatorsAt_27 : decode cX10_operatorsAt 27 = .ok (.if_icmp .lt 14, 3) := by decide +kernel
theorem dX10_operatorsAt_30 : decode cX10_operatorsAt 30 = .ok (.iload_n 2, 1) := by decide +kernel
theorem dX10_operatorsAt_31 : decode cX10_operatorsAt 31 = .ok (.iconst 1, 1) := by decide +kernel
theorem dX10_operatorsAt_32 : decode cX10_operatorsAt 32 = .ok (.aload_n 0, 1) := by decide +kernel
theorem dX10_operatorsAt_33 : decode cX10_operatorsAt 33 = .ok (.iload 4, 2) := by decide +kernel
theorem dX10_operatorsAt_35 : decode cX10_operatorsAt 35 = .ok (.invokevirtual 220, 3) := by decide +kernel
theorem dX10_operatorsAt_38 : decode cX10_operatorsAt 38 = .ok (.ishl, 1) := by decide +kernel
theorem dX10_operatorsAt_39 : decode cX10_operatorsAt 39 = .ok (.ior, 1) := by decide +kernel
theorem dX10_operatorsAt_40 : decode cX10_operatorsAt 40 = .ok (.istore_n 2, 1) := by decide +kernel
theorem dX10_operatorsAt_41 : decode cX10_operatorsAt 41 = .ok (.iinc 4 1, 3) := by decide +kernel
theorem dX10_operatorsAt_44 : decode cX10_operatorsAt 44 = .ok (.goto (-33), 3) := by decide +kernel
theorem dX10_operatorsAt_47 : decode cX10_operatorsAt 47 = .ok (.iload_n 2, 1) := by decide +kernel
theorem dX10_operatorsAt_48 : decode cX10_operatorsAt 48 = .ok (.ireturn, 1) := by decide +kernel
theorem dX10_variablesIn_0 : decode cX10_variablesIn 0 = .ok (.iconst 0, 1) := by decide +kernel
theorem dX10_variablesIn_1 : decode cX10_variablesIn 1 = .ok (.istore_n 2, 1) := by decide +kernel
theorem dX10_variablesIn_2 : decode cX10_variablesIn 2 = .ok (.aload_n 0, 1) := by decide +kernel
theorem dX10_variablesIn_3 : decode cX10_variablesIn 3 = .ok (.iload_n 1, 1) := by decide +kernel
theorem dX10_variablesIn_4 : decode cX10_variablesIn 4 = .ok (.invokevirtual 213, 3) := by decide +kernel
theorem dX10_variablesIn_7 : decode cX10_variablesIn 7 = .ok (.istore_n 3, 1) := by decide +kernel
theorem dX10_variablesIn_8 : decode cX10_variablesIn 8 = .ok (.iload_n 1, 1) := by decide +kernel
theorem dX10_variablesIn_9 : decode cX10_variablesIn 9 = .ok (.istore 4, 2) := by decide +kernel
theorem dX10_variablesIn_11 : decode cX10_variablesIn 11 = .ok (.iload 4, 2) := by decide +kernel
theorem dX10_variablesIn_13 : decode cX10_variablesIn 13 = .ok (.iload_n 3, 1) := by decide +kernel
theorem dX10_variablesIn_14 : decode cX10_variablesIn 14 = .ok (.if_icmp .ge 30, 3) := by decide +kernel
theorem dX10_variablesIn_17 : decode cX10_variablesIn 17 = .ok (.iload_n 2, 1) := by decide +kernel
theorem dX10_variablesIn_18 : decode cX10_variablesIn 18 = .ok (.aload_n 0, 1) := by decide +kernel
theorem dX10_variablesIn_19 : decode cX10_variablesIn 19 = .ok (.getfield 52, 3) := by decide +kernel
theorem dX10_variablesIn_22 : decode cX10_variablesIn 22 = .ok (.iload 4, 2) := by decide +kernel
theorem dX10_variablesIn_24 : decode cX10_variablesIn 24 = .ok (.iaload, 1) := by decide +kernel
theorem dX10_variablesIn_25 : decode cX10_variablesIn 25 = .ok (.sipush 512, 3) := by decide +kernel
theorem dX10_variablesIn_28 : decode cX10_variablesIn 28 = .ok (.if_icmp .ge 7, 3) := by decide +kernel
theorem dX10_variablesIn_31 : decode cX10_variablesIn 31 = .ok (.iconst 1, 1) := by decide +kernel
theorem dX10_variablesIn_32 : decode cX10_variablesIn 32 = .ok (.goto 4, 3) := by decide +kernel
theorem dX10_variablesIn_35 : decode cX10_variablesIn 35 = .ok (.iconst 0, 1) := by decide +kernel
theorem dX10_variablesIn_36 : decode cX10_variablesIn 36 = .ok (.iadd, 1) := by decide +kernel
theorem dX10_variablesIn_37 : decode cX10_variablesIn 37 = .ok (.istore_n 2, 1) := by decide +kernel
theorem dX10_variablesIn_38 : decode cX10_variablesIn 38 = .ok (.iinc 4 1, 3) := by decide +kernel
theorem dX10_variablesIn_41 : decode cX10_variablesIn 41 = .ok (.goto (-30), 3) := by decide +kernel
theorem dX10_variablesIn_44 : decode cX10_variablesIn 44 = .ok (.iload_n 2, 1) := by decide +kernel
theorem dX10_variablesIn_45 : decode cX10_variablesIn 45 = .ok (.ireturn, 1) := by decide +kernel
