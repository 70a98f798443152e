abbrev cX10_comparesFound : ByteArray := prog_12_method_49_code
def yX10_comparesFound : MethodName := ⟨RX10, "comparesFound", "(II)I"⟩
abbrev cX10_records : ByteArray := prog_12_method_50_code
def yX10_records : MethodName := ⟨RX10, "records", "()V"⟩
abbrev cX10_solves : ByteArray := prog_12_method_51_code
def yX10_solves : MethodName := ⟨RX10, "solves", "(I)V"⟩
abbrev cX10_byVariable : ByteArray := prog_12_method_52_code
def yX10_byVariable : MethodName := ⟨RX10, "byVariable", "(III)V"⟩
abbrev cX10_aims : ByteArray := prog_12_method_53_code
def yX10_aims : MethodName := ⟨RX10, "aims", "(III)V"⟩
abbrev cX10_byParts : ByteArray := prog_12_method_54_code
def yX10_byParts : MethodName := ⟨RX10, "byParts", "(III)V"⟩
abbrev cX10_byShares : ByteArray := prog_12_method_55_code
def yX10_byShares : MethodName := ⟨RX10, "byShares", "(III)V"⟩
abbrev cX10_isOne : ByteArray := prog_12_method_56_code
def yX10_isOne : MethodName := ⟨RX10, "isOne", "(I)Z"⟩
abbrev cX10_shares : ByteArray := prog_12_method_57_code
def yX10_shares : MethodName := ⟨RX10, "shares", "(IIIIII)V"⟩
abbrev cX10_manyTo : ByteArray := prog_12_method_58_code
def yX10_manyTo : MethodName := ⟨RX10, "manyTo", "(III)I"⟩
abbrev cX10_goesOn : ByteArray := prog_12_method_59_code
def yX10_goesOn : MethodName := ⟨RX10, "goesOn", "(IIIII)V"⟩
abbrev cX10_laysMatches : ByteArray := prog_12_method_60_code
def yX10_laysMatches : MethodName := ⟨RX10, "laysMatches", "(II)V"⟩
abbrev cX10_comparesStep : ByteArray := prog_12_method_63_code
def yX10_comparesStep : MethodName := ⟨RX10, "comparesStep", "(II)I"⟩
abbrev cX10_addsStep : ByteArray := prog_12_method_64_code
def yX10_addsStep : MethodName := ⟨RX10, "addsStep", "(IIII)V"⟩
abbrev cX10_goesAll : ByteArray := prog_12_method_65_code
def yX10_goesAll : MethodName := ⟨RX10, "goesAll", "(IIII)V"⟩
abbrev cX10_goesSome : ByteArray := prog_12_method_66_code
def yX10_goesSome : MethodName := ⟨RX10, "goesSome", "(IIIIII)V"⟩
abbrev cX10_laysSteps : ByteArray := prog_12_method_68_code
def yX10_laysSteps : MethodName := ⟨RX10, "laysSteps", "(IIZ)V"⟩
abbrev cX10_matches : ByteArray := prog_12_method_79_code
def yX10_matches : MethodName := ⟨RX10, "matches", "(II)I"⟩
abbrev cX10_bound : ByteArray := prog_12_method_81_code
def yX10_bound : MethodName := ⟨RX10, "bound", "(IIII)I"⟩
abbrev cX10_stepsOf : ByteArray := prog_12_method_85_code
def yX10_stepsOf : MethodName := ⟨RX10, "stepsOf", "(II)Z"⟩
abbrev cX10_steps : ByteArray := prog_12_method_86_code
def yX10_steps : MethodName := ⟨RX10, "steps", "(I)I"⟩
abbrev cX10_stepComes : ByteArray := prog_12_method_87_code
def yX10_stepComes : MethodName := ⟨RX10, "stepComes", "(I)I"⟩
abbrev cX10_step : ByteArray := prog_12_method_88_code
def yX10_step : MethodName := ⟨RX10, "step", "(II)I"⟩
abbrev cX10_stepAt : ByteArray := prog_12_method_89_code
def yX10_stepAt : MethodName := ⟨RX10, "stepAt", "(III)I"⟩
abbrev cX10_atTop : ByteArray := prog_12_method_90_code
def yX10_atTop : MethodName := ⟨RX10, "atTop", "(II)I"⟩
abbrev cX10_walk : ByteArray := prog_12_method_91_code
def yX10_walk : MethodName := ⟨RX10, "walk", "(I)I"⟩
abbrev cX10_reachAt : ByteArray := prog_12_method_92_code
def yX10_reachAt : MethodName := ⟨RX10, "reachAt", "(II)I"⟩
abbrev cX10_beginsReach : ByteArray := prog_12_method_93_code
def yX10_beginsReach : MethodName := ⟨RX10, "beginsReach", "(II)V"⟩
abbrev cX10_reachComes : ByteArray := prog_12_method_94_code
def yX10_reachComes : MethodName := ⟨RX10, "reachComes", "(II)I"⟩
abbrev cX10_isReached : ByteArray := prog_12_method_95_code
def yX10_isReached : MethodName := ⟨RX10, "isReached", "(II)Z"⟩
abbrev cX10_addsReach : ByteArray := prog_12_method_96_code
def yX10_addsReach : MethodName := ⟨RX10, "addsReach", "(II)V"⟩
abbrev cX10_goesReach : ByteArray := prog_12_method_97_code
def yX10_goesReach : MethodName := ⟨RX10, "goesReach", "(I)V"⟩
abbrev cX10_laysReach : ByteArray := prog_12_method_98_code
def yX10_laysReach : MethodName := ⟨RX10, "laysReach", "(IIZI)Z"⟩
abbrev cX10_isCounted : ByteArray := prog_12_method_99_code
def yX10_isCounted : MethodName := ⟨RX10, "isCounted", "(I)Z"⟩
abbrev cX10_noDepth : ByteArray := prog_12_method_100_code
def yX10_noDepth : MethodName := ⟨RX10, "noDepth", "(II)Z"⟩
abbrev cX10_reach : ByteArray := prog_12_method_101_code
def yX10_reach : MethodName := ⟨RX10, "reach", "(IIZ)I"⟩
abbrev cX10_reached : ByteArray := prog_12_method_102_code
def yX10_reached : MethodName := ⟨RX10, "reached", "(IIZI)I"⟩
abbrev cX10_doMeet : ByteArray := prog_12_method_103_code
def yX10_doMeet : MethodName := ⟨RX10, "doMeet", "()Z"⟩
abbrev cX10_meet : ByteArray := prog_12_method_104_code
def yX10_meet : MethodName := ⟨RX10, "meet", "(III)I"⟩
abbrev cX10_termsWith : ByteArray := prog_12_method_106_code
def yX10_termsWith : MethodName := ⟨RX10, "termsWith", "(I)I"⟩
abbrev cX10_operator : ByteArray := prog_12_method_107_code
def yX10_operator : MethodName := ⟨RX10, "operator", "(II)I"⟩
abbrev cX10_deepAt : ByteArray := prog_12_method_108_code
def yX10_deepAt : MethodName := ⟨RX10, "deepAt", "(I)I"⟩
abbrev cX10_partsWith : ByteArray := prog_12_method_109_code
def yX10_partsWith : MethodName := ⟨RX10, "partsWith", "(II)I"⟩
abbrev cX10_could : ByteArray := prog_12_method_110_code
def yX10_could : MethodName := ⟨RX10, "could", "(II)Z"⟩
abbrev cX10_couldAt : ByteArray := prog_12_method_111_code
def yX10_couldAt : MethodName := ⟨RX10, "couldAt", "(I)I"⟩
abbrev cX10_about : ByteArray := prog_12_method_113_code
def yX10_about : MethodName := ⟨RX10, "about", "(II)I"⟩
abbrev cX10_order : ByteArray := prog_12_method_114_code
def yX10_order : MethodName := ⟨RX10, "order", "(II)I"⟩
abbrev cX10_rank : ByteArray := prog_12_method_115_code
def yX10_rank : MethodName := ⟨RX10, "rank", "(I)I"⟩
abbrev cX10_normalTerms : ByteArray := prog_12_method_116_code
def yX10_normalTerms : MethodName := ⟨RX10, "normalTerms", "()I"⟩
abbrev cX10_greatest : ByteArray := prog_12_method_117_code
def yX10_greatest : MethodName := ⟨RX10, "greatest", "()I"⟩
abbrev cX10_allMatches : ByteArray := prog_12_method_118_code
def yX10_allMatches : MethodName := ⟨RX10, "allMatches", "()I"⟩
abbrev cX10_count : ByteArray := prog_12_method_119_code
def yX10_count : MethodName := ⟨RX10, "count", "(I)I"⟩
theorem dX10_comparesFound_0 : decode cX10_comparesFound 0 = .ok (.iconst 0, 1) := by decide +kernel
theorem dX10_comparesFound_1 : decode cX10_comparesFound 1 = .ok (.istore_n 3, 1) := by decide +kernel
theorem dX10_comparesFound_2 : decode cX10_comparesFound 2 = .ok (.iload_n 3, 1) := by decide +kernel
theorem dX10_comparesFound_3 : decode cX10_comparesFound 3 = .ok (.bipush 105, 2) := by decide +kernel
theorem dX10_comparesFound_5 : decode cX10_comparesFound 5 = .ok (.if_icmp .ge 59, 3) := by decide +kernel
theorem dX10_comparesFound_8 : decode cX10_comparesFound 8 = .ok (.aload_n 0, 1) := by decide +kernel
theorem dX10_comparesFound_9 : decode cX10_comparesFound 9 = .ok (.getfield 73, 3) := by decide +kernel
theorem dX10_comparesFound_12 : decode cX10_comparesFound 12 = .ok (.aload_n 0, 1) := by decide +kernel
theorem dX10_comparesFound_13 : decode cX10_comparesFound 13 = .ok (.iload_n 1, 1) := by decide +kernel
theorem dX10_comparesFound_14 : decode cX10_comparesFound 14 = .ok (.iconst 0, 1) := by decide +kernel
theorem dX10_comparesFound_15 : decode cX10_comparesFound 15 = .ok (.invokevirtual 284, 3) := by decide +kernel
theorem dX10_comparesFound_18 : decode cX10_comparesFound 18 = .ok (.iload_n 3, 1) := by decide +kernel
theorem dX10_comparesFound_19 : decode cX10_comparesFound 19 = .ok (.iadd, 1) := by decide +kernel
theorem dX10_comparesFound_20 : decode cX10_comparesFound 20 = .ok (.iaload, 1) := by decide +kernel
theorem dX10_comparesFound_21 : decode cX10_comparesFound 21 = .ok (.istore 4, 2) := by decide +kernel
theorem dX10_comparesFound_23 : decode cX10_comparesFound 23 = .ok (.aload_n 0, 1) := by decide +kernel
theorem dX10_comparesFound_24 : decode cX10_comparesFound 24 = .ok (.getfield 73, 3) := by decide +kernel
theorem dX10_comparesFound_27 : decode cX10_comparesFound 27 = .ok (.aload_n 0, 1) := by decide +kernel
theorem dX10_comparesFound_28 : decode cX10_comparesFound 28 = .ok (.iload_n 2, 1) := by decide +kernel
theorem dX10_comparesFound_29 : decode cX10_comparesFound 29 = .ok (.iconst 0, 1) := by decide +kernel
theorem dX10_comparesFound_30 : decode cX10_comparesFound 30 = .ok (.invokevirtual 284, 3) := by decide +kernel
theorem dX10_comparesFound_33 : decode cX10_comparesFound 33 = .ok (.iload_n 3, 1) := by decide +kernel
theorem dX10_comparesFound_34 : decode cX10_comparesFound 34 = .ok (.iadd, 1) := by decide +kernel
theorem dX10_comparesFound_35 : decode cX10_comparesFound 35 = .ok (.iaload, 1) := by decide +kernel
theorem dX10_comparesFound_36 : decode cX10_comparesFound 36 = .ok (.istore 5, 2) := by decide +kernel
theorem dX10_comparesFound_38 : decode cX10_comparesFound 38 = .ok (.iload 4, 2) := by decide +kernel
theorem dX10_comparesFound_40 : decode cX10_comparesFound 40 = .ok (.iload 5, 2) := by decide +kernel
theorem dX10_comparesFound_42 : decode cX10_comparesFound 42 = .ok (.if_icmp .eq 16, 3) := by decide +kernel
theorem dX10_comparesFound_45 : decode cX10_comparesFound 45 = .ok (.iload 4, 2) := by decide +kernel
theorem dX10_comparesFound_47 : decode cX10_comparesFound 47 = .ok (.iload 5, 2) := by decide +kernel
theorem dX10_comparesFound_49 : decode cX10_comparesFound 49 = .ok (.if_icmp .ge 7, 3) := by decide +kernel
theorem dX10_comparesFound_52 : decode cX10_comparesFound 52 = .ok (.iconst (-1), 1) := by decide +kernel
theorem dX10_comparesFound_53 : decode cX10_comparesFound 53 = .ok (.goto 4, 3) := by decide +kernel
theorem dX10_comparesFound_56 : decode cX10_comparesFound 56 = .ok (.iconst 1, 1) := by decide +kernel
theorem dX10_comparesFound_57 : decode cX10_comparesFound 57 = .ok (.ireturn, 1) := by decide +kernel
theorem dX10_comparesFound_58 : decode cX10_comparesFound 58 = .ok (.iinc 3 1, 3) := by decide +kernel
theorem dX10_comparesFound_61 : decode cX10_comparesFound 61 = .ok (.goto (-59), 3) := by decide +kernel
theorem dX10_comparesFound_64 : decode cX10_comparesFound 64 = .ok (.iconst 0, 1) := by decide +kernel
theorem dX10_comparesFound_65 : decode cX10_comparesFound 65 = .ok (.ireturn, 1) := by decide +kernel
theorem dX10_records_0 : decode cX10_records 0 = .ok (.aload_n 0, 1) := by decide +kernel
theorem dX10_records_1 : decode cX10_records 1 = .ok (.getfield 287, 3) := by decide +kernel
theorem dX10_records_4 : decode cX10_records 4 = .ok (.istore_n 1, 1) := by decide +kernel
theorem dX10_records_5 : decode cX10_records 5 = .ok (.iconst 0, 1) := by decide +kernel
theorem dX10_records_6 : decode cX10_records 6 = .ok (.istore_n 2, 1) := by decide +kernel
theorem dX10_records_7 : decode cX10_records 7 = .ok (.iload_n 2, 1) := by decide +kernel
theorem dX10_records_8 : decode cX10_records 8 = .ok (.bipush 105, 2) := by decide +kernel
theorem dX10_records_10 : decode cX10_records 10 = .ok (.if_icmp .ge 23, 3) := by decide +kernel
theorem dX10_records_13 : decode cX10_records 13 = .ok (.aload_n 0, 1) := by decide +kernel
theorem dX10_records_14 : decode cX10_records 14 = .ok (.getfield 73, 3) := by decide +kernel
theorem dX10_records_17 : decode cX10_records 17 = .ok (.aload_n 0, 1) := by decide +kernel
theorem dX10_records_18 : decode cX10_records 18 = .ok (.iload_n 1, 1) := by decide +kernel
theorem dX10_records_19 : decode cX10_records 19 = .ok (.iconst 0, 1) := by decide +kernel
theorem dX10_records_20 : decode cX10_records 20 = .ok (.invokevirtual 284, 3) := by decide +kernel
theorem dX10_records_23 : decode cX10_records 23 = .ok (.iload_n 2, 1) := by decide +kernel
theorem dX10_records_24 : decode cX10_records 24 = .ok (.iadd, 1) := by decide +kernel
theorem dX10_records_25 : decode cX10_records 25 = .ok (.iconst 0, 1) := by decide +kernel
theorem dX10_records_26 : decode cX10_records 26 = .ok (.iastore, 1) := by decide +kernel
theorem dX10_records_27 : decode cX10_records 27 = .ok (.iinc 2 1, 3) := by decide +kernel
theorem dX10_records_30 : decode cX10_records 30 = .ok (.goto (-23), 3) := by decide +kernel
theorem dX10_records_33 : decode cX10_records 33 = .ok (.iconst 0, 1) := by decide +kernel
theorem dX10_records_34 : decode cX10_records 34 = .ok (.istore_n 2, 1) := by decide +kernel
theorem dX10_records_35 : decode cX10_records 35 = .ok (.iload_n 2, 1) := by decide +kernel
theorem dX10_records_36 : decode cX10_records 36 = .ok (.iconst 5, 1) := by decide +kernel
theorem dX10_records_37 : decode cX10_records 37 = .ok (.if_icmp .ge 82, 3) := by decide +kernel
theorem dX10_records_40 : decode cX10_records 40 = .ok (.aload_n 0, 1) := by decide +kernel
theorem dX10_records_41 : decode cX10_records 41 = .ok (.getfield 290, 3) := by decide +kernel
theorem dX10_records_44 : decode cX10_records 44 = .ok (.iload_n 2, 1) := by decide +kernel
theorem dX10_records_45 : decode cX10_records 45 = .ok (.invokestatic 281, 3) := by decide +kernel
theorem dX10_records_48 : decode cX10_records 48 = .ok (.ifCond .ne 6, 3) := by decide +kernel
theorem dX10_records_51 : decode cX10_records 51 = .ok (.goto 62, 3) := by decide +kernel
theorem dX10_records_54 : decode cX10_records 54 = .ok (.aload_n 0, 1) := by decide +kernel
theorem dX10_records_55 : decode cX10_records 55 = .ok (.aload_n 0, 1) := by decide +kernel
theorem dX10_records_56 : decode cX10_records 56 = .ok (.getfield 67, 3) := by decide +kernel
theorem dX10_records_59 : decode cX10_records 59 = .ok (.iload_n 2, 1) := by decide +kernel
theorem dX10_records_60 : decode cX10_records 60 = .ok (.iaload, 1) := by decide +kernel
theorem dX10_records_61 : decode cX10_records 61 = .ok (.invokevirtual 213, 3) := by decide +kernel
theorem dX10_records_64 : decode cX10_records 64 = .ok (.istore_n 3, 1) := by decide +kernel
theorem dX10_records_65 : decode cX10_records 65 = .ok (.aload_n 0, 1) := by decide +kernel
theorem dX10_records_66 : decode cX10_records 66 = .ok (.getfield 67, 3) := by decide +kernel
theorem dX10_records_69 : decode cX10_records 69 = .ok (.iload_n 2, 1) := by decide +kernel
theorem dX10_records_70 : decode cX10_records 70 = .ok (.iaload, 1) := by decide +kernel
theorem dX10_records_71 : decode cX10_records 71 = .ok (.istore 4, 2) := by decide +kernel
theorem dX10_records_73 : decode cX10_records 73 = .ok (.iload 4, 2) := by decide +kernel
theorem dX10_records_75 : decode cX10_records 75 = .ok (.iload_n 3, 1) := by decide +kernel
theorem dX10_records_76 : decode cX10_records 76 = .ok (.if_icmp .ge 37, 3) := by decide +kernel
theorem dX10_records_79 : decode cX10_records 79 = .ok (.aload_n 0, 1) := by decide +kernel
theorem dX10_records_80 : decode cX10_records 80 = .ok (.getfield 73, 3) := by decide +kernel
theorem dX10_records_83 : decode cX10_records 83 = .ok (.aload_n 0, 1) := by decide +kernel
theorem dX10_records_84 : decode cX10_records 84 = .ok (.iload_n 1, 1) := by decide +kernel
theorem dX10_records_85 : decode cX10_records 85 = .ok (.iload_n 2, 1) := by decide +kernel
theorem dX10_records_86 : decode cX10_records 86 = .ok (.invokevirtual 284, 3) := by decide +kernel
theorem dX10_records_89 : decode cX10_records 89 = .ok (.iload 4, 2) := by decide +kernel
theorem dX10_records_91 : decode cX10_records 91 = .ok (.iadd, 1) := by decide +kernel
theorem dX10_records_92 : decode cX10_records 92 = .ok (.aload_n 0, 1) := by decide +kernel
theorem dX10_records_93 : decode cX10_records 93 = .ok (.getfield 67, 3) := by decide +kernel
theorem dX10_records_96 : decode cX10_records 96 = .ok (.iload_n 2, 1) := by decide +kernel
theorem dX10_records_97 : decode cX10_records 97 = .ok (.iaload, 1) := by decide +kernel
theorem dX10_records_98 : decode cX10_records 98 = .ok (.isub, 1) := by decide +kernel
theorem dX10_records_99 : decode cX10_records 99 = .ok (.aload_n 0, 1) := by decide +kernel
theorem dX10_records_100 : decode cX10_records 100 = .ok (.getfield 52, 3) := by decide +kernel
theorem dX10_records_103 : decode cX10_records 103 = .ok (.iload 4, 2) := by decide +kernel
theorem dX10_records_105 : decode cX10_records 105 = .ok (.iaload, 1) := by decide +kernel
theorem dX10_records_106 : decode cX10_records 106 = .ok (.iastore, 1) := by decide +kernel
theorem dX10_records_107 : decode cX10_records 107 = .ok (.iinc 4 1, 3) := by decide +kernel
theorem dX10_records_110 : decode cX10_records 110 = .ok (.goto (-37), 3) := by decide +kernel
theorem dX10_records_113 : decode cX10_records 113 = .ok (.iinc 2 1, 3) := by decide +kernel
theorem dX10_records_116 : decode cX10_records 116 = .ok (.goto (-81), 3) := by decide +kernel
theorem dX10_records_119 : decode cX10_records 119 = .ok (.iload_n 1, 1) := by decide +kernel
theorem dX10_records_120 : decode cX10_records 120 = .ok (.istore_n 2, 1) := by decide +kernel
theorem dX10_records_121 : decode cX10_records 121 = .ok (.iload_n 2, 1) := by decide +kernel
theorem dX10_records_122 : decode cX10_records 122 = .ok (.ifCond .le 20, 3) := by decide +kernel
theorem dX10_records_125 : decode cX10_records 125 = .ok (.aload_n 0, 1) := by decide +kernel
theorem dX10_records_126 : decode cX10_records 126 = .ok (.iload_n 2, 1) := by decide +kernel
theorem dX10_records_127 : decode cX10_records 127 = .ok (.iconst 1, 1) := by decide +kernel
theorem dX10_records_128 : decode cX10_records 128 = .ok (.isub, 1) := by decide +kernel
theorem dX10_records_129 : decode cX10_records 129 = .ok (.iload_n 1, 1) := by decide +kernel
theorem dX10_records_130 : decode cX10_records 130 = .ok (.invokevirtual 293, 3) := by decide +kernel
theorem dX10_records_133 : decode cX10_records 133 = .ok (.ifCond .le 9, 3) := by decide +kernel
theorem dX10_records_136 : decode cX10_records 136 = .ok (.iinc 2 (-1), 3) := by decide +kernel
theorem dX10_records_139 : decode cX10_records 139 = .ok (.goto (-18), 3) := by decide +kernel
theorem dX10_records_142 : decode cX10_records 142 = .ok (.iload_n 2, 1) := by decide +kernel
theorem dX10_records_143 : decode cX10_records 143 = .ok (.ifCond .le 15, 3) := by decide +kernel
theorem dX10_records_146 : decode cX10_records 146 = .ok (.aload_n 0, 1) := by decide +kernel
theorem dX10_records_147 : decode cX10_records 147 = .ok (.iload_n 2, 1) := by decide +kernel
theorem dX10_records_148 : decode cX10_records 148 = .ok (.iconst 1, 1) := by decide +kernel
theorem dX10_records_149 : decode cX10_records 149 = .ok (.isub, 1) := by decide +kernel
theorem dX10_records_150 : decode cX10_records 150 = .ok (.iload_n 1, 1) := by decide +kernel
theorem dX10_records_151 : decode cX10_records 151 = .ok (.invokevirtual 293, 3) := by decide +kernel
theorem dX10_records_154 : decode cX10_records 154 = .ok (.ifCond .ne 4, 3) := by decide +kernel
theorem dX10_records_157 : decode cX10_records 157 = .ok (.return_, 1) := by decide +kernel
theorem dX10_records_158 : decode cX10_records 158 = .ok (.iload_n 1, 1) := by decide +kernel
theorem dX10_records_159 : decode cX10_records 159 = .ok (.sipush 300, 3) := by decide +kernel
theorem dX10_records_162 : decode cX10_records 162 = .ok (.if_icmp .ne 9, 3) := by decide +kernel
theorem dX10_records_165 : decode cX10_records 165 = .ok (.aload_n 0, 1) := by decide +kernel
theorem dX10_records_166 : decode cX10_records 166 = .ok (.iconst 1, 1) := by decide +kernel
theorem dX10_records_167 : decode cX10_records 167 = .ok (.putfield 296, 3) := by decide +kernel
theorem dX10_records_170 : decode cX10_records 170 = .ok (.return_, 1) := by decide +kernel
theorem dX10_records_171 : decode cX10_records 171 = .ok (.iconst 0, 1) := by decide +kernel
theorem dX10_records_172 : decode cX10_records 172 = .ok (.istore_n 3, 1) := by decide +kernel
theorem dX10_records_173 : decode cX10_records 173 = .ok (.iload_n 3, 1) := by decide +kernel
theorem dX10_records_174 : decode cX10_records 174 = .ok (.bipush 105, 2) := by decide +kernel
theorem dX10_records_176 : decode cX10_records 176 = .ok (.if_icmp .ge 37, 3) := by decide +kernel
theorem dX10_records_179 : decode cX10_records 179 = .ok (.aload_n 0, 1) := by decide +kernel
theorem dX10_records_180 : decode cX10_records 180 = .ok (.getfield 73, 3) := by decide +kernel
theorem dX10_records_183 : decode cX10_records 183 = .ok (.aload_n 0, 1) := by decide +kernel
theorem dX10_records_184 : decode cX10_records 184 = .ok (.sipush 301, 3) := by decide +kernel
theorem dX10_records_187 : decode cX10_records 187 = .ok (.iconst 0, 1) := by decide +kernel
theorem dX10_records_188 : decode cX10_records 188 = .ok (.invokevirtual 284, 3) := by decide +kernel
theorem dX10_records_191 : decode cX10_records 191 = .ok (.iload_n 3, 1) := by decide +kernel
theorem dX10_records_192 : decode cX10_records 192 = .ok (.iadd, 1) := by decide +kernel
theorem dX10_records_193 : decode cX10_records 193 = .ok (.aload_n 0, 1) := by decide +kernel
theorem dX10_records_194 : decode cX10_records 194 = .ok (.getfield 73, 3) := by decide +kernel
theorem dX10_records_197 : decode cX10_records 197 = .ok (.aload_n 0, 1) := by decide +kernel
theorem dX10_records_198 : decode cX10_records 198 = .ok (.iload_n 1, 1) := by decide +kernel
theorem dX10_records_199 : decode cX10_records 199 = .ok (.iconst 0, 1) := by decide +kernel
theorem dX10_records_200 : decode cX10_records 200 = .ok (.invokevirtual 284, 3) := by decide +kernel
theorem dX10_records_203 : decode cX10_records 203 = .ok (.iload_n 3, 1) := by decide +kernel
theorem dX10_records_204 : decode cX10_records 204 = .ok (.iadd, 1) := by decide +kernel
theorem dX10_records_205 : decode cX10_records 205 = .ok (.iaload, 1) := by decide +kernel
theorem dX10_records_206 : decode cX10_records 206 = .ok (.iastore, 1) := by decide +kernel
theorem dX10_records_207 : decode cX10_records 207 = .ok (.iinc 3 1, 3) := by decide +kernel
theorem dX10_records_210 : decode cX10_records 210 = .ok (.goto (-37), 3) := by decide +kernel
theorem dX10_records_213 : decode cX10_records 213 = .ok (.aload_n 0, 1) := by decide +kernel
theorem dX10_records_214 : decode cX10_records 214 = .ok (.iload_n 1, 1) := by decide +kernel
theorem dX10_records_215 : decode cX10_records 215 = .ok (.iconst 0, 1) := by decide +kernel
theorem dX10_records_216 : decode cX10_records 216 = .ok (.invokevirtual 284, 3) := by decide +kernel
theorem dX10_records_219 : decode cX10_records 219 = .ok (.iconst 1, 1) := by decide +kernel
theorem dX10_records_220 : decode cX10_records 220 = .ok (.isub, 1) := by decide +kernel
theorem dX10_records_221 : decode cX10_records 221 = .ok (.istore_n 3, 1) := by decide +kernel
theorem dX10_records_222 : decode cX10_records 222 = .ok (.iload_n 3, 1) := by decide +kernel
theorem dX10_records_223 : decode cX10_records 223 = .ok (.aload_n 0, 1) := by decide +kernel
theorem dX10_records_224 : decode cX10_records 224 = .ok (.iload_n 2, 1) := by decide +kernel
theorem dX10_records_225 : decode cX10_records 225 = .ok (.iconst 0, 1) := by decide +kernel
theorem dX10_records_226 : decode cX10_records 226 = .ok (.invokevirtual 284, 3) := by decide +kernel
theorem dX10_records_229 : decode cX10_records 229 = .ok (.if_icmp .lt 24, 3) := by decide +kernel
theorem dX10_records_232 : decode cX10_records 232 = .ok (.aload_n 0, 1) := by decide +kernel
theorem dX10_records_233 : decode cX10_records 233 = .ok (.getfield 73, 3) := by decide +kernel
theorem dX10_records_236 : decode cX10_records 236 = .ok (.iload_n 3, 1) := by decide +kernel
theorem dX10_records_237 : decode cX10_records 237 = .ok (.bipush 105, 2) := by decide +kernel
theorem dX10_records_239 : decode cX10_records 239 = .ok (.iadd, 1) := by decide +kernel
theorem dX10_records_240 : decode cX10_records 240 = .ok (.aload_n 0, 1) := by decide +kernel
theorem dX10_records_241 : decode cX10_records 241 = .ok (.getfield 73, 3) := by decide +kernel
theorem dX10_records_244 : decode cX10_records 244 = .ok (.iload_n 3, 1) := by decide +kernel
theorem dX10_records_245 : decode cX10_records 245 = .ok (.iaload, 1) := by decide +kernel
theorem dX10_records_246 : decode cX10_records 246 = .ok (.iastore, 1) := by decide +kernel
theorem dX10_records_247 : decode cX10_records 247 = .ok (.iinc 3 (-1), 3) := by decide +kernel
theorem dX10_records_250 : decode cX10_records 250 = .ok (.goto (-28), 3) := by decide +kernel
theorem dX10_records_253 : decode cX10_records 253 = .ok (.iconst 0, 1) := by decide +kernel
theorem dX10_records_254 : decode cX10_records 254 = .ok (.istore_n 3, 1) := by decide +kernel
theorem dX10_records_255 : decode cX10_records 255 = .ok (.iload_n 3, 1) := by decide +kernel
theorem dX10_records_256 : decode cX10_records 256 = .ok (.bipush 105, 2) := by decide +kernel
theorem dX10_records_258 : decode cX10_records 258 = .ok (.if_icmp .ge 37, 3) := by decide +kernel
theorem dX10_records_261 : decode cX10_records 261 = .ok (.aload_n 0, 1) := by decide +kernel
theorem dX10_records_262 : decode cX10_records 262 = .ok (.getfield 73, 3) := by decide +kernel
theorem dX10_records_265 : decode cX10_records 265 = .ok (.aload_n 0, 1) := by decide +kernel
theorem dX10_records_266 : decode cX10_records 266 = .ok (.iload_n 2, 1) := by decide +kernel
theorem dX10_records_267 : decode cX10_records 267 = .ok (.iconst 0, 1) := by decide +kernel
theorem dX10_records_268 : decode cX10_records 268 = .ok (.invokevirtual 284, 3) := by decide +kernel
theorem dX10_records_271 : decode cX10_records 271 = .ok (.iload_n 3, 1) := by decide +kernel
theorem dX10_records_272 : decode cX10_records 272 = .ok (.iadd, 1) := by decide +kernel
theorem dX10_records_273 : decode cX10_records 273 = .ok (.aload_n 0, 1) := by decide +kernel
theorem dX10_records_274 : decode cX10_records 274 = .ok (.getfield 73, 3) := by decide +kernel
theorem dX10_records_277 : decode cX10_records 277 = .ok (.aload_n 0, 1) := by decide +kernel
theorem dX10_records_278 : decode cX10_records 278 = .ok (.sipush 301, 3) := by decide +kernel
theorem dX10_records_281 : decode cX10_records 281 = .ok (.iconst 0, 1) := by decide +kernel
theorem dX10_records_282 : decode cX10_records 282 = .ok (.invokevirtual 284, 3) := by decide +kernel
theorem dX10_records_285 : decode cX10_records 285 = .ok (.iload_n 3, 1) := by decide +kernel
theorem dX10_records_286 : decode cX10_records 286 = .ok (.iadd, 1) := by decide +kernel
theorem dX10_records_287 : decode cX10_records 287 = .ok (.iaload, 1) := by decide +kernel
theorem dX10_records_288 : decode cX10_records 288 = .ok (.iastore, 1) := by decide +kernel
theorem dX10_records_289 : decode cX10_records 289 = .ok (.iinc 3 1, 3) := by decide +kernel
theorem dX10_records_292 : decode cX10_records 292 = .ok (.goto (-37), 3) := by decide +kernel
theorem dX10_records_295 : decode cX10_records 295 = .ok (.aload_n 0, 1) := by decide +kernel
theorem dX10_records_296 : decode cX10_records 296 = .ok (.dup, 1) := by decide +kernel
theorem dX10_records_297 : decode cX10_records 297 = .ok (.getfield 287, 3) := by decide +kernel
theorem dX10_records_300 : decode cX10_records 300 = .ok (.iconst 1, 1) := by decide +kernel
theorem dX10_records_301 : decode cX10_records 301 = .ok (.iadd, 1) := by decide +kernel
theorem dX10_records_302 : decode cX10_records 302 = .ok (.putfield 287, 3) := by decide +kernel
theorem dX10_records_305 : decode cX10_records 305 = .ok (.return_, 1) := by decide +kernel
theorem dX10_solves_0 : decode cX10_solves 0 = .ok (.aload_n 0, 1) := by decide +kernel
theorem dX10_solves_1 : decode cX10_solves 1 = .ok (.getfield 296, 3) := by decide +kernel
theorem dX10_solves_4 : decode cX10_solves 4 = .ok (.ifCond .eq 4, 3) := by decide +kernel
theorem dX10_solves_7 : decode cX10_solves 7 = .ok (.return_, 1) := by decide +kernel
theorem dX10_solves_8 : decode cX10_solves 8 = .ok (.iload_n 1, 1) := by decide +kernel
theorem dX10_solves_9 : decode cX10_solves 9 = .ok (.ifCond .ne 8, 3) := by decide +kernel
theorem dX10_solves_12 : decode cX10_solves 12 = .ok (.aload_n 0, 1) := by decide +kernel
theorem dX10_solves_13 : decode cX10_solves 13 = .ok (.invokevirtual 299, 3) := by decide +kernel
theorem dX10_solves_16 : decode cX10_solves 16 = .ok (.return_, 1) := by decide +kernel
theorem dX10_solves_17 : decode cX10_solves 17 = .ok (.iload_n 1, 1) := by decide +kernel
theorem dX10_solves_18 : decode cX10_solves 18 = .ok (.iconst 1, 1) := by decide +kernel
theorem dX10_solves_19 : decode cX10_solves 19 = .ok (.isub, 1) := by decide +kernel
theorem dX10_solves_20 : decode cX10_solves 20 = .ok (.istore_n 2, 1) := by decide +kernel
theorem dX10_solves_21 : decode cX10_solves 21 = .ok (.aload_n 0, 1) := by decide +kernel
theorem dX10_solves_22 : decode cX10_solves 22 = .ok (.getfield 61, 3) := by decide +kernel
theorem dX10_solves_25 : decode cX10_solves 25 = .ok (.iload_n 2, 1) := by decide +kernel
theorem dX10_solves_26 : decode cX10_solves 26 = .ok (.iaload, 1) := by decide +kernel
theorem dX10_solves_27 : decode cX10_solves 27 = .ok (.istore_n 3, 1) := by decide +kernel
theorem dX10_solves_28 : decode cX10_solves 28 = .ok (.aload_n 0, 1) := by decide +kernel
theorem dX10_solves_29 : decode cX10_solves 29 = .ok (.getfield 64, 3) := by decide +kernel
theorem dX10_solves_32 : decode cX10_solves 32 = .ok (.iload_n 2, 1) := by decide +kernel
theorem dX10_solves_33 : decode cX10_solves 33 = .ok (.iaload, 1) := by decide +kernel
theorem dX10_solves_34 : decode cX10_solves 34 = .ok (.istore 4, 2) := by decide +kernel
theorem dX10_solves_36 : decode cX10_solves 36 = .ok (.aload_n 0, 1) := by decide +kernel
theorem dX10_solves_37 : decode cX10_solves 37 = .ok (.getfield 52, 3) := by decide +kernel
theorem dX10_solves_40 : decode cX10_solves 40 = .ok (.iload_n 3, 1) := by decide +kernel
theorem dX10_solves_41 : decode cX10_solves 41 = .ok (.iaload, 1) := by decide +kernel
theorem dX10_solves_42 : decode cX10_solves 42 = .ok (.sipush 512, 3) := by decide +kernel
theorem dX10_solves_45 : decode cX10_solves 45 = .ok (.if_icmp .ge 19, 3) := by decide +kernel
theorem dX10_solves_48 : decode cX10_solves 48 = .ok (.aload_n 0, 1) := by decide +kernel
theorem dX10_solves_49 : decode cX10_solves 49 = .ok (.iload_n 2, 1) := by decide +kernel
theorem dX10_solves_50 : decode cX10_solves 50 = .ok (.aload_n 0, 1) := by decide +kernel
theorem dX10_solves_51 : decode cX10_solves 51 = .ok (.getfield 52, 3) := by decide +kernel
theorem dX10_solves_54 : decode cX10_solves 54 = .ok (.iload_n 3, 1) := by decide +kernel
theorem dX10_solves_55 : decode cX10_solves 55 = .ok (.iaload, 1) := by decide +kernel
theorem dX10_solves_56 : decode cX10_solves 56 = .ok (.iload 4, 2) := by decide +kernel
theorem dX10_solves_58 : decode cX10_solves 58 = .ok (.invokevirtual 302, 3) := by decide +kernel
theorem dX10_solves_61 : decode cX10_solves 61 = .ok (.goto 52, 3) := by decide +kernel

theorem dX10_solves_64 : decode cX10_solves 64 = .ok (.aload_n 0, 1) := by decide +kernel
theorem dX10_solves_65 : decode cX10_solves 65 = .ok (.getfield 33, 3) := by decide +kernel
theorem dX10_solves_68 : decode cX10_solves 68 = .ok (.aload_n 0, 1) := by decide +kernel
theorem dX10_solves_69 : decode cX10_solves 69 = .ok (.iload_n 3, 1) := by decide +kernel
theorem dX10_solves_70 : decode cX10_solves 70 = .ok (.invokevirtual 220, 3) := by decide +kernel
theorem dX10_solves_73 : decode cX10_solves 73 = .ok (.iaload, 1) := by decide +kernel
theorem dX10_solves_74 : decode cX10_solves 74 = .ok (.iconst 2, 1) := by decide +kernel
theorem dX10_solves_75 : decode cX10_solves 75 = .ok (.if_icmp .ne 14, 3) := by decide +kernel
theorem dX10_solves_78 : decode cX10_solves 78 = .ok (.aload_n 0, 1) := by decide +kernel
theorem dX10_solves_79 : decode cX10_solves 79 = .ok (.iload_n 2, 1) := by decide +kernel
theorem dX10_solves_80 : decode cX10_solves 80 = .ok (.iload_n 3, 1) := by decide +kernel
theorem dX10_solves_81 : decode cX10_solves 81 = .ok (.iload 4, 2) := by decide +kernel
theorem dX10_solves_83 : decode cX10_solves 83 = .ok (.invokevirtual 306, 3) := by decide +kernel
theorem dX10_solves_86 : decode cX10_solves 86 = .ok (.goto 27, 3) := by decide +kernel
theorem dX10_solves_89 : decode cX10_solves 89 = .ok (.aload_n 0, 1) := by decide +kernel
theorem dX10_solves_90 : decode cX10_solves 90 = .ok (.getfield 52, 3) := by decide +kernel
theorem dX10_solves_93 : decode cX10_solves 93 = .ok (.iload_n 3, 1) := by decide +kernel
theorem dX10_solves_94 : decode cX10_solves 94 = .ok (.iaload, 1) := by decide +kernel
theorem dX10_solves_95 : decode cX10_solves 95 = .ok (.aload_n 0, 1) := by decide +kernel
theorem dX10_solves_96 : decode cX10_solves 96 = .ok (.getfield 52, 3) := by decide +kernel
theorem dX10_solves_99 : decode cX10_solves 99 = .ok (.iload 4, 2) := by decide +kernel
theorem dX10_solves_101 : decode cX10_solves 101 = .ok (.iaload, 1) := by decide +kernel
theorem dX10_solves_102 : decode cX10_solves 102 = .ok (.if_icmp .ne 11, 3) := by decide +kernel
theorem dX10_solves_105 : decode cX10_solves 105 = .ok (.aload_n 0, 1) := by decide +kernel
theorem dX10_solves_106 : decode cX10_solves 106 = .ok (.iload_n 2, 1) := by decide +kernel
theorem dX10_solves_107 : decode cX10_solves 107 = .ok (.iload_n 3, 1) := by decide +kernel
theorem dX10_solves_108 : decode cX10_solves 108 = .ok (.iload 4, 2) := by decide +kernel
theorem dX10_solves_110 : decode cX10_solves 110 = .ok (.invokevirtual 309, 3) := by decide +kernel
theorem dX10_solves_113 : decode cX10_solves 113 = .ok (.aload_n 0, 1) := by decide +kernel
theorem dX10_solves_114 : decode cX10_solves 114 = .ok (.getfield 61, 3) := by decide +kernel
theorem dX10_solves_117 : decode cX10_solves 117 = .ok (.iload_n 2, 1) := by decide +kernel
theorem dX10_solves_118 : decode cX10_solves 118 = .ok (.iload_n 3, 1) := by decide +kernel
theorem dX10_solves_119 : decode cX10_solves 119 = .ok (.iastore, 1) := by decide +kernel
theorem dX10_solves_120 : decode cX10_solves 120 = .ok (.aload_n 0, 1) := by decide +kernel
theorem dX10_solves_121 : decode cX10_solves 121 = .ok (.getfield 64, 3) := by decide +kernel
theorem dX10_solves_124 : decode cX10_solves 124 = .ok (.iload_n 2, 1) := by decide +kernel
theorem dX10_solves_125 : decode cX10_solves 125 = .ok (.iload 4, 2) := by decide +kernel
theorem dX10_solves_127 : decode cX10_solves 127 = .ok (.iastore, 1) := by decide +kernel
theorem dX10_solves_128 : decode cX10_solves 128 = .ok (.return_, 1) := by decide +kernel
theorem dX10_byVariable_0 : decode cX10_byVariable 0 = .ok (.aload_n 0, 1) := by decide +kernel
theorem dX10_byVariable_1 : decode cX10_byVariable 1 = .ok (.getfield 67, 3) := by decide +kernel
theorem dX10_byVariable_4 : decode cX10_byVariable 4 = .ok (.iload_n 2, 1) := by decide +kernel
theorem dX10_byVariable_5 : decode cX10_byVariable 5 = .ok (.iaload, 1) := by decide +kernel
theorem dX10_byVariable_6 : decode cX10_byVariable 6 = .ok (.iconst (-1), 1) := by decide +kernel
theorem dX10_byVariable_7 : decode cX10_byVariable 7 = .ok (.if_icmp .eq 23, 3) := by decide +kernel
theorem dX10_byVariable_10 : decode cX10_byVariable 10 = .ok (.aload_n 0, 1) := by decide +kernel
theorem dX10_byVariable_11 : decode cX10_byVariable 11 = .ok (.aload_n 0, 1) := by decide +kernel
theorem dX10_byVariable_12 : decode cX10_byVariable 12 = .ok (.getfield 67, 3) := by decide +kernel
theorem dX10_byVariable_15 : decode cX10_byVariable 15 = .ok (.iload_n 2, 1) := by decide +kernel
theorem dX10_byVariable_16 : decode cX10_byVariable 16 = .ok (.iaload, 1) := by decide +kernel
theorem dX10_byVariable_17 : decode cX10_byVariable 17 = .ok (.iload_n 3, 1) := by decide +kernel
theorem dX10_byVariable_18 : decode cX10_byVariable 18 = .ok (.invokevirtual 248, 3) := by decide +kernel
theorem dX10_byVariable_21 : decode cX10_byVariable 21 = .ok (.ifCond .eq 8, 3) := by decide +kernel
theorem dX10_byVariable_24 : decode cX10_byVariable 24 = .ok (.aload_n 0, 1) := by decide +kernel
theorem dX10_byVariable_25 : decode cX10_byVariable 25 = .ok (.iload_n 1, 1) := by decide +kernel
theorem dX10_byVariable_26 : decode cX10_byVariable 26 = .ok (.invokevirtual 312, 3) := by decide +kernel
theorem dX10_byVariable_29 : decode cX10_byVariable 29 = .ok (.return_, 1) := by decide +kernel
theorem dX10_byVariable_30 : decode cX10_byVariable 30 = .ok (.aload_n 0, 1) := by decide +kernel
theorem dX10_byVariable_31 : decode cX10_byVariable 31 = .ok (.getfield 67, 3) := by decide +kernel
theorem dX10_byVariable_34 : decode cX10_byVariable 34 = .ok (.iload_n 2, 1) := by decide +kernel
theorem dX10_byVariable_35 : decode cX10_byVariable 35 = .ok (.iload_n 3, 1) := by decide +kernel
theorem dX10_byVariable_36 : decode cX10_byVariable 36 = .ok (.iastore, 1) := by decide +kernel
theorem dX10_byVariable_37 : decode cX10_byVariable 37 = .ok (.aload_n 0, 1) := by decide +kernel
theorem dX10_byVariable_38 : decode cX10_byVariable 38 = .ok (.iload_n 1, 1) := by decide +kernel
theorem dX10_byVariable_39 : decode cX10_byVariable 39 = .ok (.invokevirtual 312, 3) := by decide +kernel
theorem dX10_byVariable_42 : decode cX10_byVariable 42 = .ok (.aload_n 0, 1) := by decide +kernel
theorem dX10_byVariable_43 : decode cX10_byVariable 43 = .ok (.getfield 67, 3) := by decide +kernel
theorem dX10_byVariable_46 : decode cX10_byVariable 46 = .ok (.iload_n 2, 1) := by decide +kernel
theorem dX10_byVariable_47 : decode cX10_byVariable 47 = .ok (.iconst (-1), 1) := by decide +kernel
theorem dX10_byVariable_48 : decode cX10_byVariable 48 = .ok (.iastore, 1) := by decide +kernel
theorem dX10_byVariable_49 : decode cX10_byVariable 49 = .ok (.return_, 1) := by decide +kernel
theorem dX10_aims_0 : decode cX10_aims 0 = .ok (.aload_n 0, 1) := by decide +kernel
theorem dX10_aims_1 : decode cX10_aims 1 = .ok (.getfield 61, 3) := by decide +kernel
theorem dX10_aims_4 : decode cX10_aims 4 = .ok (.iload_n 1, 1) := by decide +kernel
theorem dX10_aims_5 : decode cX10_aims 5 = .ok (.iload_n 2, 1) := by decide +kernel
theorem dX10_aims_6 : decode cX10_aims 6 = .ok (.iastore, 1) := by decide +kernel
theorem dX10_aims_7 : decode cX10_aims 7 = .ok (.aload_n 0, 1) := by decide +kernel
theorem dX10_aims_8 : decode cX10_aims 8 = .ok (.getfield 64, 3) := by decide +kernel
theorem dX10_aims_11 : decode cX10_aims 11 = .ok (.iload_n 1, 1) := by decide +kernel
theorem dX10_aims_12 : decode cX10_aims 12 = .ok (.iload_n 3, 1) := by decide +kernel
theorem dX10_aims_13 : decode cX10_aims 13 = .ok (.iastore, 1) := by decide +kernel
theorem dX10_aims_14 : decode cX10_aims 14 = .ok (.return_, 1) := by decide +kernel
theorem dX10_byParts_0 : decode cX10_byParts 0 = .ok (.aload_n 0, 1) := by decide +kernel
theorem dX10_byParts_1 : decode cX10_byParts 1 = .ok (.iload_n 2, 1) := by decide +kernel
theorem dX10_byParts_2 : decode cX10_byParts 2 = .ok (.invokevirtual 209, 3) := by decide +kernel
theorem dX10_byParts_5 : decode cX10_byParts 5 = .ok (.istore 4, 2) := by decide +kernel
theorem dX10_byParts_7 : decode cX10_byParts 7 = .ok (.aload_n 0, 1) := by decide +kernel
theorem dX10_byParts_8 : decode cX10_byParts 8 = .ok (.getfield 33, 3) := by decide +kernel
theorem dX10_byParts_11 : decode cX10_byParts 11 = .ok (.aload_n 0, 1) := by decide +kernel
theorem dX10_byParts_12 : decode cX10_byParts 12 = .ok (.iload_n 2, 1) := by decide +kernel
theorem dX10_byParts_13 : decode cX10_byParts 13 = .ok (.invokevirtual 220, 3) := by decide +kernel
theorem dX10_byParts_16 : decode cX10_byParts 16 = .ok (.iaload, 1) := by decide +kernel
theorem dX10_byParts_17 : decode cX10_byParts 17 = .ok (.ifCond .ne 66, 3) := by decide +kernel
theorem dX10_byParts_20 : decode cX10_byParts 20 = .ok (.iload_n 2, 1) := by decide +kernel
theorem dX10_byParts_21 : decode cX10_byParts 21 = .ok (.iconst 1, 1) := by decide +kernel
theorem dX10_byParts_22 : decode cX10_byParts 22 = .ok (.iadd, 1) := by decide +kernel
theorem dX10_byParts_23 : decode cX10_byParts 23 = .ok (.istore 5, 2) := by decide +kernel
theorem dX10_byParts_25 : decode cX10_byParts 25 = .ok (.iload_n 3, 1) := by decide +kernel
theorem dX10_byParts_26 : decode cX10_byParts 26 = .ok (.iconst 1, 1) := by decide +kernel
theorem dX10_byParts_27 : decode cX10_byParts 27 = .ok (.iadd, 1) := by decide +kernel
theorem dX10_byParts_28 : decode cX10_byParts 28 = .ok (.istore 6, 2) := by decide +kernel
theorem dX10_byParts_30 : decode cX10_byParts 30 = .ok (.iconst 0, 1) := by decide +kernel
theorem dX10_byParts_31 : decode cX10_byParts 31 = .ok (.istore 7, 2) := by decide +kernel
theorem dX10_byParts_33 : decode cX10_byParts 33 = .ok (.iload 7, 2) := by decide +kernel
theorem dX10_byParts_35 : decode cX10_byParts 35 = .ok (.iload 4, 2) := by decide +kernel
theorem dX10_byParts_37 : decode cX10_byParts 37 = .ok (.if_icmp .ge 37, 3) := by decide +kernel
theorem dX10_byParts_40 : decode cX10_byParts 40 = .ok (.aload_n 0, 1) := by decide +kernel
theorem dX10_byParts_41 : decode cX10_byParts 41 = .ok (.iload_n 1, 1) := by decide +kernel
theorem dX10_byParts_42 : decode cX10_byParts 42 = .ok (.iload 7, 2) := by decide +kernel
theorem dX10_byParts_44 : decode cX10_byParts 44 = .ok (.iadd, 1) := by decide +kernel
theorem dX10_byParts_45 : decode cX10_byParts 45 = .ok (.iload 5, 2) := by decide +kernel
theorem dX10_byParts_47 : decode cX10_byParts 47 = .ok (.iload 6, 2) := by decide +kernel
theorem dX10_byParts_49 : decode cX10_byParts 49 = .ok (.invokevirtual 315, 3) := by decide +kernel
theorem dX10_byParts_52 : decode cX10_byParts 52 = .ok (.aload_n 0, 1) := by decide +kernel
theorem dX10_byParts_53 : decode cX10_byParts 53 = .ok (.iload 5, 2) := by decide +kernel
theorem dX10_byParts_55 : decode cX10_byParts 55 = .ok (.invokevirtual 213, 3) := by decide +kernel
theorem dX10_byParts_58 : decode cX10_byParts 58 = .ok (.istore 5, 2) := by decide +kernel
theorem dX10_byParts_60 : decode cX10_byParts 60 = .ok (.aload_n 0, 1) := by decide +kernel
theorem dX10_byParts_61 : decode cX10_byParts 61 = .ok (.iload 6, 2) := by decide +kernel
theorem dX10_byParts_63 : decode cX10_byParts 63 = .ok (.invokevirtual 213, 3) := by decide +kernel
theorem dX10_byParts_66 : decode cX10_byParts 66 = .ok (.istore 6, 2) := by decide +kernel
theorem dX10_byParts_68 : decode cX10_byParts 68 = .ok (.iinc 7 1, 3) := by decide +kernel
theorem dX10_byParts_71 : decode cX10_byParts 71 = .ok (.goto (-38), 3) := by decide +kernel
theorem dX10_byParts_74 : decode cX10_byParts 74 = .ok (.aload_n 0, 1) := by decide +kernel
theorem dX10_byParts_75 : decode cX10_byParts 75 = .ok (.iload_n 1, 1) := by decide +kernel
theorem dX10_byParts_76 : decode cX10_byParts 76 = .ok (.iload 4, 2) := by decide +kernel
theorem dX10_byParts_78 : decode cX10_byParts 78 = .ok (.iadd, 1) := by decide +kernel
theorem dX10_byParts_79 : decode cX10_byParts 79 = .ok (.invokevirtual 312, 3) := by decide +kernel
theorem dX10_byParts_82 : decode cX10_byParts 82 = .ok (.return_, 1) := by decide +kernel
theorem dX10_byParts_83 : decode cX10_byParts 83 = .ok (.aload_n 0, 1) := by decide +kernel
theorem dX10_byParts_84 : decode cX10_byParts 84 = .ok (.iload_n 1, 1) := by decide +kernel
theorem dX10_byParts_85 : decode cX10_byParts 85 = .ok (.iload_n 2, 1) := by decide +kernel
theorem dX10_byParts_86 : decode cX10_byParts 86 = .ok (.iconst 1, 1) := by decide +kernel
theorem dX10_byParts_87 : decode cX10_byParts 87 = .ok (.iadd, 1) := by decide +kernel
theorem dX10_byParts_88 : decode cX10_byParts 88 = .ok (.iload_n 3, 1) := by decide +kernel
theorem dX10_byParts_89 : decode cX10_byParts 89 = .ok (.iconst 1, 1) := by decide +kernel
theorem dX10_byParts_90 : decode cX10_byParts 90 = .ok (.iadd, 1) := by decide +kernel
theorem dX10_byParts_91 : decode cX10_byParts 91 = .ok (.invokevirtual 315, 3) := by decide +kernel
theorem dX10_byParts_94 : decode cX10_byParts 94 = .ok (.aload_n 0, 1) := by decide +kernel
theorem dX10_byParts_95 : decode cX10_byParts 95 = .ok (.iload_n 1, 1) := by decide +kernel
theorem dX10_byParts_96 : decode cX10_byParts 96 = .ok (.iconst 1, 1) := by decide +kernel
theorem dX10_byParts_97 : decode cX10_byParts 97 = .ok (.iadd, 1) := by decide +kernel
theorem dX10_byParts_98 : decode cX10_byParts 98 = .ok (.aload_n 0, 1) := by decide +kernel
theorem dX10_byParts_99 : decode cX10_byParts 99 = .ok (.iload_n 2, 1) := by decide +kernel
theorem dX10_byParts_100 : decode cX10_byParts 100 = .ok (.iconst 1, 1) := by decide +kernel
theorem dX10_byParts_101 : decode cX10_byParts 101 = .ok (.iadd, 1) := by decide +kernel
theorem dX10_byParts_102 : decode cX10_byParts 102 = .ok (.invokevirtual 213, 3) := by decide +kernel
theorem dX10_byParts_105 : decode cX10_byParts 105 = .ok (.aload_n 0, 1) := by decide +kernel
theorem dX10_byParts_106 : decode cX10_byParts 106 = .ok (.iload_n 3, 1) := by decide +kernel
theorem dX10_byParts_107 : decode cX10_byParts 107 = .ok (.iconst 1, 1) := by decide +kernel
theorem dX10_byParts_108 : decode cX10_byParts 108 = .ok (.iadd, 1) := by decide +kernel
theorem dX10_byParts_109 : decode cX10_byParts 109 = .ok (.invokevirtual 213, 3) := by decide +kernel
theorem dX10_byParts_112 : decode cX10_byParts 112 = .ok (.invokevirtual 315, 3) := by decide +kernel
theorem dX10_byParts_115 : decode cX10_byParts 115 = .ok (.aload_n 0, 1) := by decide +kernel
theorem dX10_byParts_116 : decode cX10_byParts 116 = .ok (.iload_n 1, 1) := by decide +kernel
theorem dX10_byParts_117 : decode cX10_byParts 117 = .ok (.iconst 2, 1) := by decide +kernel
theorem dX10_byParts_118 : decode cX10_byParts 118 = .ok (.iadd, 1) := by decide +kernel
theorem dX10_byParts_119 : decode cX10_byParts 119 = .ok (.invokevirtual 312, 3) := by decide +kernel
theorem dX10_byParts_122 : decode cX10_byParts 122 = .ok (.aload_n 0, 1) := by decide +kernel
theorem dX10_byParts_123 : decode cX10_byParts 123 = .ok (.iload_n 1, 1) := by decide +kernel
theorem dX10_byParts_124 : decode cX10_byParts 124 = .ok (.iload_n 2, 1) := by decide +kernel
theorem dX10_byParts_125 : decode cX10_byParts 125 = .ok (.iconst 1, 1) := by decide +kernel
theorem dX10_byParts_126 : decode cX10_byParts 126 = .ok (.iadd, 1) := by decide +kernel
theorem dX10_byParts_127 : decode cX10_byParts 127 = .ok (.aload_n 0, 1) := by decide +kernel
theorem dX10_byParts_128 : decode cX10_byParts 128 = .ok (.iload_n 3, 1) := by decide +kernel
theorem dX10_byParts_129 : decode cX10_byParts 129 = .ok (.iconst 1, 1) := by decide +kernel
theorem dX10_byParts_130 : decode cX10_byParts 130 = .ok (.iadd, 1) := by decide +kernel
theorem dX10_byParts_131 : decode cX10_byParts 131 = .ok (.invokevirtual 213, 3) := by decide +kernel
theorem dX10_byParts_134 : decode cX10_byParts 134 = .ok (.invokevirtual 315, 3) := by decide +kernel
theorem dX10_byParts_137 : decode cX10_byParts 137 = .ok (.aload_n 0, 1) := by decide +kernel
theorem dX10_byParts_138 : decode cX10_byParts 138 = .ok (.iload_n 1, 1) := by decide +kernel
theorem dX10_byParts_139 : decode cX10_byParts 139 = .ok (.iconst 1, 1) := by decide +kernel
theorem dX10_byParts_140 : decode cX10_byParts 140 = .ok (.iadd, 1) := by decide +kernel
theorem dX10_byParts_141 : decode cX10_byParts 141 = .ok (.aload_n 0, 1) := by decide +kernel
theorem dX10_byParts_142 : decode cX10_byParts 142 = .ok (.iload_n 2, 1) := by decide +kernel
theorem dX10_byParts_143 : decode cX10_byParts 143 = .ok (.iconst 1, 1) := by decide +kernel
theorem dX10_byParts_144 : decode cX10_byParts 144 = .ok (.iadd, 1) := by decide +kernel
theorem dX10_byParts_145 : decode cX10_byParts 145 = .ok (.invokevirtual 213, 3) := by decide +kernel
theorem dX10_byParts_148 : decode cX10_byParts 148 = .ok (.iload_n 3, 1) := by decide +kernel
theorem dX10_byParts_149 : decode cX10_byParts 149 = .ok (.iconst 1, 1) := by decide +kernel
theorem dX10_byParts_150 : decode cX10_byParts 150 = .ok (.iadd, 1) := by decide +kernel
theorem dX10_byParts_151 : decode cX10_byParts 151 = .ok (.invokevirtual 315, 3) := by decide +kernel
theorem dX10_byParts_154 : decode cX10_byParts 154 = .ok (.aload_n 0, 1) := by decide +kernel
theorem dX10_byParts_155 : decode cX10_byParts 155 = .ok (.iload_n 1, 1) := by decide +kernel
theorem dX10_byParts_156 : decode cX10_byParts 156 = .ok (.iconst 2, 1) := by decide +kernel
theorem dX10_byParts_157 : decode cX10_byParts 157 = .ok (.iadd, 1) := by decide +kernel
theorem dX10_byParts_158 : decode cX10_byParts 158 = .ok (.invokevirtual 312, 3) := by decide +kernel
theorem dX10_byParts_161 : decode cX10_byParts 161 = .ok (.return_, 1) := by decide +kernel
theorem dX10_byShares_0 : decode cX10_byShares 0 = .ok (.aload_n 0, 1) := by decide +kernel
theorem dX10_byShares_1 : decode cX10_byShares 1 = .ok (.iload_n 2, 1) := by decide +kernel
theorem dX10_byShares_2 : decode cX10_byShares 2 = .ok (.invokevirtual 220, 3) := by decide +kernel
theorem dX10_byShares_5 : decode cX10_byShares 5 = .ok (.istore 4, 2) := by decide +kernel
theorem dX10_byShares_7 : decode cX10_byShares 7 = .ok (.aload_n 0, 1) := by decide +kernel
theorem dX10_byShares_8 : decode cX10_byShares 8 = .ok (.getfield 318, 3) := by decide +kernel
theorem dX10_byShares_11 : decode cX10_byShares 11 = .ok (.istore 5, 2) := by decide +kernel
theorem dX10_byShares_13 : decode cX10_byShares 13 = .ok (.aload_n 0, 1) := by decide +kernel
theorem dX10_byShares_14 : decode cX10_byShares 14 = .ok (.iload_n 2, 1) := by decide +kernel
theorem dX10_byShares_15 : decode cX10_byShares 15 = .ok (.invokevirtual 209, 3) := by decide +kernel
theorem dX10_byShares_18 : decode cX10_byShares 18 = .ok (.istore 6, 2) := by decide +kernel
theorem dX10_byShares_20 : decode cX10_byShares 20 = .ok (.iload_n 2, 1) := by decide +kernel
theorem dX10_byShares_21 : decode cX10_byShares 21 = .ok (.iconst 1, 1) := by decide +kernel
theorem dX10_byShares_22 : decode cX10_byShares 22 = .ok (.iadd, 1) := by decide +kernel
theorem dX10_byShares_23 : decode cX10_byShares 23 = .ok (.istore 7, 2) := by decide +kernel
theorem dX10_byShares_25 : decode cX10_byShares 25 = .ok (.iconst 0, 1) := by decide +kernel
theorem dX10_byShares_26 : decode cX10_byShares 26 = .ok (.istore 8, 2) := by decide +kernel
theorem dX10_byShares_28 : decode cX10_byShares 28 = .ok (.iload 8, 2) := by decide +kernel
theorem dX10_byShares_30 : decode cX10_byShares 30 = .ok (.iload 6, 2) := by decide +kernel
theorem dX10_byShares_32 : decode cX10_byShares 32 = .ok (.if_icmp .ge 38, 3) := by decide +kernel
theorem dX10_byShares_35 : decode cX10_byShares 35 = .ok (.aload_n 0, 1) := by decide +kernel
theorem dX10_byShares_36 : decode cX10_byShares 36 = .ok (.getfield 70, 3) := by decide +kernel
theorem dX10_byShares_39 : decode cX10_byShares 39 = .ok (.aload_n 0, 1) := by decide +kernel
theorem dX10_byShares_40 : decode cX10_byShares 40 = .ok (.getfield 318, 3) := by decide +kernel
theorem dX10_byShares_43 : decode cX10_byShares 43 = .ok (.iload 7, 2) := by decide +kernel
theorem dX10_byShares_45 : decode cX10_byShares 45 = .ok (.iastore, 1) := by decide +kernel
theorem dX10_byShares_46 : decode cX10_byShares 46 = .ok (.aload_n 0, 1) := by decide +kernel
theorem dX10_byShares_47 : decode cX10_byShares 47 = .ok (.dup, 1) := by decide +kernel
theorem dX10_byShares_48 : decode cX10_byShares 48 = .ok (.getfield 318, 3) := by decide +kernel
theorem dX10_byShares_51 : decode cX10_byShares 51 = .ok (.iconst 1, 1) := by decide +kernel
theorem dX10_byShares_52 : decode cX10_byShares 52 = .ok (.iadd, 1) := by decide +kernel
theorem dX10_byShares_53 : decode cX10_byShares 53 = .ok (.putfield 318, 3) := by decide +kernel
theorem dX10_byShares_56 : decode cX10_byShares 56 = .ok (.aload_n 0, 1) := by decide +kernel
theorem dX10_byShares_57 : decode cX10_byShares 57 = .ok (.iload 7, 2) := by decide +kernel
theorem dX10_byShares_59 : decode cX10_byShares 59 = .ok (.invokevirtual 213, 3) := by decide +kernel
theorem dX10_byShares_62 : decode cX10_byShares 62 = .ok (.istore 7, 2) := by decide +kernel
theorem dX10_byShares_64 : decode cX10_byShares 64 = .ok (.iinc 8 1, 3) := by decide +kernel
theorem dX10_byShares_67 : decode cX10_byShares 67 = .ok (.goto (-39), 3) := by decide +kernel
theorem dX10_byShares_70 : decode cX10_byShares 70 = .ok (.iconst 0, 1) := by decide +kernel
theorem dX10_byShares_71 : decode cX10_byShares 71 = .ok (.istore 8, 2) := by decide +kernel
theorem dX10_byShares_73 : decode cX10_byShares 73 = .ok (.aload_n 0, 1) := by decide +kernel
theorem dX10_byShares_74 : decode cX10_byShares 74 = .ok (.iload_n 3, 1) := by decide +kernel
theorem dX10_byShares_75 : decode cX10_byShares 75 = .ok (.invokevirtual 220, 3) := by decide +kernel
theorem dX10_byShares_78 : decode cX10_byShares 78 = .ok (.iload 4, 2) := by decide +kernel
theorem dX10_byShares_80 : decode cX10_byShares 80 = .ok (.if_icmp .ne 63, 3) := by decide +kernel
theorem dX10_byShares_83 : decode cX10_byShares 83 = .ok (.iload_n 3, 1) := by decide +kernel
theorem dX10_byShares_84 : decode cX10_byShares 84 = .ok (.iconst 1, 1) := by decide +kernel
theorem dX10_byShares_85 : decode cX10_byShares 85 = .ok (.iadd, 1) := by decide +kernel
theorem dX10_byShares_86 : decode cX10_byShares 86 = .ok (.istore 9, 2) := by decide +kernel
theorem dX10_byShares_88 : decode cX10_byShares 88 = .ok (.aload_n 0, 1) := by decide +kernel
theorem dX10_byShares_89 : decode cX10_byShares 89 = .ok (.iload_n 3, 1) := by decide +kernel
theorem dX10_byShares_90 : decode cX10_byShares 90 = .ok (.invokevirtual 209, 3) := by decide +kernel
theorem dX10_byShares_93 : decode cX10_byShares 93 = .ok (.istore 8, 2) := by decide +kernel
theorem dX10_byShares_95 : decode cX10_byShares 95 = .ok (.iconst 0, 1) := by decide +kernel
theorem dX10_byShares_96 : decode cX10_byShares 96 = .ok (.istore 10, 2) := by decide +kernel
theorem dX10_byShares_98 : decode cX10_byShares 98 = .ok (.iload 10, 2) := by decide +kernel
theorem dX10_byShares_100 : decode cX10_byShares 100 = .ok (.iload 8, 2) := by decide +kernel
theorem dX10_byShares_102 : decode cX10_byShares 102 = .ok (.if_icmp .ge 38, 3) := by decide +kernel
theorem dX10_byShares_105 : decode cX10_byShares 105 = .ok (.aload_n 0, 1) := by decide +kernel
theorem dX10_byShares_106 : decode cX10_byShares 106 = .ok (.getfield 70, 3) := by decide +kernel
theorem dX10_byShares_109 : decode cX10_byShares 109 = .ok (.aload_n 0, 1) := by decide +kernel
theorem dX10_byShares_110 : decode cX10_byShares 110 = .ok (.getfield 318, 3) := by decide +kernel
theorem dX10_byShares_113 : decode cX10_byShares 113 = .ok (.iload 9, 2) := by decide +kernel
theorem dX10_byShares_115 : decode cX10_byShares 115 = .ok (.iastore, 1) := by decide +kernel
theorem dX10_byShares_116 : decode cX10_byShares 116 = .ok (.aload_n 0, 1) := by decide +kernel
theorem dX10_byShares_117 : decode cX10_byShares 117 = .ok (.dup, 1) := by decide +kernel
theorem dX10_byShares_118 : decode cX10_byShares 118 = .ok (.getfield 318, 3) := by decide +kernel
theorem dX10_byShares_121 : decode cX10_byShares 121 = .ok (.iconst 1, 1) := by decide +kernel
theorem dX10_byShares_122 : decode cX10_byShares 122 = .ok (.iadd, 1) := by decide +kernel
theorem dX10_byShares_123 : decode cX10_byShares 123 = .ok (.putfield 318, 3) := by decide +kernel
theorem dX10_byShares_126 : decode cX10_byShares 126 = .ok (.aload_n 0, 1) := by decide +kernel
theorem dX10_byShares_127 : decode cX10_byShares 127 = .ok (.iload 9, 2) := by decide +kernel
theorem dX10_byShares_129 : decode cX10_byShares 129 = .ok (.invokevirtual 213, 3) := by decide +kernel
theorem dX10_byShares_132 : decode cX10_byShares 132 = .ok (.istore 9, 2) := by decide +kernel
theorem dX10_byShares_134 : decode cX10_byShares 134 = .ok (.iinc 10 1, 3) := by decide +kernel
theorem dX10_byShares_137 : decode cX10_byShares 137 = .ok (.goto (-39), 3) := by decide +kernel
theorem dX10_byShares_140 : decode cX10_byShares 140 = .ok (.goto 57, 3) := by decide +kernel
theorem dX10_byShares_143 : decode cX10_byShares 143 = .ok (.aload_n 0, 1) := by decide +kernel
theorem dX10_byShares_144 : decode cX10_byShares 144 = .ok (.getfield 39, 3) := by decide +kernel
theorem dX10_byShares_147 : decode cX10_byShares 147 = .ok (.iload 4, 2) := by decide +kernel
theorem dX10_byShares_149 : decode cX10_byShares 149 = .ok (.iaload, 1) := by decide +kernel
theorem dX10_byShares_150 : decode cX10_byShares 150 = .ok (.iconst (-1), 1) := by decide +kernel
theorem dX10_byShares_151 : decode cX10_byShares 151 = .ok (.if_icmp .eq 23, 3) := by decide +kernel
theorem dX10_byShares_154 : decode cX10_byShares 154 = .ok (.aload_n 0, 1) := by decide +kernel
theorem dX10_byShares_155 : decode cX10_byShares 155 = .ok (.getfield 52, 3) := by decide +kernel
theorem dX10_byShares_158 : decode cX10_byShares 158 = .ok (.iload_n 3, 1) := by decide +kernel
theorem dX10_byShares_159 : decode cX10_byShares 159 = .ok (.iaload, 1) := by decide +kernel
theorem dX10_byShares_160 : decode cX10_byShares 160 = .ok (.aload_n 0, 1) := by decide +kernel
theorem dX10_byShares_161 : decode cX10_byShares 161 = .ok (.getfield 39, 3) := by decide +kernel
theorem dX10_byShares_164 : decode cX10_byShares 164 = .ok (.iload 4, 2) := by decide +kernel
theorem dX10_byShares_166 : decode cX10_byShares 166 = .ok (.iaload, 1) := by decide +kernel
theorem dX10_byShares_167 : decode cX10_byShares 167 = .ok (.iconst 0, 1) := by decide +kernel
theorem dX10_byShares_168 : decode cX10_byShares 168 = .ok (.invokestatic 223, 3) := by decide +kernel
theorem dX10_byShares_171 : decode cX10_byShares 171 = .ok (.if_icmp .eq 26, 3) := by decide +kernel
theorem dX10_byShares_174 : decode cX10_byShares 174 = .ok (.aload_n 0, 1) := by decide +kernel
theorem dX10_byShares_175 : decode cX10_byShares 175 = .ok (.getfield 70, 3) := by decide +kernel
theorem dX10_byShares_178 : decode cX10_byShares 178 = .ok (.aload_n 0, 1) := by decide +kernel
theorem dX10_byShares_179 : decode cX10_byShares 179 = .ok (.getfield 318, 3) := by decide +kernel
theorem dX10_byShares_182 : decode cX10_byShares 182 = .ok (.iload_n 3, 1) := by decide +kernel
theorem dX10_byShares_183 : decode cX10_byShares 183 = .ok (.iastore, 1) := by decide +kernel
theorem dX10_byShares_184 : decode cX10_byShares 184 = .ok (.aload_n 0, 1) := by decide +kernel
theorem dX10_byShares_185 : decode cX10_byShares 185 = .ok (.dup, 1) := by decide +kernel
theorem dX10_byShares_186 : decode cX10_byShares 186 = .ok (.getfield 318, 3) := by decide +kernel
theorem dX10_byShares_189 : decode cX10_byShares 189 = .ok (.iconst 1, 1) := by decide +kernel
theorem dX10_byShares_190 : decode cX10_byShares 190 = .ok (.iadd, 1) := by decide +kernel
theorem dX10_byShares_191 : decode cX10_byShares 191 = .ok (.putfield 318, 3) := by decide +kernel
theorem dX10_byShares_194 : decode cX10_byShares 194 = .ok (.iconst 1, 1) := by decide +kernel
theorem dX10_byShares_195 : decode cX10_byShares 195 = .ok (.istore 8, 2) := by decide +kernel
theorem dX10_byShares_197 : decode cX10_byShares 197 = .ok (.aload_n 0, 1) := by decide +kernel
theorem dX10_byShares_198 : decode cX10_byShares 198 = .ok (.dup, 1) := by decide +kernel
theorem dX10_byShares_199 : decode cX10_byShares 199 = .ok (.getfield 318, 3) := by decide +kernel
theorem dX10_byShares_202 : decode cX10_byShares 202 = .ok (.iload 8, 2) := by decide +kernel
theorem dX10_byShares_204 : decode cX10_byShares 204 = .ok (.iadd, 1) := by decide +kernel
theorem dX10_byShares_205 : decode cX10_byShares 205 = .ok (.putfield 318, 3) := by decide +kernel
theorem dX10_byShares_208 : decode cX10_byShares 208 = .ok (.aload_n 0, 1) := by decide +kernel
theorem dX10_byShares_209 : decode cX10_byShares 209 = .ok (.getfield 39, 3) := by decide +kernel
theorem dX10_byShares_212 : decode cX10_byShares 212 = .ok (.iload 4, 2) := by decide +kernel
theorem dX10_byShares_214 : decode cX10_byShares 214 = .ok (.iaload, 1) := by decide +kernel
theorem dX10_byShares_215 : decode cX10_byShares 215 = .ok (.iconst (-1), 1) := by decide +kernel
theorem dX10_byShares_216 : decode cX10_byShares 216 = .ok (.if_icmp .ne 10, 3) := by decide +kernel
theorem dX10_byShares_219 : decode cX10_byShares 219 = .ok (.iload 8, 2) := by decide +kernel
theorem dX10_byShares_221 : decode cX10_byShares 221 = .ok (.iload 6, 2) := by decide +kernel
theorem dX10_byShares_223 : decode cX10_byShares 223 = .ok (.if_icmp .lt 17, 3) := by decide +kernel
theorem dX10_byShares_226 : decode cX10_byShares 226 = .ok (.aload_n 0, 1) := by decide +kernel
theorem dX10_byShares_227 : decode cX10_byShares 227 = .ok (.iload_n 1, 1) := by decide +kernel
theorem dX10_byShares_228 : decode cX10_byShares 228 = .ok (.iload 4, 2) := by decide +kernel
theorem dX10_byShares_230 : decode cX10_byShares 230 = .ok (.iload 5, 2) := by decide +kernel
theorem dX10_byShares_232 : decode cX10_byShares 232 = .ok (.iload 6, 2) := by decide +kernel
theorem dX10_byShares_234 : decode cX10_byShares 234 = .ok (.iload 8, 2) := by decide +kernel
theorem dX10_byShares_236 : decode cX10_byShares 236 = .ok (.iconst 0, 1) := by decide +kernel
theorem dX10_byShares_237 : decode cX10_byShares 237 = .ok (.invokevirtual 321, 3) := by decide +kernel
theorem dX10_byShares_240 : decode cX10_byShares 240 = .ok (.aload_n 0, 1) := by decide +kernel
theorem dX10_byShares_241 : decode cX10_byShares 241 = .ok (.iload 5, 2) := by decide +kernel
theorem dX10_byShares_243 : decode cX10_byShares 243 = .ok (.putfield 318, 3) := by decide +kernel
theorem dX10_byShares_246 : decode cX10_byShares 246 = .ok (.return_, 1) := by decide +kernel
theorem dX10_isOne_0 : decode cX10_isOne 0 = .ok (.aload_n 0, 1) := by decide +kernel
theorem dX10_isOne_1 : decode cX10_isOne 1 = .ok (.getfield 52, 3) := by decide +kernel
theorem dX10_isOne_4 : decode cX10_isOne 4 = .ok (.iload_n 1, 1) := by decide +kernel
theorem dX10_isOne_5 : decode cX10_isOne 5 = .ok (.iaload, 1) := by decide +kernel
theorem dX10_isOne_6 : decode cX10_isOne 6 = .ok (.sipush 512, 3) := by decide +kernel
theorem dX10_isOne_9 : decode cX10_isOne 9 = .ok (.if_icmp .lt 35, 3) := by decide +kernel
theorem dX10_isOne_12 : decode cX10_isOne 12 = .ok (.aload_n 0, 1) := by decide +kernel
theorem dX10_isOne_13 : decode cX10_isOne 13 = .ok (.getfield 33, 3) := by decide +kernel
theorem dX10_isOne_16 : decode cX10_isOne 16 = .ok (.aload_n 0, 1) := by decide +kernel
theorem dX10_isOne_17 : decode cX10_isOne 17 = .ok (.iload_n 1, 1) := by decide +kernel
theorem dX10_isOne_18 : decode cX10_isOne 18 = .ok (.invokevirtual 220, 3) := by decide +kernel
theorem dX10_isOne_21 : decode cX10_isOne 21 = .ok (.iaload, 1) := by decide +kernel
theorem dX10_isOne_22 : decode cX10_isOne 22 = .ok (.iconst 2, 1) := by decide +kernel
theorem dX10_isOne_23 : decode cX10_isOne 23 = .ok (.if_icmp .ne 17, 3) := by decide +kernel
theorem dX10_isOne_26 : decode cX10_isOne 26 = .ok (.aload_n 0, 1) := by decide +kernel
theorem dX10_isOne_27 : decode cX10_isOne 27 = .ok (.getfield 39, 3) := by decide +kernel
theorem dX10_isOne_30 : decode cX10_isOne 30 = .ok (.aload_n 0, 1) := by decide +kernel
theorem dX10_isOne_31 : decode cX10_isOne 31 = .ok (.iload_n 1, 1) := by decide +kernel
theorem dX10_isOne_32 : decode cX10_isOne 32 = .ok (.invokevirtual 220, 3) := by decide +kernel
theorem dX10_isOne_35 : decode cX10_isOne 35 = .ok (.iaload, 1) := by decide +kernel
theorem dX10_isOne_36 : decode cX10_isOne 36 = .ok (.iconst (-1), 1) := by decide +kernel
theorem dX10_isOne_37 : decode cX10_isOne 37 = .ok (.if_icmp .ne 7, 3) := by decide +kernel
theorem dX10_isOne_40 : decode cX10_isOne 40 = .ok (.iconst 1, 1) := by decide +kernel
theorem dX10_isOne_41 : decode cX10_isOne 41 = .ok (.goto 4, 3) := by decide +kernel
theorem dX10_isOne_44 : decode cX10_isOne 44 = .ok (.iconst 0, 1) := by decide +kernel
theorem dX10_isOne_45 : decode cX10_isOne 45 = .ok (.ireturn, 1) := by decide +kernel
theorem dX10_shares_0 : decode cX10_shares 0 = .ok (.aload_n 0, 1) := by decide +kernel
theorem dX10_shares_1 : decode cX10_shares 1 = .ok (.getfield 296, 3) := by decide +kernel
theorem dX10_shares_4 : decode cX10_shares 4 = .ok (.ifCond .eq 4, 3) := by decide +kernel
theorem dX10_shares_7 : decode cX10_shares 7 = .ok (.return_, 1) := by decide +kernel
theorem dX10_shares_8 : decode cX10_shares 8 = .ok (.iload 6, 2) := by decide +kernel
theorem dX10_shares_10 : decode cX10_shares 10 = .ok (.iload 5, 2) := by decide +kernel
theorem dX10_shares_12 : decode cX10_shares 12 = .ok (.if_icmp .ne 15, 3) := by decide +kernel
theorem dX10_shares_15 : decode cX10_shares 15 = .ok (.aload_n 0, 1) := by decide +kernel
theorem dX10_shares_16 : decode cX10_shares 16 = .ok (.iload_n 1, 1) := by decide +kernel
theorem dX10_shares_17 : decode cX10_shares 17 = .ok (.iload_n 2, 1) := by decide +kernel
theorem dX10_shares_18 : decode cX10_shares 18 = .ok (.iload_n 3, 1) := by decide +kernel
theorem dX10_shares_19 : decode cX10_shares 19 = .ok (.iload 4, 2) := by decide +kernel
theorem dX10_shares_21 : decode cX10_shares 21 = .ok (.iload 5, 2) := by decide +kernel
theorem dX10_shares_23 : decode cX10_shares 23 = .ok (.invokevirtual 325, 3) := by decide +kernel
theorem dX10_shares_26 : decode cX10_shares 26 = .ok (.return_, 1) := by decide +kernel
theorem dX10_shares_27 : decode cX10_shares 27 = .ok (.aload_n 0, 1) := by decide +kernel
theorem dX10_shares_28 : decode cX10_shares 28 = .ok (.getfield 70, 3) := by decide +kernel
theorem dX10_shares_31 : decode cX10_shares 31 = .ok (.iload_n 3, 1) := by decide +kernel
theorem dX10_shares_32 : decode cX10_shares 32 = .ok (.iload 4, 2) := by decide +kernel
theorem dX10_shares_34 : decode cX10_shares 34 = .ok (.iadd, 1) := by decide +kernel
theorem dX10_shares_35 : decode cX10_shares 35 = .ok (.iload 6, 2) := by decide +kernel
theorem dX10_shares_37 : decode cX10_shares 37 = .ok (.iadd, 1) := by decide +kernel
theorem dX10_shares_38 : decode cX10_shares 38 = .ok (.iaload, 1) := by decide +kernel
theorem dX10_shares_39 : decode cX10_shares 39 = .ok (.istore 7, 2) := by decide +kernel
theorem dX10_shares_41 : decode cX10_shares 41 = .ok (.iload_n 3, 1) := by decide +kernel
theorem dX10_shares_42 : decode cX10_shares 42 = .ok (.iload 4, 2) := by decide +kernel
theorem dX10_shares_44 : decode cX10_shares 44 = .ok (.iadd, 1) := by decide +kernel
theorem dX10_shares_45 : decode cX10_shares 45 = .ok (.iload 5, 2) := by decide +kernel
theorem dX10_shares_47 : decode cX10_shares 47 = .ok (.iadd, 1) := by decide +kernel
theorem dX10_shares_48 : decode cX10_shares 48 = .ok (.istore 8, 2) := by decide +kernel
theorem dX10_shares_50 : decode cX10_shares 50 = .ok (.iload 6, 2) := by decide +kernel
theorem dX10_shares_52 : decode cX10_shares 52 = .ok (.ifCond .le 41, 3) := by decide +kernel
theorem dX10_shares_55 : decode cX10_shares 55 = .ok (.aload_n 0, 1) := by decide +kernel
theorem dX10_shares_56 : decode cX10_shares 56 = .ok (.aload_n 0, 1) := by decide +kernel
theorem dX10_shares_57 : decode cX10_shares 57 = .ok (.getfield 70, 3) := by decide +kernel
theorem dX10_shares_60 : decode cX10_shares 60 = .ok (.iload_n 3, 1) := by decide +kernel
theorem dX10_shares_61 : decode cX10_shares 61 = .ok (.iload 4, 2) := by decide +kernel
theorem dX10_shares_63 : decode cX10_shares 63 = .ok (.iadd, 1) := by decide +kernel
theorem dX10_shares_64 : decode cX10_shares 64 = .ok (.iload 6, 2) := by decide +kernel
theorem dX10_shares_66 : decode cX10_shares 66 = .ok (.iadd, 1) := by decide +kernel
theorem dX10_shares_67 : decode cX10_shares 67 = .ok (.iconst 1, 1) := by decide +kernel
theorem dX10_shares_68 : decode cX10_shares 68 = .ok (.isub, 1) := by decide +kernel
theorem dX10_shares_69 : decode cX10_shares 69 = .ok (.iaload, 1) := by decide +kernel
theorem dX10_shares_70 : decode cX10_shares 70 = .ok (.iload 7, 2) := by decide +kernel
theorem dX10_shares_72 : decode cX10_shares 72 = .ok (.invokevirtual 248, 3) := by decide +kernel
theorem dX10_shares_75 : decode cX10_shares 75 = .ok (.ifCond .eq 18, 3) := by decide +kernel
theorem dX10_shares_78 : decode cX10_shares 78 = .ok (.aload_n 0, 1) := by decide +kernel
theorem dX10_shares_79 : decode cX10_shares 79 = .ok (.getfield 70, 3) := by decide +kernel
theorem dX10_shares_82 : decode cX10_shares 82 = .ok (.iload 8, 2) := by decide +kernel
theorem dX10_shares_84 : decode cX10_shares 84 = .ok (.iload 6, 2) := by decide +kernel
theorem dX10_shares_86 : decode cX10_shares 86 = .ok (.iadd, 1) := by decide +kernel
theorem dX10_shares_87 : decode cX10_shares 87 = .ok (.iconst 1, 1) := by decide +kernel
theorem dX10_shares_88 : decode cX10_shares 88 = .ok (.isub, 1) := by decide +kernel
theorem dX10_shares_89 : decode cX10_shares 89 = .ok (.iaload, 1) := by decide +kernel
theorem dX10_shares_90 : decode cX10_shares 90 = .ok (.goto 4, 3) := by decide +kernel
theorem dX10_shares_93 : decode cX10_shares 93 = .ok (.iconst 0, 1) := by decide +kernel
theorem dX10_shares_94 : decode cX10_shares 94 = .ok (.istore 9, 2) := by decide +kernel
theorem dX10_shares_96 : decode cX10_shares 96 = .ok (.iload 9, 2) := by decide +kernel
theorem dX10_shares_98 : decode cX10_shares 98 = .ok (.istore 10, 2) := by decide +kernel
theorem dX10_shares_100 : decode cX10_shares 100 = .ok (.iload 10, 2) := by decide +kernel
theorem dX10_shares_102 : decode cX10_shares 102 = .ok (.iload 4, 2) := by decide +kernel
theorem dX10_shares_104 : decode cX10_shares 104 = .ok (.if_icmp .ge 87, 3) := by decide +kernel
theorem dX10_shares_107 : decode cX10_shares 107 = .ok (.aload_n 0, 1) := by decide +kernel
theorem dX10_shares_108 : decode cX10_shares 108 = .ok (.getfield 70, 3) := by decide +kernel
theorem dX10_shares_111 : decode cX10_shares 111 = .ok (.iload_n 3, 1) := by decide +kernel
theorem dX10_shares_112 : decode cX10_shares 112 = .ok (.iload 10, 2) := by decide +kernel
theorem dX10_shares_114 : decode cX10_shares 114 = .ok (.iadd, 1) := by decide +kernel
theorem dX10_shares_115 : decode cX10_shares 115 = .ok (.iaload, 1) := by decide +kernel
theorem dX10_shares_116 : decode cX10_shares 116 = .ok (.istore 11, 2) := by decide +kernel
theorem dX10_shares_118 : decode cX10_shares 118 = .ok (.aload_n 0, 1) := by decide +kernel
theorem dX10_shares_119 : decode cX10_shares 119 = .ok (.iload 11, 2) := by decide +kernel
theorem dX10_shares_121 : decode cX10_shares 121 = .ok (.invokevirtual 329, 3) := by decide +kernel
theorem dX10_shares_124 : decode cX10_shares 124 = .ok (.ifCond .eq 34, 3) := by decide +kernel
theorem dX10_shares_127 : decode cX10_shares 127 = .ok (.aload_n 0, 1) := by decide +kernel
theorem dX10_shares_128 : decode cX10_shares 128 = .ok (.iload 7, 2) := by decide +kernel
theorem dX10_shares_130 : decode cX10_shares 130 = .ok (.invokevirtual 220, 3) := by decide +kernel
theorem dX10_shares_133 : decode cX10_shares 133 = .ok (.aload_n 0, 1) := by decide +kernel
theorem dX10_shares_134 : decode cX10_shares 134 = .ok (.iload 11, 2) := by decide +kernel
theorem dX10_shares_136 : decode cX10_shares 136 = .ok (.invokevirtual 220, 3) := by decide +kernel
theorem dX10_shares_139 : decode cX10_shares 139 = .ok (.if_icmp .ne 46, 3) := by decide +kernel
theorem dX10_shares_142 : decode cX10_shares 142 = .ok (.aload_n 0, 1) := by decide +kernel
theorem dX10_shares_143 : decode cX10_shares 143 = .ok (.iload 8, 2) := by decide +kernel
theorem dX10_shares_145 : decode cX10_shares 145 = .ok (.iload 6, 2) := by decide +kernel
theorem dX10_shares_147 : decode cX10_shares 147 = .ok (.iload 10, 2) := by decide +kernel
theorem dX10_shares_149 : decode cX10_shares 149 = .ok (.invokevirtual 332, 3) := by decide +kernel
theorem dX10_shares_152 : decode cX10_shares 152 = .ok (.ifCond .le 6, 3) := by decide +kernel
theorem dX10_shares_155 : decode cX10_shares 155 = .ok (.goto 30, 3) := by decide +kernel
theorem dX10_shares_158 : decode cX10_shares 158 = .ok (.aload_n 0, 1) := by decide +kernel
theorem dX10_shares_159 : decode cX10_shares 159 = .ok (.getfield 70, 3) := by decide +kernel
theorem dX10_shares_162 : decode cX10_shares 162 = .ok (.iload 8, 2) := by decide +kernel
theorem dX10_shares_164 : decode cX10_shares 164 = .ok (.iload 6, 2) := by decide +kernel
theorem dX10_shares_166 : decode cX10_shares 166 = .ok (.iadd, 1) := by decide +kernel
theorem dX10_shares_167 : decode cX10_shares 167 = .ok (.iload 10, 2) := by decide +kernel
theorem dX10_shares_169 : decode cX10_shares 169 = .ok (.iastore, 1) := by decide +kernel
theorem dX10_shares_170 : decode cX10_shares 170 = .ok (.aload_n 0, 1) := by decide +kernel
theorem dX10_shares_171 : decode cX10_shares 171 = .ok (.iload_n 1, 1) := by decide +kernel
theorem dX10_shares_172 : decode cX10_shares 172 = .ok (.iload_n 2, 1) := by decide +kernel
theorem dX10_shares_173 : decode cX10_shares 173 = .ok (.iload_n 3, 1) := by decide +kernel
theorem dX10_shares_174 : decode cX10_shares 174 = .ok (.iload 4, 2) := by decide +kernel
theorem dX10_shares_176 : decode cX10_shares 176 = .ok (.iload 5, 2) := by decide +kernel
theorem dX10_shares_178 : decode cX10_shares 178 = .ok (.iload 6, 2) := by decide +kernel
theorem dX10_shares_180 : decode cX10_shares 180 = .ok (.iconst 1, 1) := by decide +kernel
theorem dX10_shares_181 : decode cX10_shares 181 = .ok (.iadd, 1) := by decide +kernel
theorem dX10_shares_182 : decode cX10_shares 182 = .ok (.invokevirtual 321, 3) := by decide +kernel
theorem dX10_shares_185 : decode cX10_shares 185 = .ok (.iinc 10 1, 3) := by decide +kernel
theorem dX10_shares_188 : decode cX10_shares 188 = .ok (.goto (-88), 3) := by decide +kernel
theorem dX10_shares_191 : decode cX10_shares 191 = .ok (.return_, 1) := by decide +kernel
theorem dX10_manyTo_0 : decode cX10_manyTo 0 = .ok (.iconst 0, 1) := by decide +kernel
theorem dX10_manyTo_1 : decode cX10_manyTo 1 = .ok (.istore 4, 2) := by decide +kernel
theorem dX10_manyTo_3 : decode cX10_manyTo 3 = .ok (.iconst 0, 1) := by decide +kernel
theorem dX10_manyTo_4 : decode cX10_manyTo 4 = .ok (.istore 5, 2) := by decide +kernel
theorem dX10_manyTo_6 : decode cX10_manyTo 6 = .ok (.iload 5, 2) := by decide +kernel
theorem dX10_manyTo_8 : decode cX10_manyTo 8 = .ok (.iload_n 2, 1) := by decide +kernel
theorem dX10_manyTo_9 : decode cX10_manyTo 9 = .ok (.if_icmp .ge 32, 3) := by decide +kernel
theorem dX10_manyTo_12 : decode cX10_manyTo 12 = .ok (.iload 4, 2) := by decide +kernel
theorem dX10_manyTo_14 : decode cX10_manyTo 14 = .ok (.aload_n 0, 1) := by decide +kernel
theorem dX10_manyTo_15 : decode cX10_manyTo 15 = .ok (.getfield 70, 3) := by decide +kernel
theorem dX10_manyTo_18 : decode cX10_manyTo 18 = .ok (.iload_n 1, 1) := by decide +kernel
theorem dX10_manyTo_19 : decode cX10_manyTo 19 = .ok (.iload 5, 2) := by decide +kernel
theorem dX10_manyTo_21 : decode cX10_manyTo 21 = .ok (.iadd, 1) := by decide +kernel
theorem dX10_manyTo_22 : decode cX10_manyTo 22 = .ok (.iaload, 1) := by decide +kernel
theorem dX10_manyTo_23 : decode cX10_manyTo 23 = .ok (.iload_n 3, 1) := by decide +kernel
theorem dX10_manyTo_24 : decode cX10_manyTo 24 = .ok (.if_icmp .ne 7, 3) := by decide +kernel
theorem dX10_manyTo_27 : decode cX10_manyTo 27 = .ok (.iconst 1, 1) := by decide +kernel
theorem dX10_manyTo_28 : decode cX10_manyTo 28 = .ok (.goto 4, 3) := by decide +kernel
theorem dX10_manyTo_31 : decode cX10_manyTo 31 = .ok (.iconst 0, 1) := by decide +kernel
theorem dX10_manyTo_32 : decode cX10_manyTo 32 = .ok (.iadd, 1) := by decide +kernel
theorem dX10_manyTo_33 : decode cX10_manyTo 33 = .ok (.istore 4, 2) := by decide +kernel
theorem dX10_manyTo_35 : decode cX10_manyTo 35 = .ok (.iinc 5 1, 3) := by decide +kernel
theorem dX10_manyTo_38 : decode cX10_manyTo 38 = .ok (.goto (-32), 3) := by decide +kernel
theorem dX10_manyTo_41 : decode cX10_manyTo 41 = .ok (.iload 4, 2) := by decide +kernel
theorem dX10_manyTo_43 : decode cX10_manyTo 43 = .ok (.ireturn, 1) := by decide +kernel
theorem dX10_goesOn_0 : decode cX10_goesOn 0 = .ok (.iload_n 3, 1) := by decide +kernel
theorem dX10_goesOn_1 : decode cX10_goesOn 1 = .ok (.iload 4, 2) := by decide +kernel
theorem dX10_goesOn_3 : decode cX10_goesOn 3 = .ok (.iadd, 1) := by decide +kernel
theorem dX10_goesOn_4 : decode cX10_goesOn 4 = .ok (.iload 5, 2) := by decide +kernel
theorem dX10_goesOn_6 : decode cX10_goesOn 6 = .ok (.iadd, 1) := by decide +kernel
theorem dX10_goesOn_7 : decode cX10_goesOn 7 = .ok (.istore 6, 2) := by decide +kernel
theorem dX10_goesOn_9 : decode cX10_goesOn 9 = .ok (.iconst 0, 1) := by decide +kernel
theorem dX10_goesOn_10 : decode cX10_goesOn 10 = .ok (.istore 7, 2) := by decide +kernel
theorem dX10_goesOn_12 : decode cX10_goesOn 12 = .ok (.iload 7, 2) := by decide +kernel
theorem dX10_goesOn_14 : decode cX10_goesOn 14 = .ok (.iload 4, 2) := by decide +kernel
theorem dX10_goesOn_16 : decode cX10_goesOn 16 = .ok (.if_icmp .ge 76, 3) := by decide +kernel
theorem dX10_goesOn_19 : decode cX10_goesOn 19 = .ok (.aload_n 0, 1) := by decide +kernel
theorem dX10_goesOn_20 : decode cX10_goesOn 20 = .ok (.iload 6, 2) := by decide +kernel
theorem dX10_goesOn_22 : decode cX10_goesOn 22 = .ok (.iload 5, 2) := by decide +kernel
theorem dX10_goesOn_24 : decode cX10_goesOn 24 = .ok (.iload 7, 2) := by decide +kernel
theorem dX10_goesOn_26 : decode cX10_goesOn 26 = .ok (.invokevirtual 332, 3) := by decide +kernel
theorem dX10_goesOn_29 : decode cX10_goesOn 29 = .ok (.ifCond .ne 57, 3) := by decide +kernel
theorem dX10_goesOn_32 : decode cX10_goesOn 32 = .ok (.aload_n 0, 1) := by decide +kernel
theorem dX10_goesOn_33 : decode cX10_goesOn 33 = .ok (.getfield 39, 3) := by decide +kernel
theorem dX10_goesOn_36 : decode cX10_goesOn 36 = .ok (.iload_n 2, 1) := by decide +kernel
theorem dX10_goesOn_37 : decode cX10_goesOn 37 = .ok (.iaload, 1) := by decide +kernel
theorem dX10_goesOn_38 : decode cX10_goesOn 38 = .ok (.iconst (-1), 1) := by decide +kernel
theorem dX10_goesOn_39 : decode cX10_goesOn 39 = .ok (.if_icmp .eq 46, 3) := by decide +kernel
theorem dX10_goesOn_42 : decode cX10_goesOn 42 = .ok (.aload_n 0, 1) := by decide +kernel
theorem dX10_goesOn_43 : decode cX10_goesOn 43 = .ok (.aload_n 0, 1) := by decide +kernel
theorem dX10_goesOn_44 : decode cX10_goesOn 44 = .ok (.getfield 70, 3) := by decide +kernel
theorem dX10_goesOn_47 : decode cX10_goesOn 47 = .ok (.iload_n 3, 1) := by decide +kernel
theorem dX10_goesOn_48 : decode cX10_goesOn 48 = .ok (.iload 7, 2) := by decide +kernel
theorem dX10_goesOn_50 : decode cX10_goesOn 50 = .ok (.iadd, 1) := by decide +kernel
theorem dX10_goesOn_51 : decode cX10_goesOn 51 = .ok (.iaload, 1) := by decide +kernel
theorem dX10_goesOn_52 : decode cX10_goesOn 52 = .ok (.invokevirtual 329, 3) := by decide +kernel
theorem dX10_goesOn_55 : decode cX10_goesOn 55 = .ok (.ifCond .eq 31, 3) := by decide +kernel
theorem dX10_goesOn_58 : decode cX10_goesOn 58 = .ok (.aload_n 0, 1) := by decide +kernel
theorem dX10_goesOn_59 : decode cX10_goesOn 59 = .ok (.getfield 52, 3) := by decide +kernel
theorem dX10_goesOn_62 : decode cX10_goesOn 62 = .ok (.aload_n 0, 1) := by decide +kernel
theorem dX10_goesOn_63 : decode cX10_goesOn 63 = .ok (.getfield 70, 3) := by decide +kernel
theorem dX10_goesOn_66 : decode cX10_goesOn 66 = .ok (.iload_n 3, 1) := by decide +kernel
theorem dX10_goesOn_67 : decode cX10_goesOn 67 = .ok (.iload 7, 2) := by decide +kernel
theorem dX10_goesOn_69 : decode cX10_goesOn 69 = .ok (.iadd, 1) := by decide +kernel
theorem dX10_goesOn_70 : decode cX10_goesOn 70 = .ok (.iaload, 1) := by decide +kernel
theorem dX10_goesOn_71 : decode cX10_goesOn 71 = .ok (.iaload, 1) := by decide +kernel
theorem dX10_goesOn_72 : decode cX10_goesOn 72 = .ok (.aload_n 0, 1) := by decide +kernel
theorem dX10_goesOn_73 : decode cX10_goesOn 73 = .ok (.getfield 39, 3) := by decide +kernel
theorem dX10_goesOn_76 : decode cX10_goesOn 76 = .ok (.iload_n 2, 1) := by decide +kernel
theorem dX10_goesOn_77 : decode cX10_goesOn 77 = .ok (.iaload, 1) := by decide +kernel
theorem dX10_goesOn_78 : decode cX10_goesOn 78 = .ok (.iconst 0, 1) := by decide +kernel
theorem dX10_goesOn_79 : decode cX10_goesOn 79 = .ok (.invokestatic 223, 3) := by decide +kernel
theorem dX10_goesOn_82 : decode cX10_goesOn 82 = .ok (.if_icmp .eq 4, 3) := by decide +kernel
theorem dX10_goesOn_85 : decode cX10_goesOn 85 = .ok (.return_, 1) := by decide +kernel
theorem dX10_goesOn_86 : decode cX10_goesOn 86 = .ok (.iinc 7 1, 3) := by decide +kernel
theorem dX10_goesOn_89 : decode cX10_goesOn 89 = .ok (.goto (-77), 3) := by decide +kernel
theorem dX10_goesOn_92 : decode cX10_goesOn 92 = .ok (.aload_n 0, 1) := by decide +kernel
theorem dX10_goesOn_93 : decode cX10_goesOn 93 = .ok (.getfield 178, 3) := by decide +kernel
theorem dX10_goesOn_96 : decode cX10_goesOn 96 = .ok (.istore 7, 2) := by decide +kernel
theorem dX10_goesOn_98 : decode cX10_goesOn 98 = .ok (.iconst 0, 1) := by decide +kernel
theorem dX10_goesOn_99 : decode cX10_goesOn 99 = .ok (.istore 8, 2) := by decide +kernel
theorem dX10_goesOn_101 : decode cX10_goesOn 101 = .ok (.iload 8, 2) := by decide +kernel
theorem dX10_goesOn_103 : decode cX10_goesOn 103 = .ok (.iload 4, 2) := by decide +kernel
theorem dX10_goesOn_105 : decode cX10_goesOn 105 = .ok (.if_icmp .ge 166, 3) := by decide +kernel
theorem dX10_goesOn_108 : decode cX10_goesOn 108 = .ok (.aload_n 0, 1) := by decide +kernel
theorem dX10_goesOn_109 : decode cX10_goesOn 109 = .ok (.iload 6, 2) := by decide +kernel
theorem dX10_goesOn_111 : decode cX10_goesOn 111 = .ok (.iload 5, 2) := by decide +kernel
theorem dX10_goesOn_113 : decode cX10_goesOn 113 = .ok (.iload 8, 2) := by decide +kernel
theorem dX10_goesOn_115 : decode cX10_goesOn 115 = .ok (.invokevirtual 332, 3) := by decide +kernel
theorem dX10_goesOn_118 : decode cX10_goesOn 118 = .ok (.istore 9, 2) := by decide +kernel
theorem dX10_goesOn_120 : decode cX10_goesOn 120 = .ok (.aload_n 0, 1) := by decide +kernel
theorem dX10_goesOn_121 : decode cX10_goesOn 121 = .ok (.getfield 178, 3) := by decide +kernel
theorem dX10_goesOn_124 : decode cX10_goesOn 124 = .ok (.istore 10, 2) := by decide +kernel
theorem dX10_goesOn_126 : decode cX10_goesOn 126 = .ok (.iload 9, 2) := by decide +kernel
theorem dX10_goesOn_128 : decode cX10_goesOn 128 = .ok (.ifCond .ne 35, 3) := by decide +kernel
theorem dX10_goesOn_131 : decode cX10_goesOn 131 = .ok (.aload_n 0, 1) := by decide +kernel
theorem dX10_goesOn_132 : decode cX10_goesOn 132 = .ok (.getfield 52, 3) := by decide +kernel
theorem dX10_goesOn_135 : decode cX10_goesOn 135 = .ok (.aload_n 0, 1) := by decide +kernel
theorem dX10_goesOn_136 : decode cX10_goesOn 136 = .ok (.getfield 178, 3) := by decide +kernel
theorem dX10_goesOn_139 : decode cX10_goesOn 139 = .ok (.aload_n 0, 1) := by decide +kernel
theorem dX10_goesOn_140 : decode cX10_goesOn 140 = .ok (.getfield 39, 3) := by decide +kernel
theorem dX10_goesOn_143 : decode cX10_goesOn 143 = .ok (.iload_n 2, 1) := by decide +kernel
theorem dX10_goesOn_144 : decode cX10_goesOn 144 = .ok (.iaload, 1) := by decide +kernel
theorem dX10_goesOn_145 : decode cX10_goesOn 145 = .ok (.iconst 0, 1) := by decide +kernel
theorem dX10_goesOn_146 : decode cX10_goesOn 146 = .ok (.invokestatic 223, 3) := by decide +kernel
theorem dX10_goesOn_149 : decode cX10_goesOn 149 = .ok (.iastore, 1) := by decide +kernel
theorem dX10_goesOn_150 : decode cX10_goesOn 150 = .ok (.aload_n 0, 1) := by decide +kernel
theorem dX10_goesOn_151 : decode cX10_goesOn 151 = .ok (.dup, 1) := by decide +kernel
theorem dX10_goesOn_152 : decode cX10_goesOn 152 = .ok (.getfield 178, 3) := by decide +kernel
theorem dX10_goesOn_155 : decode cX10_goesOn 155 = .ok (.iconst 1, 1) := by decide +kernel
theorem dX10_goesOn_156 : decode cX10_goesOn 156 = .ok (.iadd, 1) := by decide +kernel
theorem dX10_goesOn_157 : decode cX10_goesOn 157 = .ok (.putfield 178, 3) := by decide +kernel
theorem dX10_goesOn_160 : decode cX10_goesOn 160 = .ok (.goto 86, 3) := by decide +kernel
theorem dX10_goesOn_163 : decode cX10_goesOn 163 = .ok (.iload 9, 2) := by decide +kernel
theorem dX10_goesOn_165 : decode cX10_goesOn 165 = .ok (.iconst 1, 1) := by decide +kernel
theorem dX10_goesOn_166 : decode cX10_goesOn 166 = .ok (.if_icmp .le 28, 3) := by decide +kernel
theorem dX10_goesOn_169 : decode cX10_goesOn 169 = .ok (.aload_n 0, 1) := by decide +kernel
theorem dX10_goesOn_170 : decode cX10_goesOn 170 = .ok (.getfield 52, 3) := by decide +kernel
theorem dX10_goesOn_173 : decode cX10_goesOn 173 = .ok (.aload_n 0, 1) := by decide +kernel
theorem dX10_goesOn_174 : decode cX10_goesOn 174 = .ok (.getfield 178, 3) := by decide +kernel
theorem dX10_goesOn_177 : decode cX10_goesOn 177 = .ok (.iload_n 2, 1) := by decide +kernel
theorem dX10_goesOn_178 : decode cX10_goesOn 178 = .ok (.iload 9, 2) := by decide +kernel
theorem dX10_goesOn_180 : decode cX10_goesOn 180 = .ok (.invokestatic 223, 3) := by decide +kernel
theorem dX10_goesOn_183 : decode cX10_goesOn 183 = .ok (.iastore, 1) := by decide +kernel
theorem dX10_goesOn_184 : decode cX10_goesOn 184 = .ok (.aload_n 0, 1) := by decide +kernel
theorem dX10_goesOn_185 : decode cX10_goesOn 185 = .ok (.dup, 1) := by decide +kernel
theorem dX10_goesOn_186 : decode cX10_goesOn 186 = .ok (.getfield 178, 3) := by decide +kernel
theorem dX10_goesOn_189 : decode cX10_goesOn 189 = .ok (.iconst 1, 1) := by decide +kernel
theorem dX10_goesOn_190 : decode cX10_goesOn 190 = .ok (.iadd, 1) := by decide +kernel
theorem dX10_goesOn_191 : decode cX10_goesOn 191 = .ok (.putfield 178, 3) := by decide +kernel
theorem dX10_goesOn_194 : decode cX10_goesOn 194 = .ok (.iconst 0, 1) := by decide +kernel
theorem dX10_goesOn_195 : decode cX10_goesOn 195 = .ok (.istore 11, 2) := by decide +kernel
theorem dX10_goesOn_197 : decode cX10_goesOn 197 = .ok (.iload 11, 2) := by decide +kernel
theorem dX10_goesOn_199 : decode cX10_goesOn 199 = .ok (.iload 5, 2) := by decide +kernel
theorem dX10_goesOn_201 : decode cX10_goesOn 201 = .ok (.if_icmp .ge 45, 3) := by decide +kernel
theorem dX10_goesOn_204 : decode cX10_goesOn 204 = .ok (.aload_n 0, 1) := by decide +kernel
theorem dX10_goesOn_205 : decode cX10_goesOn 205 = .ok (.getfield 70, 3) := by decide +kernel
theorem dX10_goesOn_208 : decode cX10_goesOn 208 = .ok (.iload 6, 2) := by decide +kernel
theorem dX10_goesOn_210 : decode cX10_goesOn 210 = .ok (.iload 11, 2) := by decide +kernel
theorem dX10_goesOn_212 : decode cX10_goesOn 212 = .ok (.iadd, 1) := by decide +kernel
theorem dX10_goesOn_213 : decode cX10_goesOn 213 = .ok (.iaload, 1) := by decide +kernel
theorem dX10_goesOn_214 : decode cX10_goesOn 214 = .ok (.iload 8, 2) := by decide +kernel
theorem dX10_goesOn_216 : decode cX10_goesOn 216 = .ok (.if_icmp .eq 6, 3) := by decide +kernel
theorem dX10_goesOn_219 : decode cX10_goesOn 219 = .ok (.goto 21, 3) := by decide +kernel
theorem dX10_goesOn_222 : decode cX10_goesOn 222 = .ok (.aload_n 0, 1) := by decide +kernel
theorem dX10_goesOn_223 : decode cX10_goesOn 223 = .ok (.aload_n 0, 1) := by decide +kernel
theorem dX10_goesOn_224 : decode cX10_goesOn 224 = .ok (.getfield 70, 3) := by decide +kernel
theorem dX10_goesOn_227 : decode cX10_goesOn 227 = .ok (.iload_n 3, 1) := by decide +kernel
theorem dX10_goesOn_228 : decode cX10_goesOn 228 = .ok (.iload 4, 2) := by decide +kernel
theorem dX10_goesOn_230 : decode cX10_goesOn 230 = .ok (.iadd, 1) := by decide +kernel
theorem dX10_goesOn_231 : decode cX10_goesOn 231 = .ok (.iload 11, 2) := by decide +kernel
theorem dX10_goesOn_233 : decode cX10_goesOn 233 = .ok (.iadd, 1) := by decide +kernel
theorem dX10_goesOn_234 : decode cX10_goesOn 234 = .ok (.iaload, 1) := by decide +kernel
theorem dX10_goesOn_235 : decode cX10_goesOn 235 = .ok (.invokevirtual 230, 3) := by decide +kernel
theorem dX10_goesOn_238 : decode cX10_goesOn 238 = .ok (.istore 12, 2) := by decide +kernel
theorem dX10_goesOn_240 : decode cX10_goesOn 240 = .ok (.iinc 11 1, 3) := by decide +kernel
theorem dX10_goesOn_243 : decode cX10_goesOn 243 = .ok (.goto (-46), 3) := by decide +kernel
theorem dX10_goesOn_246 : decode cX10_goesOn 246 = .ok (.aload_n 0, 1) := by decide +kernel
theorem dX10_goesOn_247 : decode cX10_goesOn 247 = .ok (.iload_n 1, 1) := by decide +kernel
theorem dX10_goesOn_248 : decode cX10_goesOn 248 = .ok (.iload 8, 2) := by decide +kernel
theorem dX10_goesOn_250 : decode cX10_goesOn 250 = .ok (.iadd, 1) := by decide +kernel
theorem dX10_goesOn_251 : decode cX10_goesOn 251 = .ok (.aload_n 0, 1) := by decide +kernel
theorem dX10_goesOn_252 : decode cX10_goesOn 252 = .ok (.getfield 70, 3) := by decide +kernel
theorem dX10_goesOn_255 : decode cX10_goesOn 255 = .ok (.iload_n 3, 1) := by decide +kernel
theorem dX10_goesOn_256 : decode cX10_goesOn 256 = .ok (.iload 8, 2) := by decide +kernel
theorem dX10_goesOn_258 : decode cX10_goesOn 258 = .ok (.iadd, 1) := by decide +kernel
theorem dX10_goesOn_259 : decode cX10_goesOn 259 = .ok (.iaload, 1) := by decide +kernel
theorem dX10_goesOn_260 : decode cX10_goesOn 260 = .ok (.iload 10, 2) := by decide +kernel
theorem dX10_goesOn_262 : decode cX10_goesOn 262 = .ok (.invokevirtual 315, 3) := by decide +kernel
theorem dX10_goesOn_265 : decode cX10_goesOn 265 = .ok (.iinc 8 1, 3) := by decide +kernel
theorem dX10_goesOn_268 : decode cX10_goesOn 268 = .ok (.goto (-167), 3) := by decide +kernel
theorem dX10_goesOn_271 : decode cX10_goesOn 271 = .ok (.aload_n 0, 1) := by decide +kernel
theorem dX10_goesOn_272 : decode cX10_goesOn 272 = .ok (.iload_n 1, 1) := by decide +kernel
theorem dX10_goesOn_273 : decode cX10_goesOn 273 = .ok (.iload 4, 2) := by decide +kernel
theorem dX10_goesOn_275 : decode cX10_goesOn 275 = .ok (.iadd, 1) := by decide +kernel
theorem dX10_goesOn_276 : decode cX10_goesOn 276 = .ok (.invokevirtual 312, 3) := by decide +kernel
theorem dX10_goesOn_279 : decode cX10_goesOn 279 = .ok (.aload_n 0, 1) := by decide +kernel
theorem dX10_goesOn_280 : decode cX10_goesOn 280 = .ok (.iload 7, 2) := by decide +kernel
theorem dX10_goesOn_282 : decode cX10_goesOn 282 = .ok (.putfield 178, 3) := by decide +kernel
theorem dX10_goesOn_285 : decode cX10_goesOn 285 = .ok (.return_, 1) := by decide +kernel
theorem dX10_laysMatches_0 : decode cX10_laysMatches 0 = .ok (.aload_n 0, 1) := by decide +kernel
theorem dX10_laysMatches_1 : decode cX10_laysMatches 1 = .ok (.iconst 0, 1) := by decide +kernel
theorem dX10_laysMatches_2 : decode cX10_laysMatches 2 = .ok (.putfield 287, 3) := by decide +kernel
theorem dX10_laysMatches_5 : decode cX10_laysMatches 5 = .ok (.aload_n 0, 1) := by decide +kernel
theorem dX10_laysMatches_6 : decode cX10_laysMatches 6 = .ok (.iconst 0, 1) := by decide +kernel
theorem dX10_laysMatches_7 : decode cX10_laysMatches 7 = .ok (.putfield 318, 3) := by decide +kernel
theorem dX10_laysMatches_10 : decode cX10_laysMatches 10 = .ok (.aload_n 0, 1) := by decide +kernel
theorem dX10_laysMatches_11 : decode cX10_laysMatches 11 = .ok (.aload_n 0, 1) := by decide +kernel
theorem dX10_laysMatches_12 : decode cX10_laysMatches 12 = .ok (.iload_n 1, 1) := by decide +kernel
theorem dX10_laysMatches_13 : decode cX10_laysMatches 13 = .ok (.invokevirtual 268, 3) := by decide +kernel
theorem dX10_laysMatches_16 : decode cX10_laysMatches 16 = .ok (.putfield 290, 3) := by decide +kernel
theorem dX10_laysMatches_19 : decode cX10_laysMatches 19 = .ok (.iconst 0, 1) := by decide +kernel
theorem dX10_laysMatches_20 : decode cX10_laysMatches 20 = .ok (.istore_n 3, 1) := by decide +kernel
theorem dX10_laysMatches_21 : decode cX10_laysMatches 21 = .ok (.iload_n 3, 1) := by decide +kernel
theorem dX10_laysMatches_22 : decode cX10_laysMatches 22 = .ok (.iconst 5, 1) := by decide +kernel
theorem dX10_laysMatches_23 : decode cX10_laysMatches 23 = .ok (.if_icmp .ge 16, 3) := by decide +kernel
theorem dX10_laysMatches_26 : decode cX10_laysMatches 26 = .ok (.aload_n 0, 1) := by decide +kernel
theorem dX10_laysMatches_27 : decode cX10_laysMatches 27 = .ok (.getfield 67, 3) := by decide +kernel
theorem dX10_laysMatches_30 : decode cX10_laysMatches 30 = .ok (.iload_n 3, 1) := by decide +kernel
theorem dX10_laysMatches_31 : decode cX10_laysMatches 31 = .ok (.iconst (-1), 1) := by decide +kernel
theorem dX10_laysMatches_32 : decode cX10_laysMatches 32 = .ok (.iastore, 1) := by decide +kernel
theorem dX10_laysMatches_33 : decode cX10_laysMatches 33 = .ok (.iinc 3 1, 3) := by decide +kernel
theorem dX10_laysMatches_36 : decode cX10_laysMatches 36 = .ok (.goto (-15), 3) := by decide +kernel
theorem dX10_laysMatches_39 : decode cX10_laysMatches 39 = .ok (.aload_n 0, 1) := by decide +kernel
theorem dX10_laysMatches_40 : decode cX10_laysMatches 40 = .ok (.iconst 0, 1) := by decide +kernel
theorem dX10_laysMatches_41 : decode cX10_laysMatches 41 = .ok (.iload_n 1, 1) := by decide +kernel
theorem dX10_laysMatches_42 : decode cX10_laysMatches 42 = .ok (.iload_n 2, 1) := by decide +kernel
theorem dX10_laysMatches_43 : decode cX10_laysMatches 43 = .ok (.invokevirtual 315, 3) := by decide +kernel
theorem dX10_laysMatches_46 : decode cX10_laysMatches 46 = .ok (.aload_n 0, 1) := by decide +kernel
theorem dX10_laysMatches_47 : decode cX10_laysMatches 47 = .ok (.iconst 1, 1) := by decide +kernel
theorem dX10_laysMatches_48 : decode cX10_laysMatches 48 = .ok (.invokevirtual 312, 3) := by decide +kernel
theorem dX10_laysMatches_51 : decode cX10_laysMatches 51 = .ok (.return_, 1) := by decide +kernel
theorem dX10_comparesStep_0 : decode cX10_comparesStep 0 = .ok (.aload_n 0, 1) := by decide +kernel
theorem dX10_comparesStep_1 : decode cX10_comparesStep 1 = .ok (.iload_n 2, 1) := by decide +kernel
theorem dX10_comparesStep_2 : decode cX10_comparesStep 2 = .ok (.invokevirtual 213, 3) := by decide +kernel
theorem dX10_comparesStep_5 : decode cX10_comparesStep 5 = .ok (.istore_n 3, 1) := by decide +kernel
theorem dX10_comparesStep_6 : decode cX10_comparesStep 6 = .ok (.iload_n 2, 1) := by decide +kernel
theorem dX10_comparesStep_7 : decode cX10_comparesStep 7 = .ok (.istore 4, 2) := by decide +kernel
theorem dX10_comparesStep_9 : decode cX10_comparesStep 9 = .ok (.iload 4, 2) := by decide +kernel
theorem dX10_comparesStep_11 : decode cX10_comparesStep 11 = .ok (.iload_n 3, 1) := by decide +kernel
theorem dX10_comparesStep_12 : decode cX10_comparesStep 12 = .ok (.if_icmp .ge 63, 3) := by decide +kernel
theorem dX10_comparesStep_15 : decode cX10_comparesStep 15 = .ok (.aload_n 0, 1) := by decide +kernel
theorem dX10_comparesStep_16 : decode cX10_comparesStep 16 = .ok (.getfield 82, 3) := by decide +kernel
theorem dX10_comparesStep_19 : decode cX10_comparesStep 19 = .ok (.bipush 21, 2) := by decide +kernel
theorem dX10_comparesStep_21 : decode cX10_comparesStep 21 = .ok (.iload_n 1, 1) := by decide +kernel
theorem dX10_comparesStep_22 : decode cX10_comparesStep 22 = .ok (.imul, 1) := by decide +kernel
theorem dX10_comparesStep_23 : decode cX10_comparesStep 23 = .ok (.iload 4, 2) := by decide +kernel
theorem dX10_comparesStep_25 : decode cX10_comparesStep 25 = .ok (.iadd, 1) := by decide +kernel
theorem dX10_comparesStep_26 : decode cX10_comparesStep 26 = .ok (.iload_n 2, 1) := by decide +kernel
theorem dX10_comparesStep_27 : decode cX10_comparesStep 27 = .ok (.isub, 1) := by decide +kernel
theorem dX10_comparesStep_28 : decode cX10_comparesStep 28 = .ok (.iaload, 1) := by decide +kernel
theorem dX10_comparesStep_29 : decode cX10_comparesStep 29 = .ok (.aload_n 0, 1) := by decide +kernel
theorem dX10_comparesStep_30 : decode cX10_comparesStep 30 = .ok (.getfield 52, 3) := by decide +kernel
theorem dX10_comparesStep_33 : decode cX10_comparesStep 33 = .ok (.iload 4, 2) := by decide +kernel
theorem dX10_comparesStep_35 : decode cX10_comparesStep 35 = .ok (.iaload, 1) := by decide +kernel
theorem dX10_comparesStep_36 : decode cX10_comparesStep 36 = .ok (.if_icmp .eq 33, 3) := by decide +kernel
theorem dX10_comparesStep_39 : decode cX10_comparesStep 39 = .ok (.aload_n 0, 1) := by decide +kernel
theorem dX10_comparesStep_40 : decode cX10_comparesStep 40 = .ok (.getfield 82, 3) := by decide +kernel
