abbrev cX10_holds : ByteArray := prog_12_method_5_code
def yX10_holds : MethodName := ⟨RX10, "holds", "(II)Z"⟩
abbrev cX10_feed : ByteArray := prog_12_method_6_code
def yX10_feed : MethodName := ⟨RX10, "feed", "(IIIII)I"⟩
abbrev cX10_end : ByteArray := prog_12_method_7_code
def yX10_end : MethodName := ⟨RX10, "end", "(I)Z"⟩
abbrev cX10_isAt : ByteArray := prog_12_method_8_code
def yX10_isAt : MethodName := ⟨RX10, "isAt", "(II)Z"⟩
abbrev cX10_blanks : ByteArray := prog_12_method_9_code
def yX10_blanks : MethodName := ⟨RX10, "blanks", "()V"⟩
abbrev cX10_word : ByteArray := prog_12_method_10_code
def yX10_word : MethodName := ⟨RX10, "word", "()Z"⟩
abbrev cX10_takes : ByteArray := prog_12_method_12_code
def yX10_takes : MethodName := ⟨RX10, "takes", "(I)Z"⟩
abbrev cX10_isName : ByteArray := prog_12_method_13_code
def yX10_isName : MethodName := ⟨RX10, "isName", "()Z"⟩
abbrev cX10_newNamed : ByteArray := prog_12_method_14_code
def yX10_newNamed : MethodName := ⟨RX10, "newNamed", "()I"⟩
abbrev cX10_readsName : ByteArray := prog_12_method_15_code
def yX10_readsName : MethodName := ⟨RX10, "readsName", "(I)Z"⟩
abbrev cX10_readsNumber : ByteArray := prog_12_method_16_code
def yX10_readsNumber : MethodName := ⟨RX10, "readsNumber", "()Z"⟩
abbrev cX10_readsUnit : ByteArray := prog_12_method_17_code
def yX10_readsUnit : MethodName := ⟨RX10, "readsUnit", "()Z"⟩
abbrev cX10_readsClause : ByteArray := prog_12_method_18_code
def yX10_readsClause : MethodName := ⟨RX10, "readsClause", "()Z"⟩
abbrev cX10_begins : ByteArray := prog_12_method_19_code
def yX10_begins : MethodName := ⟨RX10, "begins", "()V"⟩
abbrev cX10_wrong : ByteArray := prog_12_method_20_code
def yX10_wrong : MethodName := ⟨RX10, "wrong", "()I"⟩
abbrev cX10_signature : ByteArray := prog_12_method_21_code
def yX10_signature : MethodName := ⟨RX10, "signature", "()I"⟩
abbrev cX10_named : ByteArray := prog_12_method_22_code
def yX10_named : MethodName := ⟨RX10, "named", "()I"⟩
abbrev cX10_codeOf : ByteArray := prog_12_method_23_code
def yX10_codeOf : MethodName := ⟨RX10, "codeOf", "(II)I"⟩
abbrev cX10_isGreat : ByteArray := prog_12_method_30_code
def yX10_isGreat : MethodName := ⟨RX10, "isGreat", "(I)Z"⟩
abbrev cX10_stands : ByteArray := prog_12_method_31_code
def yX10_stands : MethodName := ⟨RX10, "stands", "(II)I"⟩
abbrev cX10_sorts : ByteArray := prog_12_method_32_code
def yX10_sorts : MethodName := ⟨RX10, "sorts", "(I)V"⟩
abbrev cX10_rowOfTerm : ByteArray := prog_12_method_33_code
def yX10_rowOfTerm : MethodName := ⟨RX10, "rowOfTerm", "(I)I"⟩
abbrev cX10_rowOfRule : ByteArray := prog_12_method_34_code
def yX10_rowOfRule : MethodName := ⟨RX10, "rowOfRule", "(IZ)I"⟩
abbrev cX10_readsTerm : ByteArray := prog_12_method_37_code
def yX10_readsTerm : MethodName := ⟨RX10, "readsTerm", "()Z"⟩
abbrev cX10_told : ByteArray := prog_12_method_38_code
def yX10_told : MethodName := ⟨RX10, "told", "(I)I"⟩
abbrev cX10_term : ByteArray := prog_12_method_39_code
def yX10_term : MethodName := ⟨RX10, "term", "()I"⟩
abbrev cX10_isOver : ByteArray := prog_12_method_40_code
def yX10_isOver : MethodName := ⟨RX10, "isOver", "()Z"⟩
abbrev cX10_rule : ByteArray := prog_12_method_42_code
def yX10_rule : MethodName := ⟨RX10, "rule", "()I"⟩
abbrev cX10_fault : ByteArray := prog_12_method_43_code
def yX10_fault : MethodName := ⟨RX10, "fault", "()I"⟩
abbrev cX10_noRule : ByteArray := prog_12_method_44_code
def yX10_noRule : MethodName := ⟨RX10, "noRule", "(I)Z"⟩
abbrev cX10_noTerm : ByteArray := prog_12_method_45_code
def yX10_noTerm : MethodName := ⟨RX10, "noTerm", "(I)Z"⟩
abbrev cX10_turn : ByteArray := prog_12_method_46_code
def yX10_turn : MethodName := ⟨RX10, "turn", "(IZ)Z"⟩
abbrev cX10_rulesOn : ByteArray := prog_12_method_47_code
def yX10_rulesOn : MethodName := ⟨RX10, "rulesOn", "()I"⟩
abbrev cX10_foundAt : ByteArray := prog_12_method_48_code
def yX10_foundAt : MethodName := ⟨RX10, "foundAt", "(II)I"⟩
abbrev cX10_fills : ByteArray := prog_12_method_61_code
def yX10_fills : MethodName := ⟨RX10, "fills", "(II)I"⟩
abbrev cX10_rebuilds : ByteArray := prog_12_method_62_code
def yX10_rebuilds : MethodName := ⟨RX10, "rebuilds", "(III)I"⟩
abbrev cX10_sumOf : ByteArray := prog_12_method_67_code
def yX10_sumOf : MethodName := ⟨RX10, "sumOf", "(IIZ)V"⟩
abbrev cX10_tooMuch : ByteArray := prog_12_method_69_code
def yX10_tooMuch : MethodName := ⟨RX10, "tooMuch", "(I)Z"⟩
abbrev cX10_termAt : ByteArray := prog_12_method_70_code
def yX10_termAt : MethodName := ⟨RX10, "termAt", "(I)I"⟩
abbrev cX10_says : ByteArray := prog_12_method_71_code
def yX10_says : MethodName := ⟨RX10, "says", "(I)V"⟩
abbrev cX10_saysAt : ByteArray := prog_12_method_72_code
def yX10_saysAt : MethodName := ⟨RX10, "saysAt", "(I)I"⟩
abbrev cX10_shows : ByteArray := prog_12_method_73_code
def yX10_shows : MethodName := ⟨RX10, "shows", "(I)I"⟩
abbrev cX10_show : ByteArray := prog_12_method_74_code
def yX10_show : MethodName := ⟨RX10, "show", "(I)I"⟩
abbrev cX10_place : ByteArray := prog_12_method_75_code
def yX10_place : MethodName := ⟨RX10, "place", "(II)I"⟩
abbrev cX10_side : ByteArray := prog_12_method_76_code
def yX10_side : MethodName := ⟨RX10, "side", "(IZ)I"⟩
abbrev cX10_octet : ByteArray := prog_12_method_77_code
def yX10_octet : MethodName := ⟨RX10, "octet", "(I)I"⟩
abbrev cX10_keep : ByteArray := prog_12_method_78_code
def yX10_keep : MethodName := ⟨RX10, "keep", "()I"⟩
abbrev cX10_noVariable : ByteArray := prog_12_method_80_code
def yX10_noVariable : MethodName := ⟨RX10, "noVariable", "(I)Z"⟩
abbrev cX10_fill : ByteArray := prog_12_method_82_code
def yX10_fill : MethodName := ⟨RX10, "fill", "(III)I"⟩
abbrev cX10_noOperator : ByteArray := prog_12_method_83_code
def yX10_noOperator : MethodName := ⟨RX10, "noOperator", "(I)Z"⟩
abbrev cX10_join : ByteArray := prog_12_method_84_code
def yX10_join : MethodName := ⟨RX10, "join", "(III)I"⟩
theorem dX10_holds_0 : decode cX10_holds 0 = .ok (.iload_n 0, 1) := by decide +kernel
theorem dX10_holds_1 : decode cX10_holds 1 = .ok (.iload_n 1, 1) := by decide +kernel
theorem dX10_holds_2 : decode cX10_holds 2 = .ok (.ishr, 1) := by decide +kernel
theorem dX10_holds_3 : decode cX10_holds 3 = .ok (.iconst 1, 1) := by decide +kernel
theorem dX10_holds_4 : decode cX10_holds 4 = .ok (.iand, 1) := by decide +kernel
theorem dX10_holds_5 : decode cX10_holds 5 = .ok (.iconst 1, 1) := by decide +kernel
theorem dX10_holds_6 : decode cX10_holds 6 = .ok (.if_icmp .ne 7, 3) := by decide +kernel
theorem dX10_holds_9 : decode cX10_holds 9 = .ok (.iconst 1, 1) := by decide +kernel
theorem dX10_holds_10 : decode cX10_holds 10 = .ok (.goto 4, 3) := by decide +kernel
theorem dX10_holds_13 : decode cX10_holds 13 = .ok (.iconst 0, 1) := by decide +kernel
theorem dX10_holds_14 : decode cX10_holds 14 = .ok (.ireturn, 1) := by decide +kernel
theorem dX10_feed_0 : decode cX10_feed 0 = .ok (.aload_n 0, 1) := by decide +kernel
theorem dX10_feed_1 : decode cX10_feed 1 = .ok (.iconst 0, 1) := by decide +kernel
theorem dX10_feed_2 : decode cX10_feed 2 = .ok (.putfield 100, 3) := by decide +kernel
theorem dX10_feed_5 : decode cX10_feed 5 = .ok (.aload_n 0, 1) := by decide +kernel
theorem dX10_feed_6 : decode cX10_feed 6 = .ok (.getfield 103, 3) := by decide +kernel
theorem dX10_feed_9 : decode cX10_feed 9 = .ok (.bipush 20, 2) := by decide +kernel
theorem dX10_feed_11 : decode cX10_feed 11 = .ok (.iadd, 1) := by decide +kernel
theorem dX10_feed_12 : decode cX10_feed 12 = .ok (.sipush 400, 3) := by decide +kernel
theorem dX10_feed_15 : decode cX10_feed 15 = .ok (.if_icmp .le 5, 3) := by decide +kernel
theorem dX10_feed_18 : decode cX10_feed 18 = .ok (.iconst (-1), 1) := by decide +kernel
theorem dX10_feed_19 : decode cX10_feed 19 = .ok (.ireturn, 1) := by decide +kernel
theorem dX10_feed_20 : decode cX10_feed 20 = .ok (.aload_n 0, 1) := by decide +kernel
theorem dX10_feed_21 : decode cX10_feed 21 = .ok (.getfield 13, 3) := by decide +kernel
theorem dX10_feed_24 : decode cX10_feed 24 = .ok (.iconst 0, 1) := by decide +kernel
theorem dX10_feed_25 : decode cX10_feed 25 = .ok (.iload_n 1, 1) := by decide +kernel
theorem dX10_feed_26 : decode cX10_feed 26 = .ok (.iastore, 1) := by decide +kernel
theorem dX10_feed_27 : decode cX10_feed 27 = .ok (.aload_n 0, 1) := by decide +kernel
theorem dX10_feed_28 : decode cX10_feed 28 = .ok (.getfield 13, 3) := by decide +kernel
theorem dX10_feed_31 : decode cX10_feed 31 = .ok (.iconst 1, 1) := by decide +kernel
theorem dX10_feed_32 : decode cX10_feed 32 = .ok (.iload_n 2, 1) := by decide +kernel
theorem dX10_feed_33 : decode cX10_feed 33 = .ok (.iastore, 1) := by decide +kernel
theorem dX10_feed_34 : decode cX10_feed 34 = .ok (.aload_n 0, 1) := by decide +kernel
theorem dX10_feed_35 : decode cX10_feed 35 = .ok (.getfield 13, 3) := by decide +kernel
theorem dX10_feed_38 : decode cX10_feed 38 = .ok (.iconst 2, 1) := by decide +kernel
theorem dX10_feed_39 : decode cX10_feed 39 = .ok (.iload_n 3, 1) := by decide +kernel
theorem dX10_feed_40 : decode cX10_feed 40 = .ok (.iastore, 1) := by decide +kernel
theorem dX10_feed_41 : decode cX10_feed 41 = .ok (.aload_n 0, 1) := by decide +kernel
theorem dX10_feed_42 : decode cX10_feed 42 = .ok (.getfield 13, 3) := by decide +kernel
theorem dX10_feed_45 : decode cX10_feed 45 = .ok (.iconst 3, 1) := by decide +kernel
theorem dX10_feed_46 : decode cX10_feed 46 = .ok (.iload 4, 2) := by decide +kernel
theorem dX10_feed_48 : decode cX10_feed 48 = .ok (.iastore, 1) := by decide +kernel
theorem dX10_feed_49 : decode cX10_feed 49 = .ok (.aload_n 0, 1) := by decide +kernel
theorem dX10_feed_50 : decode cX10_feed 50 = .ok (.getfield 13, 3) := by decide +kernel
theorem dX10_feed_53 : decode cX10_feed 53 = .ok (.iconst 4, 1) := by decide +kernel
theorem dX10_feed_54 : decode cX10_feed 54 = .ok (.iload 5, 2) := by decide +kernel
theorem dX10_feed_56 : decode cX10_feed 56 = .ok (.iastore, 1) := by decide +kernel
theorem dX10_feed_57 : decode cX10_feed 57 = .ok (.iconst 0, 1) := by decide +kernel
theorem dX10_feed_58 : decode cX10_feed 58 = .ok (.istore 6, 2) := by decide +kernel
theorem dX10_feed_60 : decode cX10_feed 60 = .ok (.iload 6, 2) := by decide +kernel
theorem dX10_feed_62 : decode cX10_feed 62 = .ok (.bipush 20, 2) := by decide +kernel
theorem dX10_feed_64 : decode cX10_feed 64 = .ok (.if_icmp .ge 42, 3) := by decide +kernel
theorem dX10_feed_67 : decode cX10_feed 67 = .ok (.aload_n 0, 1) := by decide +kernel
theorem dX10_feed_68 : decode cX10_feed 68 = .ok (.getfield 9, 3) := by decide +kernel
theorem dX10_feed_71 : decode cX10_feed 71 = .ok (.aload_n 0, 1) := by decide +kernel
theorem dX10_feed_72 : decode cX10_feed 72 = .ok (.getfield 103, 3) := by decide +kernel
theorem dX10_feed_75 : decode cX10_feed 75 = .ok (.iload 6, 2) := by decide +kernel
theorem dX10_feed_77 : decode cX10_feed 77 = .ok (.iadd, 1) := by decide +kernel
theorem dX10_feed_78 : decode cX10_feed 78 = .ok (.aload_n 0, 1) := by decide +kernel
theorem dX10_feed_79 : decode cX10_feed 79 = .ok (.getfield 13, 3) := by decide +kernel
theorem dX10_feed_82 : decode cX10_feed 82 = .ok (.iload 6, 2) := by decide +kernel
theorem dX10_feed_84 : decode cX10_feed 84 = .ok (.iconst 4, 1) := by decide +kernel
theorem dX10_feed_85 : decode cX10_feed 85 = .ok (.idiv, 1) := by decide +kernel
theorem dX10_feed_86 : decode cX10_feed 86 = .ok (.iaload, 1) := by decide +kernel
theorem dX10_feed_87 : decode cX10_feed 87 = .ok (.bipush 24, 2) := by decide +kernel
theorem dX10_feed_89 : decode cX10_feed 89 = .ok (.bipush 8, 2) := by decide +kernel
theorem dX10_feed_91 : decode cX10_feed 91 = .ok (.iload 6, 2) := by decide +kernel
theorem dX10_feed_93 : decode cX10_feed 93 = .ok (.iconst 4, 1) := by decide +kernel
theorem dX10_feed_94 : decode cX10_feed 94 = .ok (.irem, 1) := by decide +kernel
theorem dX10_feed_95 : decode cX10_feed 95 = .ok (.imul, 1) := by decide +kernel
theorem dX10_feed_96 : decode cX10_feed 96 = .ok (.isub, 1) := by decide +kernel
theorem dX10_feed_97 : decode cX10_feed 97 = .ok (.ishr, 1) := by decide +kernel
theorem dX10_feed_98 : decode cX10_feed 98 = .ok (.i2b, 1) := by decide +kernel
theorem dX10_feed_99 : decode cX10_feed 99 = .ok (.bastore, 1) := by decide +kernel
theorem dX10_feed_100 : decode cX10_feed 100 = .ok (.iinc 6 1, 3) := by decide +kernel
theorem dX10_feed_103 : decode cX10_feed 103 = .ok (.goto (-43), 3) := by decide +kernel
theorem dX10_feed_106 : decode cX10_feed 106 = .ok (.aload_n 0, 1) := by decide +kernel
theorem dX10_feed_107 : decode cX10_feed 107 = .ok (.dup, 1) := by decide +kernel
theorem dX10_feed_108 : decode cX10_feed 108 = .ok (.getfield 103, 3) := by decide +kernel
theorem dX10_feed_111 : decode cX10_feed 111 = .ok (.bipush 20, 2) := by decide +kernel
theorem dX10_feed_113 : decode cX10_feed 113 = .ok (.iadd, 1) := by decide +kernel
theorem dX10_feed_114 : decode cX10_feed 114 = .ok (.putfield 103, 3) := by decide +kernel
theorem dX10_feed_117 : decode cX10_feed 117 = .ok (.aload_n 0, 1) := by decide +kernel
theorem dX10_feed_118 : decode cX10_feed 118 = .ok (.getfield 103, 3) := by decide +kernel
theorem dX10_feed_121 : decode cX10_feed 121 = .ok (.ireturn, 1) := by decide +kernel
theorem dX10_end_0 : decode cX10_end 0 = .ok (.aload_n 0, 1) := by decide +kernel
theorem dX10_end_1 : decode cX10_end 1 = .ok (.iconst 0, 1) := by decide +kernel
theorem dX10_end_2 : decode cX10_end 2 = .ok (.putfield 100, 3) := by decide +kernel
theorem dX10_end_5 : decode cX10_end 5 = .ok (.iload_n 1, 1) := by decide +kernel
theorem dX10_end_6 : decode cX10_end 6 = .ok (.ifCond .lt 11, 3) := by decide +kernel
theorem dX10_end_9 : decode cX10_end 9 = .ok (.iload_n 1, 1) := by decide +kernel
theorem dX10_end_10 : decode cX10_end 10 = .ok (.aload_n 0, 1) := by decide +kernel
theorem dX10_end_11 : decode cX10_end 11 = .ok (.getfield 103, 3) := by decide +kernel
theorem dX10_end_14 : decode cX10_end 14 = .ok (.if_icmp .le 5, 3) := by decide +kernel
theorem dX10_end_17 : decode cX10_end 17 = .ok (.iconst 0, 1) := by decide +kernel
theorem dX10_end_18 : decode cX10_end 18 = .ok (.ireturn, 1) := by decide +kernel
theorem dX10_end_19 : decode cX10_end 19 = .ok (.aload_n 0, 1) := by decide +kernel
theorem dX10_end_20 : decode cX10_end 20 = .ok (.iload_n 1, 1) := by decide +kernel
theorem dX10_end_21 : decode cX10_end 21 = .ok (.putfield 103, 3) := by decide +kernel
theorem dX10_end_24 : decode cX10_end 24 = .ok (.iconst 1, 1) := by decide +kernel
theorem dX10_end_25 : decode cX10_end 25 = .ok (.ireturn, 1) := by decide +kernel
theorem dX10_isAt_0 : decode cX10_isAt 0 = .ok (.aload_n 0, 1) := by decide +kernel
theorem dX10_isAt_1 : decode cX10_isAt 1 = .ok (.getfield 106, 3) := by decide +kernel
theorem dX10_isAt_4 : decode cX10_isAt 4 = .ok (.aload_n 0, 1) := by decide +kernel
theorem dX10_isAt_5 : decode cX10_isAt 5 = .ok (.getfield 109, 3) := by decide +kernel
theorem dX10_isAt_8 : decode cX10_isAt 8 = .ok (.if_icmp .ge 33, 3) := by decide +kernel
theorem dX10_isAt_11 : decode cX10_isAt 11 = .ok (.aload_n 0, 1) := by decide +kernel
theorem dX10_isAt_12 : decode cX10_isAt 12 = .ok (.getfield 9, 3) := by decide +kernel
theorem dX10_isAt_15 : decode cX10_isAt 15 = .ok (.aload_n 0, 1) := by decide +kernel
theorem dX10_isAt_16 : decode cX10_isAt 16 = .ok (.getfield 106, 3) := by decide +kernel
theorem dX10_isAt_19 : decode cX10_isAt 19 = .ok (.baload, 1) := by decide +kernel
theorem dX10_isAt_20 : decode cX10_isAt 20 = .ok (.iload_n 1, 1) := by decide +kernel
theorem dX10_isAt_21 : decode cX10_isAt 21 = .ok (.if_icmp .lt 20, 3) := by decide +kernel
theorem dX10_isAt_24 : decode cX10_isAt 24 = .ok (.aload_n 0, 1) := by decide +kernel
theorem dX10_isAt_25 : decode cX10_isAt 25 = .ok (.getfield 9, 3) := by decide +kernel
theorem dX10_isAt_28 : decode cX10_isAt 28 = .ok (.aload_n 0, 1) := by decide +kernel
theorem dX10_isAt_29 : decode cX10_isAt 29 = .ok (.getfield 106, 3) := by decide +kernel
theorem dX10_isAt_32 : decode cX10_isAt 32 = .ok (.baload, 1) := by decide +kernel
theorem dX10_isAt_33 : decode cX10_isAt 33 = .ok (.iload_n 2, 1) := by decide +kernel
theorem dX10_isAt_34 : decode cX10_isAt 34 = .ok (.if_icmp .gt 7, 3) := by decide +kernel
theorem dX10_isAt_37 : decode cX10_isAt 37 = .ok (.iconst 1, 1) := by decide +kernel
theorem dX10_isAt_38 : decode cX10_isAt 38 = .ok (.goto 4, 3) := by decide +kernel
theorem dX10_isAt_41 : decode cX10_isAt 41 = .ok (.iconst 0, 1) := by decide +kernel
theorem dX10_isAt_42 : decode cX10_isAt 42 = .ok (.ireturn, 1) := by decide +kernel
theorem dX10_blanks_0 : decode cX10_blanks 0 = .ok (.aload_n 0, 1) := by decide +kernel
theorem dX10_blanks_1 : decode cX10_blanks 1 = .ok (.bipush 9, 2) := by decide +kernel
theorem dX10_blanks_3 : decode cX10_blanks 3 = .ok (.bipush 10, 2) := by decide +kernel
theorem dX10_blanks_5 : decode cX10_blanks 5 = .ok (.invokevirtual 112, 3) := by decide +kernel
theorem dX10_blanks_8 : decode cX10_blanks 8 = .ok (.ifCond .ne 14, 3) := by decide +kernel
theorem dX10_blanks_11 : decode cX10_blanks 11 = .ok (.aload_n 0, 1) := by decide +kernel
theorem dX10_blanks_12 : decode cX10_blanks 12 = .ok (.bipush 32, 2) := by decide +kernel
theorem dX10_blanks_14 : decode cX10_blanks 14 = .ok (.bipush 32, 2) := by decide +kernel
theorem dX10_blanks_16 : decode cX10_blanks 16 = .ok (.invokevirtual 112, 3) := by decide +kernel
theorem dX10_blanks_19 : decode cX10_blanks 19 = .ok (.ifCond .eq 16, 3) := by decide +kernel
theorem dX10_blanks_22 : decode cX10_blanks 22 = .ok (.aload_n 0, 1) := by decide +kernel
theorem dX10_blanks_23 : decode cX10_blanks 23 = .ok (.dup, 1) := by decide +kernel
theorem dX10_blanks_24 : decode cX10_blanks 24 = .ok (.getfield 106, 3) := by decide +kernel
theorem dX10_blanks_27 : decode cX10_blanks 27 = .ok (.iconst 1, 1) := by decide +kernel
theorem dX10_blanks_28 : decode cX10_blanks 28 = .ok (.iadd, 1) := by decide +kernel
theorem dX10_blanks_29 : decode cX10_blanks 29 = .ok (.putfield 106, 3) := by decide +kernel
theorem dX10_blanks_32 : decode cX10_blanks 32 = .ok (.goto (-32), 3) := by decide +kernel
theorem dX10_blanks_35 : decode cX10_blanks 35 = .ok (.aload_n 0, 1) := by decide +kernel
theorem dX10_blanks_36 : decode cX10_blanks 36 = .ok (.aload_n 0, 1) := by decide +kernel
theorem dX10_blanks_37 : decode cX10_blanks 37 = .ok (.getfield 106, 3) := by decide +kernel
theorem dX10_blanks_40 : decode cX10_blanks 40 = .ok (.putfield 116, 3) := by decide +kernel
theorem dX10_blanks_43 : decode cX10_blanks 43 = .ok (.return_, 1) := by decide +kernel
theorem dX10_word_0 : decode cX10_word 0 = .ok (.aload_n 0, 1) := by decide +kernel
theorem dX10_word_1 : decode cX10_word 1 = .ok (.invokevirtual 119, 3) := by decide +kernel
theorem dX10_word_4 : decode cX10_word 4 = .ok (.aload_n 0, 1) := by decide +kernel
theorem dX10_word_5 : decode cX10_word 5 = .ok (.bipush 97, 2) := by decide +kernel
theorem dX10_word_7 : decode cX10_word 7 = .ok (.bipush 122, 2) := by decide +kernel
theorem dX10_word_9 : decode cX10_word 9 = .ok (.invokevirtual 112, 3) := by decide +kernel
theorem dX10_word_12 : decode cX10_word 12 = .ok (.ifCond .eq 16, 3) := by decide +kernel
theorem dX10_word_15 : decode cX10_word 15 = .ok (.aload_n 0, 1) := by decide +kernel
theorem dX10_word_16 : decode cX10_word 16 = .ok (.dup, 1) := by decide +kernel
theorem dX10_word_17 : decode cX10_word 17 = .ok (.getfield 106, 3) := by decide +kernel
theorem dX10_word_20 : decode cX10_word 20 = .ok (.iconst 1, 1) := by decide +kernel
theorem dX10_word_21 : decode cX10_word 21 = .ok (.iadd, 1) := by decide +kernel
theorem dX10_word_22 : decode cX10_word 22 = .ok (.putfield 106, 3) := by decide +kernel
theorem dX10_word_25 : decode cX10_word 25 = .ok (.goto (-21), 3) := by decide +kernel
theorem dX10_word_28 : decode cX10_word 28 = .ok (.aload_n 0, 1) := by decide +kernel
theorem dX10_word_29 : decode cX10_word 29 = .ok (.getfield 106, 3) := by decide +kernel
theorem dX10_word_32 : decode cX10_word 32 = .ok (.aload_n 0, 1) := by decide +kernel
theorem dX10_word_33 : decode cX10_word 33 = .ok (.getfield 116, 3) := by decide +kernel
theorem dX10_word_36 : decode cX10_word 36 = .ok (.if_icmp .le 7, 3) := by decide +kernel
theorem dX10_word_39 : decode cX10_word 39 = .ok (.iconst 1, 1) := by decide +kernel
theorem dX10_word_40 : decode cX10_word 40 = .ok (.goto 4, 3) := by decide +kernel
theorem dX10_word_43 : decode cX10_word 43 = .ok (.iconst 0, 1) := by decide +kernel
theorem dX10_word_44 : decode cX10_word 44 = .ok (.ireturn, 1) := by decide +kernel
theorem dX10_takes_0 : decode cX10_takes 0 = .ok (.aload_n 0, 1) := by decide +kernel
theorem dX10_takes_1 : decode cX10_takes 1 = .ok (.invokevirtual 119, 3) := by decide +kernel
theorem dX10_takes_4 : decode cX10_takes 4 = .ok (.aload_n 0, 1) := by decide +kernel
theorem dX10_takes_5 : decode cX10_takes 5 = .ok (.iload_n 1, 1) := by decide +kernel
theorem dX10_takes_6 : decode cX10_takes 6 = .ok (.iload_n 1, 1) := by decide +kernel
theorem dX10_takes_7 : decode cX10_takes 7 = .ok (.invokevirtual 112, 3) := by decide +kernel
theorem dX10_takes_10 : decode cX10_takes 10 = .ok (.ifCond .ne 5, 3) := by decide +kernel
theorem dX10_takes_13 : decode cX10_takes 13 = .ok (.iconst 0, 1) := by decide +kernel
theorem dX10_takes_14 : decode cX10_takes 14 = .ok (.ireturn, 1) := by decide +kernel
theorem dX10_takes_15 : decode cX10_takes 15 = .ok (.aload_n 0, 1) := by decide +kernel
theorem dX10_takes_16 : decode cX10_takes 16 = .ok (.dup, 1) := by decide +kernel
theorem dX10_takes_17 : decode cX10_takes 17 = .ok (.getfield 106, 3) := by decide +kernel
theorem dX10_takes_20 : decode cX10_takes 20 = .ok (.iconst 1, 1) := by decide +kernel
theorem dX10_takes_21 : decode cX10_takes 21 = .ok (.iadd, 1) := by decide +kernel
theorem dX10_takes_22 : decode cX10_takes 22 = .ok (.putfield 106, 3) := by decide +kernel
theorem dX10_takes_25 : decode cX10_takes 25 = .ok (.iconst 1, 1) := by decide +kernel
theorem dX10_takes_26 : decode cX10_takes 26 = .ok (.ireturn, 1) := by decide +kernel
theorem dX10_isName_0 : decode cX10_isName 0 = .ok (.aload_n 0, 1) := by decide +kernel
theorem dX10_isName_1 : decode cX10_isName 1 = .ok (.getfield 106, 3) := by decide +kernel
theorem dX10_isName_4 : decode cX10_isName 4 = .ok (.aload_n 0, 1) := by decide +kernel
theorem dX10_isName_5 : decode cX10_isName 5 = .ok (.getfield 116, 3) := by decide +kernel
theorem dX10_isName_8 : decode cX10_isName 8 = .ok (.isub, 1) := by decide +kernel
theorem dX10_isName_9 : decode cX10_isName 9 = .ok (.iconst 1, 1) := by decide +kernel
theorem dX10_isName_10 : decode cX10_isName 10 = .ok (.bipush 6, 2) := by decide +kernel
theorem dX10_isName_12 : decode cX10_isName 12 = .ok (.invokestatic 132, 3) := by decide +kernel
theorem dX10_isName_15 : decode cX10_isName 15 = .ok (.ifCond .eq 52, 3) := by decide +kernel
theorem dX10_isName_18 : decode cX10_isName 18 = .ok (.aload_n 0, 1) := by decide +kernel
theorem dX10_isName_19 : decode cX10_isName 19 = .ok (.ldc 136, 2) := by decide +kernel
theorem dX10_isName_21 : decode cX10_isName 21 = .ok (.invokevirtual 138, 3) := by decide +kernel
theorem dX10_isName_24 : decode cX10_isName 24 = .ok (.ifCond .ne 43, 3) := by decide +kernel
theorem dX10_isName_27 : decode cX10_isName 27 = .ok (.aload_n 0, 1) := by decide +kernel
theorem dX10_isName_28 : decode cX10_isName 28 = .ok (.ldc 142, 2) := by decide +kernel
theorem dX10_isName_30 : decode cX10_isName 30 = .ok (.invokevirtual 138, 3) := by decide +kernel
theorem dX10_isName_33 : decode cX10_isName 33 = .ok (.ifCond .ne 34, 3) := by decide +kernel
theorem dX10_isName_36 : decode cX10_isName 36 = .ok (.aload_n 0, 1) := by decide +kernel
theorem dX10_isName_37 : decode cX10_isName 37 = .ok (.ldc 144, 2) := by decide +kernel
theorem dX10_isName_39 : decode cX10_isName 39 = .ok (.invokevirtual 138, 3) := by decide +kernel
theorem dX10_isName_42 : decode cX10_isName 42 = .ok (.ifCond .ne 25, 3) := by decide +kernel
theorem dX10_isName_45 : decode cX10_isName 45 = .ok (.aload_n 0, 1) := by decide +kernel
theorem dX10_isName_46 : decode cX10_isName 46 = .ok (.ldc 146, 2) := by decide +kernel
theorem dX10_isName_48 : decode cX10_isName 48 = .ok (.invokevirtual 138, 3) := by decide +kernel
theorem dX10_isName_51 : decode cX10_isName 51 = .ok (.ifCond .ne 16, 3) := by decide +kernel
theorem dX10_isName_54 : decode cX10_isName 54 = .ok (.aload_n 0, 1) := by decide +kernel
theorem dX10_isName_55 : decode cX10_isName 55 = .ok (.ldc 147, 2) := by decide +kernel
theorem dX10_isName_57 : decode cX10_isName 57 = .ok (.invokevirtual 138, 3) := by decide +kernel
theorem dX10_isName_60 : decode cX10_isName 60 = .ok (.ifCond .ne 7, 3) := by decide +kernel
theorem dX10_isName_63 : decode cX10_isName 63 = .ok (.iconst 1, 1) := by decide +kernel
theorem dX10_isName_64 : decode cX10_isName 64 = .ok (.goto 4, 3) := by decide +kernel
theorem dX10_isName_67 : decode cX10_isName 67 = .ok (.iconst 0, 1) := by decide +kernel
theorem dX10_isName_68 : decode cX10_isName 68 = .ok (.ireturn, 1) := by decide +kernel
theorem dX10_newNamed_0 : decode cX10_newNamed 0 = .ok (.iconst 0, 1) := by decide +kernel
theorem dX10_newNamed_1 : decode cX10_newNamed 1 = .ok (.istore_n 1, 1) := by decide +kernel
theorem dX10_newNamed_2 : decode cX10_newNamed 2 = .ok (.iload_n 1, 1) := by decide +kernel
theorem dX10_newNamed_3 : decode cX10_newNamed 3 = .ok (.bipush 15, 2) := by decide +kernel
theorem dX10_newNamed_5 : decode cX10_newNamed 5 = .ok (.if_icmp .ge 123, 3) := by decide +kernel
theorem dX10_newNamed_8 : decode cX10_newNamed 8 = .ok (.iload_n 1, 1) := by decide +kernel
theorem dX10_newNamed_9 : decode cX10_newNamed 9 = .ok (.bipush 10, 2) := by decide +kernel
theorem dX10_newNamed_11 : decode cX10_newNamed 11 = .ok (.if_icmp .ge 14, 3) := by decide +kernel
theorem dX10_newNamed_14 : decode cX10_newNamed 14 = .ok (.iload_n 1, 1) := by decide +kernel
theorem dX10_newNamed_15 : decode cX10_newNamed 15 = .ok (.aload_n 0, 1) := by decide +kernel
theorem dX10_newNamed_16 : decode cX10_newNamed 16 = .ok (.getfield 149, 3) := by decide +kernel
theorem dX10_newNamed_19 : decode cX10_newNamed 19 = .ok (.if_icmp .lt 20, 3) := by decide +kernel
theorem dX10_newNamed_22 : decode cX10_newNamed 22 = .ok (.goto 100, 3) := by decide +kernel
theorem dX10_newNamed_25 : decode cX10_newNamed 25 = .ok (.iload_n 1, 1) := by decide +kernel
theorem dX10_newNamed_26 : decode cX10_newNamed 26 = .ok (.bipush 10, 2) := by decide +kernel
theorem dX10_newNamed_28 : decode cX10_newNamed 28 = .ok (.isub, 1) := by decide +kernel
theorem dX10_newNamed_29 : decode cX10_newNamed 29 = .ok (.aload_n 0, 1) := by decide +kernel
theorem dX10_newNamed_30 : decode cX10_newNamed 30 = .ok (.getfield 152, 3) := by decide +kernel
theorem dX10_newNamed_33 : decode cX10_newNamed 33 = .ok (.if_icmp .lt 6, 3) := by decide +kernel
theorem dX10_newNamed_36 : decode cX10_newNamed 36 = .ok (.goto 86, 3) := by decide +kernel
theorem dX10_newNamed_39 : decode cX10_newNamed 39 = .ok (.aload_n 0, 1) := by decide +kernel
theorem dX10_newNamed_40 : decode cX10_newNamed 40 = .ok (.getfield 106, 3) := by decide +kernel
theorem dX10_newNamed_43 : decode cX10_newNamed 43 = .ok (.aload_n 0, 1) := by decide +kernel
theorem dX10_newNamed_44 : decode cX10_newNamed 44 = .ok (.getfield 116, 3) := by decide +kernel
theorem dX10_newNamed_47 : decode cX10_newNamed 47 = .ok (.isub, 1) := by decide +kernel
theorem dX10_newNamed_48 : decode cX10_newNamed 48 = .ok (.aload_n 0, 1) := by decide +kernel
theorem dX10_newNamed_49 : decode cX10_newNamed 49 = .ok (.getfield 30, 3) := by decide +kernel
theorem dX10_newNamed_52 : decode cX10_newNamed 52 = .ok (.iload_n 1, 1) := by decide +kernel
theorem dX10_newNamed_53 : decode cX10_newNamed 53 = .ok (.iaload, 1) := by decide +kernel
theorem dX10_newNamed_54 : decode cX10_newNamed 54 = .ok (.if_icmp .ne 7, 3) := by decide +kernel
theorem dX10_newNamed_57 : decode cX10_newNamed 57 = .ok (.iconst 1, 1) := by decide +kernel
theorem dX10_newNamed_58 : decode cX10_newNamed 58 = .ok (.goto 4, 3) := by decide +kernel
theorem dX10_newNamed_61 : decode cX10_newNamed 61 = .ok (.iconst 0, 1) := by decide +kernel
theorem dX10_newNamed_62 : decode cX10_newNamed 62 = .ok (.istore_n 2, 1) := by decide +kernel
theorem dX10_newNamed_63 : decode cX10_newNamed 63 = .ok (.iconst 0, 1) := by decide +kernel
theorem dX10_newNamed_64 : decode cX10_newNamed 64 = .ok (.istore_n 3, 1) := by decide +kernel
theorem dX10_newNamed_65 : decode cX10_newNamed 65 = .ok (.iload_n 2, 1) := by decide +kernel
theorem dX10_newNamed_66 : decode cX10_newNamed 66 = .ok (.ifCond .eq 50, 3) := by decide +kernel
theorem dX10_newNamed_69 : decode cX10_newNamed 69 = .ok (.iload_n 3, 1) := by decide +kernel
theorem dX10_newNamed_70 : decode cX10_newNamed 70 = .ok (.aload_n 0, 1) := by decide +kernel
theorem dX10_newNamed_71 : decode cX10_newNamed 71 = .ok (.getfield 30, 3) := by decide +kernel
theorem dX10_newNamed_74 : decode cX10_newNamed 74 = .ok (.iload_n 1, 1) := by decide +kernel
theorem dX10_newNamed_75 : decode cX10_newNamed 75 = .ok (.iaload, 1) := by decide +kernel
theorem dX10_newNamed_76 : decode cX10_newNamed 76 = .ok (.if_icmp .ge 40, 3) := by decide +kernel
theorem dX10_newNamed_79 : decode cX10_newNamed 79 = .ok (.aload_n 0, 1) := by decide +kernel
theorem dX10_newNamed_80 : decode cX10_newNamed 80 = .ok (.getfield 9, 3) := by decide +kernel
theorem dX10_newNamed_83 : decode cX10_newNamed 83 = .ok (.aload_n 0, 1) := by decide +kernel
theorem dX10_newNamed_84 : decode cX10_newNamed 84 = .ok (.getfield 116, 3) := by decide +kernel
theorem dX10_newNamed_87 : decode cX10_newNamed 87 = .ok (.iload_n 3, 1) := by decide +kernel
theorem dX10_newNamed_88 : decode cX10_newNamed 88 = .ok (.iadd, 1) := by decide +kernel
theorem dX10_newNamed_89 : decode cX10_newNamed 89 = .ok (.baload, 1) := by decide +kernel
theorem dX10_newNamed_90 : decode cX10_newNamed 90 = .ok (.aload_n 0, 1) := by decide +kernel
theorem dX10_newNamed_91 : decode cX10_newNamed 91 = .ok (.getfield 24, 3) := by decide +kernel
theorem dX10_newNamed_94 : decode cX10_newNamed 94 = .ok (.bipush 6, 2) := by decide +kernel
theorem dX10_newNamed_96 : decode cX10_newNamed 96 = .ok (.iload_n 1, 1) := by decide +kernel
theorem dX10_newNamed_97 : decode cX10_newNamed 97 = .ok (.imul, 1) := by decide +kernel
theorem dX10_newNamed_98 : decode cX10_newNamed 98 = .ok (.iload_n 3, 1) := by decide +kernel
theorem dX10_newNamed_99 : decode cX10_newNamed 99 = .ok (.iadd, 1) := by decide +kernel
theorem dX10_newNamed_100 : decode cX10_newNamed 100 = .ok (.baload, 1) := by decide +kernel
theorem dX10_newNamed_101 : decode cX10_newNamed 101 = .ok (.if_icmp .ne 7, 3) := by decide +kernel
theorem dX10_newNamed_104 : decode cX10_newNamed 104 = .ok (.iconst 1, 1) := by decide +kernel
theorem dX10_newNamed_105 : decode cX10_newNamed 105 = .ok (.goto 4, 3) := by decide +kernel
theorem dX10_newNamed_108 : decode cX10_newNamed 108 = .ok (.iconst 0, 1) := by decide +kernel
theorem dX10_newNamed_109 : decode cX10_newNamed 109 = .ok (.istore_n 2, 1) := by decide +kernel
theorem dX10_newNamed_110 : decode cX10_newNamed 110 = .ok (.iinc 3 1, 3) := by decide +kernel
theorem dX10_newNamed_113 : decode cX10_newNamed 113 = .ok (.goto (-48), 3) := by decide +kernel
theorem dX10_newNamed_116 : decode cX10_newNamed 116 = .ok (.iload_n 2, 1) := by decide +kernel
theorem dX10_newNamed_117 : decode cX10_newNamed 117 = .ok (.ifCond .eq 5, 3) := by decide +kernel
theorem dX10_newNamed_120 : decode cX10_newNamed 120 = .ok (.iload_n 1, 1) := by decide +kernel
theorem dX10_newNamed_121 : decode cX10_newNamed 121 = .ok (.ireturn, 1) := by decide +kernel
theorem dX10_newNamed_122 : decode cX10_newNamed 122 = .ok (.iinc 1 1, 3) := by decide +kernel
theorem dX10_newNamed_125 : decode cX10_newNamed 125 = .ok (.goto (-123), 3) := by decide +kernel
theorem dX10_newNamed_128 : decode cX10_newNamed 128 = .ok (.iconst (-1), 1) := by decide +kernel
theorem dX10_newNamed_129 : decode cX10_newNamed 129 = .ok (.ireturn, 1) := by decide +kernel
theorem dX10_readsName_0 : decode cX10_readsName 0 = .ok (.aload_n 0, 1) := by decide +kernel
theorem dX10_readsName_1 : decode cX10_readsName 1 = .ok (.invokevirtual 155, 3) := by decide +kernel
theorem dX10_readsName_4 : decode cX10_readsName 4 = .ok (.ifCond .eq 18, 3) := by decide +kernel
theorem dX10_readsName_7 : decode cX10_readsName 7 = .ok (.aload_n 0, 1) := by decide +kernel
theorem dX10_readsName_8 : decode cX10_readsName 8 = .ok (.invokevirtual 159, 3) := by decide +kernel
theorem dX10_readsName_11 : decode cX10_readsName 11 = .ok (.ifCond .eq 11, 3) := by decide +kernel
theorem dX10_readsName_14 : decode cX10_readsName 14 = .ok (.aload_n 0, 1) := by decide +kernel
theorem dX10_readsName_15 : decode cX10_readsName 15 = .ok (.invokevirtual 162, 3) := by decide +kernel
theorem dX10_readsName_18 : decode cX10_readsName 18 = .ok (.iconst (-1), 1) := by decide +kernel
theorem dX10_readsName_19 : decode cX10_readsName 19 = .ok (.if_icmp .eq 5, 3) := by decide +kernel
theorem dX10_readsName_22 : decode cX10_readsName 22 = .ok (.iconst 0, 1) := by decide +kernel
theorem dX10_readsName_23 : decode cX10_readsName 23 = .ok (.ireturn, 1) := by decide +kernel
theorem dX10_readsName_24 : decode cX10_readsName 24 = .ok (.aload_n 0, 1) := by decide +kernel
theorem dX10_readsName_25 : decode cX10_readsName 25 = .ok (.getfield 30, 3) := by decide +kernel
theorem dX10_readsName_28 : decode cX10_readsName 28 = .ok (.iload_n 1, 1) := by decide +kernel
theorem dX10_readsName_29 : decode cX10_readsName 29 = .ok (.aload_n 0, 1) := by decide +kernel
theorem dX10_readsName_30 : decode cX10_readsName 30 = .ok (.getfield 106, 3) := by decide +kernel
theorem dX10_readsName_33 : decode cX10_readsName 33 = .ok (.aload_n 0, 1) := by decide +kernel
theorem dX10_readsName_34 : decode cX10_readsName 34 = .ok (.getfield 116, 3) := by decide +kernel
theorem dX10_readsName_37 : decode cX10_readsName 37 = .ok (.isub, 1) := by decide +kernel
theorem dX10_readsName_38 : decode cX10_readsName 38 = .ok (.iastore, 1) := by decide +kernel
theorem dX10_readsName_39 : decode cX10_readsName 39 = .ok (.iconst 0, 1) := by decide +kernel
theorem dX10_readsName_40 : decode cX10_readsName 40 = .ok (.istore_n 2, 1) := by decide +kernel
theorem dX10_readsName_41 : decode cX10_readsName 41 = .ok (.iload_n 2, 1) := by decide +kernel
theorem dX10_readsName_42 : decode cX10_readsName 42 = .ok (.aload_n 0, 1) := by decide +kernel
theorem dX10_readsName_43 : decode cX10_readsName 43 = .ok (.getfield 30, 3) := by decide +kernel
theorem dX10_readsName_46 : decode cX10_readsName 46 = .ok (.iload_n 1, 1) := by decide +kernel
theorem dX10_readsName_47 : decode cX10_readsName 47 = .ok (.iaload, 1) := by decide +kernel
theorem dX10_readsName_48 : decode cX10_readsName 48 = .ok (.if_icmp .ge 31, 3) := by decide +kernel
theorem dX10_readsName_51 : decode cX10_readsName 51 = .ok (.aload_n 0, 1) := by decide +kernel
theorem dX10_readsName_52 : decode cX10_readsName 52 = .ok (.getfield 24, 3) := by decide +kernel
theorem dX10_readsName_55 : decode cX10_readsName 55 = .ok (.bipush 6, 2) := by decide +kernel
theorem dX10_readsName_57 : decode cX10_readsName 57 = .ok (.iload_n 1, 1) := by decide +kernel
theorem dX10_readsName_58 : decode cX10_readsName 58 = .ok (.imul, 1) := by decide +kernel
theorem dX10_readsName_59 : decode cX10_readsName 59 = .ok (.iload_n 2, 1) := by decide +kernel
theorem dX10_readsName_60 : decode cX10_readsName 60 = .ok (.iadd, 1) := by decide +kernel
theorem dX10_readsName_61 : decode cX10_readsName 61 = .ok (.aload_n 0, 1) := by decide +kernel
theorem dX10_readsName_62 : decode cX10_readsName 62 = .ok (.getfield 9, 3) := by decide +kernel
theorem dX10_readsName_65 : decode cX10_readsName 65 = .ok (.aload_n 0, 1) := by decide +kernel
theorem dX10_readsName_66 : decode cX10_readsName 66 = .ok (.getfield 116, 3) := by decide +kernel
theorem dX10_readsName_69 : decode cX10_readsName 69 = .ok (.iload_n 2, 1) := by decide +kernel
theorem dX10_readsName_70 : decode cX10_readsName 70 = .ok (.iadd, 1) := by decide +kernel
theorem dX10_readsName_71 : decode cX10_readsName 71 = .ok (.baload, 1) := by decide +kernel
theorem dX10_readsName_72 : decode cX10_readsName 72 = .ok (.bastore, 1) := by decide +kernel
theorem dX10_readsName_73 : decode cX10_readsName 73 = .ok (.iinc 2 1, 3) := by decide +kernel
theorem dX10_readsName_76 : decode cX10_readsName 76 = .ok (.goto (-35), 3) := by decide +kernel
theorem dX10_readsName_79 : decode cX10_readsName 79 = .ok (.iconst 1, 1) := by decide +kernel
theorem dX10_readsName_80 : decode cX10_readsName 80 = .ok (.ireturn, 1) := by decide +kernel
theorem dX10_readsNumber_0 : decode cX10_readsNumber 0 = .ok (.aload_n 0, 1) := by decide +kernel
theorem dX10_readsNumber_1 : decode cX10_readsNumber 1 = .ok (.invokevirtual 119, 3) := by decide +kernel
theorem dX10_readsNumber_4 : decode cX10_readsNumber 4 = .ok (.iconst 0, 1) := by decide +kernel
theorem dX10_readsNumber_5 : decode cX10_readsNumber 5 = .ok (.istore_n 1, 1) := by decide +kernel
theorem dX10_readsNumber_6 : decode cX10_readsNumber 6 = .ok (.aload_n 0, 1) := by decide +kernel
theorem dX10_readsNumber_7 : decode cX10_readsNumber 7 = .ok (.bipush 48, 2) := by decide +kernel
theorem dX10_readsNumber_9 : decode cX10_readsNumber 9 = .ok (.bipush 57, 2) := by decide +kernel
theorem dX10_readsNumber_11 : decode cX10_readsNumber 11 = .ok (.invokevirtual 112, 3) := by decide +kernel
theorem dX10_readsNumber_14 : decode cX10_readsNumber 14 = .ok (.ifCond .eq 29, 3) := by decide +kernel
theorem dX10_readsNumber_17 : decode cX10_readsNumber 17 = .ok (.aload_n 0, 1) := by decide +kernel
theorem dX10_readsNumber_18 : decode cX10_readsNumber 18 = .ok (.getfield 9, 3) := by decide +kernel
theorem dX10_readsNumber_21 : decode cX10_readsNumber 21 = .ok (.aload_n 0, 1) := by decide +kernel
theorem dX10_readsNumber_22 : decode cX10_readsNumber 22 = .ok (.getfield 106, 3) := by decide +kernel
theorem dX10_readsNumber_25 : decode cX10_readsNumber 25 = .ok (.baload, 1) := by decide +kernel
theorem dX10_readsNumber_26 : decode cX10_readsNumber 26 = .ok (.bipush 48, 2) := by decide +kernel
theorem dX10_readsNumber_28 : decode cX10_readsNumber 28 = .ok (.isub, 1) := by decide +kernel
theorem dX10_readsNumber_29 : decode cX10_readsNumber 29 = .ok (.istore_n 1, 1) := by decide +kernel
theorem dX10_readsNumber_30 : decode cX10_readsNumber 30 = .ok (.aload_n 0, 1) := by decide +kernel
theorem dX10_readsNumber_31 : decode cX10_readsNumber 31 = .ok (.dup, 1) := by decide +kernel
theorem dX10_readsNumber_32 : decode cX10_readsNumber 32 = .ok (.getfield 106, 3) := by decide +kernel
theorem dX10_readsNumber_35 : decode cX10_readsNumber 35 = .ok (.iconst 1, 1) := by decide +kernel
theorem dX10_readsNumber_36 : decode cX10_readsNumber 36 = .ok (.iadd, 1) := by decide +kernel
theorem dX10_readsNumber_37 : decode cX10_readsNumber 37 = .ok (.putfield 106, 3) := by decide +kernel
theorem dX10_readsNumber_40 : decode cX10_readsNumber 40 = .ok (.goto (-34), 3) := by decide +kernel
theorem dX10_readsNumber_43 : decode cX10_readsNumber 43 = .ok (.aload_n 0, 1) := by decide +kernel
theorem dX10_readsNumber_44 : decode cX10_readsNumber 44 = .ok (.getfield 45, 3) := by decide +kernel
theorem dX10_readsNumber_47 : decode cX10_readsNumber 47 = .ok (.aload_n 0, 1) := by decide +kernel
theorem dX10_readsNumber_48 : decode cX10_readsNumber 48 = .ok (.getfield 149, 3) := by decide +kernel
theorem dX10_readsNumber_51 : decode cX10_readsNumber 51 = .ok (.iload_n 1, 1) := by decide +kernel
theorem dX10_readsNumber_52 : decode cX10_readsNumber 52 = .ok (.iastore, 1) := by decide +kernel
theorem dX10_readsNumber_53 : decode cX10_readsNumber 53 = .ok (.aload_n 0, 1) := by decide +kernel
theorem dX10_readsNumber_54 : decode cX10_readsNumber 54 = .ok (.getfield 106, 3) := by decide +kernel
theorem dX10_readsNumber_57 : decode cX10_readsNumber 57 = .ok (.aload_n 0, 1) := by decide +kernel
theorem dX10_readsNumber_58 : decode cX10_readsNumber 58 = .ok (.getfield 116, 3) := by decide +kernel
theorem dX10_readsNumber_61 : decode cX10_readsNumber 61 = .ok (.isub, 1) := by decide +kernel
theorem dX10_readsNumber_62 : decode cX10_readsNumber 62 = .ok (.iconst 1, 1) := by decide +kernel
theorem dX10_readsNumber_63 : decode cX10_readsNumber 63 = .ok (.if_icmp .ne 12, 3) := by decide +kernel
theorem dX10_readsNumber_66 : decode cX10_readsNumber 66 = .ok (.iload_n 1, 1) := by decide +kernel
theorem dX10_readsNumber_67 : decode cX10_readsNumber 67 = .ok (.iconst 3, 1) := by decide +kernel
theorem dX10_readsNumber_68 : decode cX10_readsNumber 68 = .ok (.if_icmp .gt 7, 3) := by decide +kernel
theorem dX10_readsNumber_71 : decode cX10_readsNumber 71 = .ok (.iconst 1, 1) := by decide +kernel
theorem dX10_readsNumber_72 : decode cX10_readsNumber 72 = .ok (.goto 4, 3) := by decide +kernel
theorem dX10_readsNumber_75 : decode cX10_readsNumber 75 = .ok (.iconst 0, 1) := by decide +kernel
theorem dX10_readsNumber_76 : decode cX10_readsNumber 76 = .ok (.ireturn, 1) := by decide +kernel
theorem dX10_readsUnit_0 : decode cX10_readsUnit 0 = .ok (.aload_n 0, 1) := by decide +kernel
theorem dX10_readsUnit_1 : decode cX10_readsUnit 1 = .ok (.getfield 48, 3) := by decide +kernel
theorem dX10_readsUnit_4 : decode cX10_readsUnit 4 = .ok (.aload_n 0, 1) := by decide +kernel
theorem dX10_readsUnit_5 : decode cX10_readsUnit 5 = .ok (.getfield 149, 3) := by decide +kernel
theorem dX10_readsUnit_8 : decode cX10_readsUnit 8 = .ok (.iconst (-1), 1) := by decide +kernel
theorem dX10_readsUnit_9 : decode cX10_readsUnit 9 = .ok (.iastore, 1) := by decide +kernel
theorem dX10_readsUnit_10 : decode cX10_readsUnit 10 = .ok (.aload_n 0, 1) := by decide +kernel
theorem dX10_readsUnit_11 : decode cX10_readsUnit 11 = .ok (.invokevirtual 155, 3) := by decide +kernel
theorem dX10_readsUnit_14 : decode cX10_readsUnit 14 = .ok (.ifCond .ne 5, 3) := by decide +kernel
theorem dX10_readsUnit_17 : decode cX10_readsUnit 17 = .ok (.iconst 1, 1) := by decide +kernel
theorem dX10_readsUnit_18 : decode cX10_readsUnit 18 = .ok (.ireturn, 1) := by decide +kernel
theorem dX10_readsUnit_19 : decode cX10_readsUnit 19 = .ok (.aload_n 0, 1) := by decide +kernel
theorem dX10_readsUnit_20 : decode cX10_readsUnit 20 = .ok (.ldc 146, 2) := by decide +kernel
theorem dX10_readsUnit_22 : decode cX10_readsUnit 22 = .ok (.invokevirtual 138, 3) := by decide +kernel
theorem dX10_readsUnit_25 : decode cX10_readsUnit 25 = .ok (.ifCond .ne 5, 3) := by decide +kernel
theorem dX10_readsUnit_28 : decode cX10_readsUnit 28 = .ok (.iconst 0, 1) := by decide +kernel
theorem dX10_readsUnit_29 : decode cX10_readsUnit 29 = .ok (.ireturn, 1) := by decide +kernel
theorem dX10_readsUnit_30 : decode cX10_readsUnit 30 = .ok (.aload_n 0, 1) := by decide +kernel
theorem dX10_readsUnit_31 : decode cX10_readsUnit 31 = .ok (.invokevirtual 155, 3) := by decide +kernel
theorem dX10_readsUnit_34 : decode cX10_readsUnit 34 = .ok (.ifCond .ne 5, 3) := by decide +kernel
theorem dX10_readsUnit_37 : decode cX10_readsUnit 37 = .ok (.iconst 0, 1) := by decide +kernel
theorem dX10_readsUnit_38 : decode cX10_readsUnit 38 = .ok (.ireturn, 1) := by decide +kernel
theorem dX10_readsUnit_39 : decode cX10_readsUnit 39 = .ok (.aload_n 0, 1) := by decide +kernel
theorem dX10_readsUnit_40 : decode cX10_readsUnit 40 = .ok (.invokevirtual 162, 3) := by decide +kernel
theorem dX10_readsUnit_43 : decode cX10_readsUnit 43 = .ok (.istore_n 1, 1) := by decide +kernel
theorem dX10_readsUnit_44 : decode cX10_readsUnit 44 = .ok (.iload_n 1, 1) := by decide +kernel
theorem dX10_readsUnit_45 : decode cX10_readsUnit 45 = .ok (.iconst (-1), 1) := by decide +kernel
theorem dX10_readsUnit_46 : decode cX10_readsUnit 46 = .ok (.if_icmp .eq 35, 3) := by decide +kernel
theorem dX10_readsUnit_49 : decode cX10_readsUnit 49 = .ok (.iload_n 1, 1) := by decide +kernel
theorem dX10_readsUnit_50 : decode cX10_readsUnit 50 = .ok (.bipush 10, 2) := by decide +kernel
theorem dX10_readsUnit_52 : decode cX10_readsUnit 52 = .ok (.if_icmp .ge 29, 3) := by decide +kernel
theorem dX10_readsUnit_55 : decode cX10_readsUnit 55 = .ok (.iload_n 1, 1) := by decide +kernel
theorem dX10_readsUnit_56 : decode cX10_readsUnit 56 = .ok (.aload_n 0, 1) := by decide +kernel
theorem dX10_readsUnit_57 : decode cX10_readsUnit 57 = .ok (.getfield 149, 3) := by decide +kernel
theorem dX10_readsUnit_60 : decode cX10_readsUnit 60 = .ok (.if_icmp .ge 21, 3) := by decide +kernel
theorem dX10_readsUnit_63 : decode cX10_readsUnit 63 = .ok (.aload_n 0, 1) := by decide +kernel
theorem dX10_readsUnit_64 : decode cX10_readsUnit 64 = .ok (.getfield 42, 3) := by decide +kernel
theorem dX10_readsUnit_67 : decode cX10_readsUnit 67 = .ok (.iload_n 1, 1) := by decide +kernel
theorem dX10_readsUnit_68 : decode cX10_readsUnit 68 = .ok (.iaload, 1) := by decide +kernel
theorem dX10_readsUnit_69 : decode cX10_readsUnit 69 = .ok (.ifCond .ne 12, 3) := by decide +kernel
theorem dX10_readsUnit_72 : decode cX10_readsUnit 72 = .ok (.aload_n 0, 1) := by decide +kernel
theorem dX10_readsUnit_73 : decode cX10_readsUnit 73 = .ok (.getfield 45, 3) := by decide +kernel
theorem dX10_readsUnit_76 : decode cX10_readsUnit 76 = .ok (.iload_n 1, 1) := by decide +kernel
theorem dX10_readsUnit_77 : decode cX10_readsUnit 77 = .ok (.iaload, 1) := by decide +kernel
theorem dX10_readsUnit_78 : decode cX10_readsUnit 78 = .ok (.ifCond .eq 5, 3) := by decide +kernel
theorem dX10_readsUnit_81 : decode cX10_readsUnit 81 = .ok (.iconst 0, 1) := by decide +kernel
theorem dX10_readsUnit_82 : decode cX10_readsUnit 82 = .ok (.ireturn, 1) := by decide +kernel
theorem dX10_readsUnit_83 : decode cX10_readsUnit 83 = .ok (.aload_n 0, 1) := by decide +kernel
theorem dX10_readsUnit_84 : decode cX10_readsUnit 84 = .ok (.getfield 48, 3) := by decide +kernel
theorem dX10_readsUnit_87 : decode cX10_readsUnit 87 = .ok (.aload_n 0, 1) := by decide +kernel
theorem dX10_readsUnit_88 : decode cX10_readsUnit 88 = .ok (.getfield 149, 3) := by decide +kernel
theorem dX10_readsUnit_91 : decode cX10_readsUnit 91 = .ok (.iload_n 1, 1) := by decide +kernel
theorem dX10_readsUnit_92 : decode cX10_readsUnit 92 = .ok (.iastore, 1) := by decide +kernel
theorem dX10_readsUnit_93 : decode cX10_readsUnit 93 = .ok (.iconst 1, 1) := by decide +kernel
theorem dX10_readsUnit_94 : decode cX10_readsUnit 94 = .ok (.ireturn, 1) := by decide +kernel
theorem dX10_readsClause_0 : decode cX10_readsClause 0 = .ok (.aload_n 0, 1) := by decide +kernel
theorem dX10_readsClause_1 : decode cX10_readsClause 1 = .ok (.invokevirtual 155, 3) := by decide +kernel
theorem dX10_readsClause_4 : decode cX10_readsClause 4 = .ok (.istore_n 1, 1) := by decide +kernel
theorem dX10_readsClause_5 : decode cX10_readsClause 5 = .ok (.iload_n 1, 1) := by decide +kernel
theorem dX10_readsClause_6 : decode cX10_readsClause 6 = .ok (.ifCond .eq 16, 3) := by decide +kernel
theorem dX10_readsClause_9 : decode cX10_readsClause 9 = .ok (.aload_n 0, 1) := by decide +kernel
theorem dX10_readsClause_10 : decode cX10_readsClause 10 = .ok (.ldc 147, 2) := by decide +kernel
theorem dX10_readsClause_12 : decode cX10_readsClause 12 = .ok (.invokevirtual 138, 3) := by decide +kernel
theorem dX10_readsClause_15 : decode cX10_readsClause 15 = .ok (.ifCond .eq 7, 3) := by decide +kernel
theorem dX10_readsClause_18 : decode cX10_readsClause 18 = .ok (.iconst 1, 1) := by decide +kernel
theorem dX10_readsClause_19 : decode cX10_readsClause 19 = .ok (.goto 4, 3) := by decide +kernel
theorem dX10_readsClause_22 : decode cX10_readsClause 22 = .ok (.iconst 0, 1) := by decide +kernel
theorem dX10_readsClause_23 : decode cX10_readsClause 23 = .ok (.istore_n 2, 1) := by decide +kernel
theorem dX10_readsClause_24 : decode cX10_readsClause 24 = .ok (.iload_n 1, 1) := by decide +kernel
theorem dX10_readsClause_25 : decode cX10_readsClause 25 = .ok (.ifCond .ne 7, 3) := by decide +kernel
theorem dX10_readsClause_28 : decode cX10_readsClause 28 = .ok (.iconst (-1), 1) := by decide +kernel
theorem dX10_readsClause_29 : decode cX10_readsClause 29 = .ok (.goto 43, 3) := by decide +kernel
theorem dX10_readsClause_32 : decode cX10_readsClause 32 = .ok (.aload_n 0, 1) := by decide +kernel
theorem dX10_readsClause_33 : decode cX10_readsClause 33 = .ok (.ldc 136, 2) := by decide +kernel
theorem dX10_readsClause_35 : decode cX10_readsClause 35 = .ok (.invokevirtual 138, 3) := by decide +kernel
theorem dX10_readsClause_38 : decode cX10_readsClause 38 = .ok (.ifCond .eq 7, 3) := by decide +kernel
theorem dX10_readsClause_41 : decode cX10_readsClause 41 = .ok (.iconst 0, 1) := by decide +kernel
theorem dX10_readsClause_42 : decode cX10_readsClause 42 = .ok (.goto 30, 3) := by decide +kernel
theorem dX10_readsClause_45 : decode cX10_readsClause 45 = .ok (.aload_n 0, 1) := by decide +kernel
theorem dX10_readsClause_46 : decode cX10_readsClause 46 = .ok (.ldc 142, 2) := by decide +kernel
theorem dX10_readsClause_48 : decode cX10_readsClause 48 = .ok (.invokevirtual 138, 3) := by decide +kernel
theorem dX10_readsClause_51 : decode cX10_readsClause 51 = .ok (.ifCond .eq 7, 3) := by decide +kernel
theorem dX10_readsClause_54 : decode cX10_readsClause 54 = .ok (.iconst 1, 1) := by decide +kernel
theorem dX10_readsClause_55 : decode cX10_readsClause 55 = .ok (.goto 17, 3) := by decide +kernel
theorem dX10_readsClause_58 : decode cX10_readsClause 58 = .ok (.aload_n 0, 1) := by decide +kernel
theorem dX10_readsClause_59 : decode cX10_readsClause 59 = .ok (.ldc 144, 2) := by decide +kernel
theorem dX10_readsClause_61 : decode cX10_readsClause 61 = .ok (.invokevirtual 138, 3) := by decide +kernel
theorem dX10_readsClause_64 : decode cX10_readsClause 64 = .ok (.ifCond .eq 7, 3) := by decide +kernel
theorem dX10_readsClause_67 : decode cX10_readsClause 67 = .ok (.iconst 2, 1) := by decide +kernel
theorem dX10_readsClause_68 : decode cX10_readsClause 68 = .ok (.goto 4, 3) := by decide +kernel
theorem dX10_readsClause_71 : decode cX10_readsClause 71 = .ok (.iconst (-1), 1) := by decide +kernel
theorem dX10_readsClause_72 : decode cX10_readsClause 72 = .ok (.istore_n 3, 1) := by decide +kernel
theorem dX10_readsClause_73 : decode cX10_readsClause 73 = .ok (.iload_n 2, 1) := by decide +kernel
theorem dX10_readsClause_74 : decode cX10_readsClause 74 = .ok (.ifCond .ne 8, 3) := by decide +kernel
theorem dX10_readsClause_77 : decode cX10_readsClause 77 = .ok (.iload_n 3, 1) := by decide +kernel
theorem dX10_readsClause_78 : decode cX10_readsClause 78 = .ok (.iconst (-1), 1) := by decide +kernel
theorem dX10_readsClause_79 : decode cX10_readsClause 79 = .ok (.if_icmp .eq 27, 3) := by decide +kernel
theorem dX10_readsClause_82 : decode cX10_readsClause 82 = .ok (.iload_n 2, 1) := by decide +kernel
theorem dX10_readsClause_83 : decode cX10_readsClause 83 = .ok (.ifCond .eq 14, 3) := by decide +kernel
theorem dX10_readsClause_86 : decode cX10_readsClause 86 = .ok (.aload_n 0, 1) := by decide +kernel
theorem dX10_readsClause_87 : decode cX10_readsClause 87 = .ok (.getfield 152, 3) := by decide +kernel
theorem dX10_readsClause_90 : decode cX10_readsClause 90 = .ok (.iconst 5, 1) := by decide +kernel
theorem dX10_readsClause_91 : decode cX10_readsClause 91 = .ok (.if_icmp .ne 17, 3) := by decide +kernel
theorem dX10_readsClause_94 : decode cX10_readsClause 94 = .ok (.goto 12, 3) := by decide +kernel
theorem dX10_readsClause_97 : decode cX10_readsClause 97 = .ok (.aload_n 0, 1) := by decide +kernel
theorem dX10_readsClause_98 : decode cX10_readsClause 98 = .ok (.getfield 149, 3) := by decide +kernel
theorem dX10_readsClause_101 : decode cX10_readsClause 101 = .ok (.bipush 10, 2) := by decide +kernel
theorem dX10_readsClause_103 : decode cX10_readsClause 103 = .ok (.if_icmp .ne 5, 3) := by decide +kernel
theorem dX10_readsClause_106 : decode cX10_readsClause 106 = .ok (.iconst 0, 1) := by decide +kernel
theorem dX10_readsClause_107 : decode cX10_readsClause 107 = .ok (.ireturn, 1) := by decide +kernel
theorem dX10_readsClause_108 : decode cX10_readsClause 108 = .ok (.aload_n 0, 1) := by decide +kernel
theorem dX10_readsClause_109 : decode cX10_readsClause 109 = .ok (.iload_n 2, 1) := by decide +kernel
theorem dX10_readsClause_110 : decode cX10_readsClause 110 = .ok (.ifCond .eq 13, 3) := by decide +kernel
theorem dX10_readsClause_113 : decode cX10_readsClause 113 = .ok (.bipush 10, 2) := by decide +kernel
theorem dX10_readsClause_115 : decode cX10_readsClause 115 = .ok (.aload_n 0, 1) := by decide +kernel
theorem dX10_readsClause_116 : decode cX10_readsClause 116 = .ok (.getfield 152, 3) := by decide +kernel
theorem dX10_readsClause_119 : decode cX10_readsClause 119 = .ok (.iadd, 1) := by decide +kernel
theorem dX10_readsClause_120 : decode cX10_readsClause 120 = .ok (.goto 7, 3) := by decide +kernel
theorem dX10_readsClause_123 : decode cX10_readsClause 123 = .ok (.aload_n 0, 1) := by decide +kernel
theorem dX10_readsClause_124 : decode cX10_readsClause 124 = .ok (.getfield 149, 3) := by decide +kernel
theorem dX10_readsClause_127 : decode cX10_readsClause 127 = .ok (.invokevirtual 165, 3) := by decide +kernel
theorem dX10_readsClause_130 : decode cX10_readsClause 130 = .ok (.ifCond .ne 5, 3) := by decide +kernel
theorem dX10_readsClause_133 : decode cX10_readsClause 133 = .ok (.iconst 0, 1) := by decide +kernel
theorem dX10_readsClause_134 : decode cX10_readsClause 134 = .ok (.ireturn, 1) := by decide +kernel
theorem dX10_readsClause_135 : decode cX10_readsClause 135 = .ok (.iload_n 2, 1) := by decide +kernel
theorem dX10_readsClause_136 : decode cX10_readsClause 136 = .ok (.ifCond .eq 20, 3) := by decide +kernel
theorem dX10_readsClause_139 : decode cX10_readsClause 139 = .ok (.aload_n 0, 1) := by decide +kernel
theorem dX10_readsClause_140 : decode cX10_readsClause 140 = .ok (.dup, 1) := by decide +kernel
theorem dX10_readsClause_141 : decode cX10_readsClause 141 = .ok (.getfield 152, 3) := by decide +kernel
theorem dX10_readsClause_144 : decode cX10_readsClause 144 = .ok (.iconst 1, 1) := by decide +kernel
theorem dX10_readsClause_145 : decode cX10_readsClause 145 = .ok (.iadd, 1) := by decide +kernel
theorem dX10_readsClause_146 : decode cX10_readsClause 146 = .ok (.putfield 152, 3) := by decide +kernel
theorem dX10_readsClause_149 : decode cX10_readsClause 149 = .ok (.aload_n 0, 1) := by decide +kernel
theorem dX10_readsClause_150 : decode cX10_readsClause 150 = .ok (.bipush 59, 2) := by decide +kernel
theorem dX10_readsClause_152 : decode cX10_readsClause 152 = .ok (.invokevirtual 169, 3) := by decide +kernel
theorem dX10_readsClause_155 : decode cX10_readsClause 155 = .ok (.ireturn, 1) := by decide +kernel
theorem dX10_readsClause_156 : decode cX10_readsClause 156 = .ok (.aload_n 0, 1) := by decide +kernel
theorem dX10_readsClause_157 : decode cX10_readsClause 157 = .ok (.getfield 42, 3) := by decide +kernel
theorem dX10_readsClause_160 : decode cX10_readsClause 160 = .ok (.aload_n 0, 1) := by decide +kernel
theorem dX10_readsClause_161 : decode cX10_readsClause 161 = .ok (.getfield 149, 3) := by decide +kernel
theorem dX10_readsClause_164 : decode cX10_readsClause 164 = .ok (.iload_n 3, 1) := by decide +kernel
theorem dX10_readsClause_165 : decode cX10_readsClause 165 = .ok (.iastore, 1) := by decide +kernel
theorem dX10_readsClause_166 : decode cX10_readsClause 166 = .ok (.aload_n 0, 1) := by decide +kernel
theorem dX10_readsClause_167 : decode cX10_readsClause 167 = .ok (.getfield 48, 3) := by decide +kernel
theorem dX10_readsClause_170 : decode cX10_readsClause 170 = .ok (.aload_n 0, 1) := by decide +kernel
theorem dX10_readsClause_171 : decode cX10_readsClause 171 = .ok (.getfield 149, 3) := by decide +kernel
theorem dX10_readsClause_174 : decode cX10_readsClause 174 = .ok (.iconst (-1), 1) := by decide +kernel
theorem dX10_readsClause_175 : decode cX10_readsClause 175 = .ok (.iastore, 1) := by decide +kernel
theorem dX10_readsClause_176 : decode cX10_readsClause 176 = .ok (.aload_n 0, 1) := by decide +kernel
theorem dX10_readsClause_177 : decode cX10_readsClause 177 = .ok (.getfield 45, 3) := by decide +kernel
theorem dX10_readsClause_180 : decode cX10_readsClause 180 = .ok (.aload_n 0, 1) := by decide +kernel
theorem dX10_readsClause_181 : decode cX10_readsClause 181 = .ok (.getfield 149, 3) := by decide +kernel
theorem dX10_readsClause_184 : decode cX10_readsClause 184 = .ok (.iconst 2, 1) := by decide +kernel
theorem dX10_readsClause_185 : decode cX10_readsClause 185 = .ok (.iastore, 1) := by decide +kernel
theorem dX10_readsClause_186 : decode cX10_readsClause 186 = .ok (.iload_n 3, 1) := by decide +kernel
theorem dX10_readsClause_187 : decode cX10_readsClause 187 = .ok (.ifCond .ne 10, 3) := by decide +kernel
theorem dX10_readsClause_190 : decode cX10_readsClause 190 = .ok (.aload_n 0, 1) := by decide +kernel
theorem dX10_readsClause_191 : decode cX10_readsClause 191 = .ok (.invokevirtual 172, 3) := by decide +kernel
theorem dX10_readsClause_194 : decode cX10_readsClause 194 = .ok (.ifCond .eq 15, 3) := by decide +kernel
theorem dX10_readsClause_197 : decode cX10_readsClause 197 = .ok (.iload_n 3, 1) := by decide +kernel
theorem dX10_readsClause_198 : decode cX10_readsClause 198 = .ok (.iconst 2, 1) := by decide +kernel
theorem dX10_readsClause_199 : decode cX10_readsClause 199 = .ok (.if_icmp .ne 12, 3) := by decide +kernel
theorem dX10_readsClause_202 : decode cX10_readsClause 202 = .ok (.aload_n 0, 1) := by decide +kernel
theorem dX10_readsClause_203 : decode cX10_readsClause 203 = .ok (.invokevirtual 175, 3) := by decide +kernel
theorem dX10_readsClause_206 : decode cX10_readsClause 206 = .ok (.ifCond .ne 5, 3) := by decide +kernel
theorem dX10_readsClause_209 : decode cX10_readsClause 209 = .ok (.iconst 0, 1) := by decide +kernel
theorem dX10_readsClause_210 : decode cX10_readsClause 210 = .ok (.ireturn, 1) := by decide +kernel
theorem dX10_readsClause_211 : decode cX10_readsClause 211 = .ok (.aload_n 0, 1) := by decide +kernel
theorem dX10_readsClause_212 : decode cX10_readsClause 212 = .ok (.dup, 1) := by decide +kernel
theorem dX10_readsClause_213 : decode cX10_readsClause 213 = .ok (.getfield 149, 3) := by decide +kernel
theorem dX10_readsClause_216 : decode cX10_readsClause 216 = .ok (.iconst 1, 1) := by decide +kernel
theorem dX10_readsClause_217 : decode cX10_readsClause 217 = .ok (.iadd, 1) := by decide +kernel
theorem dX10_readsClause_218 : decode cX10_readsClause 218 = .ok (.putfield 149, 3) := by decide +kernel
theorem dX10_readsClause_221 : decode cX10_readsClause 221 = .ok (.aload_n 0, 1) := by decide +kernel
theorem dX10_readsClause_222 : decode cX10_readsClause 222 = .ok (.bipush 59, 2) := by decide +kernel
theorem dX10_readsClause_224 : decode cX10_readsClause 224 = .ok (.invokevirtual 169, 3) := by decide +kernel
theorem dX10_readsClause_227 : decode cX10_readsClause 227 = .ok (.ireturn, 1) := by decide +kernel
theorem dX10_begins_0 : decode cX10_begins 0 = .ok (.aload_n 0, 1) := by decide +kernel
theorem dX10_begins_1 : decode cX10_begins 1 = .ok (.iconst 0, 1) := by decide +kernel
theorem dX10_begins_2 : decode cX10_begins 2 = .ok (.putfield 100, 3) := by decide +kernel
theorem dX10_begins_5 : decode cX10_begins 5 = .ok (.aload_n 0, 1) := by decide +kernel
theorem dX10_begins_6 : decode cX10_begins 6 = .ok (.aload_n 0, 1) := by decide +kernel
theorem dX10_begins_7 : decode cX10_begins 7 = .ok (.getfield 103, 3) := by decide +kernel
theorem dX10_begins_10 : decode cX10_begins 10 = .ok (.putfield 109, 3) := by decide +kernel
theorem dX10_begins_13 : decode cX10_begins 13 = .ok (.aload_n 0, 1) := by decide +kernel
theorem dX10_begins_14 : decode cX10_begins 14 = .ok (.iconst 0, 1) := by decide +kernel
theorem dX10_begins_15 : decode cX10_begins 15 = .ok (.putfield 103, 3) := by decide +kernel
theorem dX10_begins_18 : decode cX10_begins 18 = .ok (.aload_n 0, 1) := by decide +kernel
theorem dX10_begins_19 : decode cX10_begins 19 = .ok (.iconst 0, 1) := by decide +kernel
theorem dX10_begins_20 : decode cX10_begins 20 = .ok (.putfield 106, 3) := by decide +kernel
theorem dX10_begins_23 : decode cX10_begins 23 = .ok (.aload_n 0, 1) := by decide +kernel
theorem dX10_begins_24 : decode cX10_begins 24 = .ok (.iconst (-1), 1) := by decide +kernel
theorem dX10_begins_25 : decode cX10_begins 25 = .ok (.putfield 17, 3) := by decide +kernel
theorem dX10_begins_28 : decode cX10_begins 28 = .ok (.aload_n 0, 1) := by decide +kernel
theorem dX10_begins_29 : decode cX10_begins 29 = .ok (.iconst 0, 1) := by decide +kernel
theorem dX10_begins_30 : decode cX10_begins 30 = .ok (.putfield 178, 3) := by decide +kernel
theorem dX10_begins_33 : decode cX10_begins 33 = .ok (.return_, 1) := by decide +kernel
theorem dX10_wrong_0 : decode cX10_wrong 0 = .ok (.aload_n 0, 1) := by decide +kernel
theorem dX10_wrong_1 : decode cX10_wrong 1 = .ok (.aload_n 0, 1) := by decide +kernel
theorem dX10_wrong_2 : decode cX10_wrong 2 = .ok (.getfield 116, 3) := by decide +kernel
theorem dX10_wrong_5 : decode cX10_wrong 5 = .ok (.putfield 17, 3) := by decide +kernel
theorem dX10_wrong_8 : decode cX10_wrong 8 = .ok (.aload_n 0, 1) := by decide +kernel
theorem dX10_wrong_9 : decode cX10_wrong 9 = .ok (.iconst 1, 1) := by decide +kernel
theorem dX10_wrong_10 : decode cX10_wrong 10 = .ok (.putfield 100, 3) := by decide +kernel
theorem dX10_wrong_13 : decode cX10_wrong 13 = .ok (.iconst 0, 1) := by decide +kernel
theorem dX10_wrong_14 : decode cX10_wrong 14 = .ok (.ireturn, 1) := by decide +kernel
theorem dX10_signature_0 : decode cX10_signature 0 = .ok (.aload_n 0, 1) := by decide +kernel
theorem dX10_signature_1 : decode cX10_signature 1 = .ok (.invokevirtual 181, 3) := by decide +kernel
theorem dX10_signature_4 : decode cX10_signature 4 = .ok (.aload_n 0, 1) := by decide +kernel
theorem dX10_signature_5 : decode cX10_signature 5 = .ok (.iconst 0, 1) := by decide +kernel
theorem dX10_signature_6 : decode cX10_signature 6 = .ok (.putfield 149, 3) := by decide +kernel
theorem dX10_signature_9 : decode cX10_signature 9 = .ok (.aload_n 0, 1) := by decide +kernel
theorem dX10_signature_10 : decode cX10_signature 10 = .ok (.iconst 0, 1) := by decide +kernel
theorem dX10_signature_11 : decode cX10_signature 11 = .ok (.putfield 152, 3) := by decide +kernel
theorem dX10_signature_14 : decode cX10_signature 14 = .ok (.aload_n 0, 1) := by decide +kernel
theorem dX10_signature_15 : decode cX10_signature 15 = .ok (.invokevirtual 119, 3) := by decide +kernel
theorem dX10_signature_18 : decode cX10_signature 18 = .ok (.aload_n 0, 1) := by decide +kernel
theorem dX10_signature_19 : decode cX10_signature 19 = .ok (.getfield 106, 3) := by decide +kernel
theorem dX10_signature_22 : decode cX10_signature 22 = .ok (.aload_n 0, 1) := by decide +kernel
theorem dX10_signature_23 : decode cX10_signature 23 = .ok (.getfield 109, 3) := by decide +kernel
theorem dX10_signature_26 : decode cX10_signature 26 = .ok (.if_icmp .ge 22, 3) := by decide +kernel
theorem dX10_signature_29 : decode cX10_signature 29 = .ok (.aload_n 0, 1) := by decide +kernel
theorem dX10_signature_30 : decode cX10_signature 30 = .ok (.invokevirtual 184, 3) := by decide +kernel
theorem dX10_signature_33 : decode cX10_signature 33 = .ok (.ifCond .ne 8, 3) := by decide +kernel
theorem dX10_signature_36 : decode cX10_signature 36 = .ok (.aload_n 0, 1) := by decide +kernel
theorem dX10_signature_37 : decode cX10_signature 37 = .ok (.invokevirtual 187, 3) := by decide +kernel
theorem dX10_signature_40 : decode cX10_signature 40 = .ok (.ireturn, 1) := by decide +kernel
theorem dX10_signature_41 : decode cX10_signature 41 = .ok (.aload_n 0, 1) := by decide +kernel
theorem dX10_signature_42 : decode cX10_signature 42 = .ok (.invokevirtual 119, 3) := by decide +kernel
theorem dX10_signature_45 : decode cX10_signature 45 = .ok (.goto (-27), 3) := by decide +kernel
theorem dX10_signature_48 : decode cX10_signature 48 = .ok (.aload_n 0, 1) := by decide +kernel
theorem dX10_signature_49 : decode cX10_signature 49 = .ok (.aload_n 0, 1) := by decide +kernel
theorem dX10_signature_50 : decode cX10_signature 50 = .ok (.getfield 149, 3) := by decide +kernel
theorem dX10_signature_53 : decode cX10_signature 53 = .ok (.putfield 190, 3) := by decide +kernel
theorem dX10_signature_56 : decode cX10_signature 56 = .ok (.aload_n 0, 1) := by decide +kernel
theorem dX10_signature_57 : decode cX10_signature 57 = .ok (.aload_n 0, 1) := by decide +kernel
theorem dX10_signature_58 : decode cX10_signature 58 = .ok (.getfield 152, 3) := by decide +kernel
theorem dX10_signature_61 : decode cX10_signature 61 = .ok (.putfield 193, 3) := by decide +kernel
theorem dX10_signature_64 : decode cX10_signature 64 = .ok (.iconst 0, 1) := by decide +kernel
theorem dX10_signature_65 : decode cX10_signature 65 = .ok (.istore_n 1, 1) := by decide +kernel
theorem dX10_signature_66 : decode cX10_signature 66 = .ok (.iload_n 1, 1) := by decide +kernel
theorem dX10_signature_67 : decode cX10_signature 67 = .ok (.bipush 10, 2) := by decide +kernel
theorem dX10_signature_69 : decode cX10_signature 69 = .ok (.if_icmp .ge 45, 3) := by decide +kernel
theorem dX10_signature_72 : decode cX10_signature 72 = .ok (.aload_n 0, 1) := by decide +kernel
theorem dX10_signature_73 : decode cX10_signature 73 = .ok (.getfield 33, 3) := by decide +kernel
theorem dX10_signature_76 : decode cX10_signature 76 = .ok (.iload_n 1, 1) := by decide +kernel
theorem dX10_signature_77 : decode cX10_signature 77 = .ok (.aload_n 0, 1) := by decide +kernel
theorem dX10_signature_78 : decode cX10_signature 78 = .ok (.getfield 42, 3) := by decide +kernel
theorem dX10_signature_81 : decode cX10_signature 81 = .ok (.iload_n 1, 1) := by decide +kernel
theorem dX10_signature_82 : decode cX10_signature 82 = .ok (.iaload, 1) := by decide +kernel
theorem dX10_signature_83 : decode cX10_signature 83 = .ok (.iastore, 1) := by decide +kernel
theorem dX10_signature_84 : decode cX10_signature 84 = .ok (.aload_n 0, 1) := by decide +kernel
theorem dX10_signature_85 : decode cX10_signature 85 = .ok (.getfield 36, 3) := by decide +kernel
theorem dX10_signature_88 : decode cX10_signature 88 = .ok (.iload_n 1, 1) := by decide +kernel
theorem dX10_signature_89 : decode cX10_signature 89 = .ok (.aload_n 0, 1) := by decide +kernel
theorem dX10_signature_90 : decode cX10_signature 90 = .ok (.getfield 45, 3) := by decide +kernel
theorem dX10_signature_93 : decode cX10_signature 93 = .ok (.iload_n 1, 1) := by decide +kernel
theorem dX10_signature_94 : decode cX10_signature 94 = .ok (.iaload, 1) := by decide +kernel
theorem dX10_signature_95 : decode cX10_signature 95 = .ok (.iastore, 1) := by decide +kernel
theorem dX10_signature_96 : decode cX10_signature 96 = .ok (.aload_n 0, 1) := by decide +kernel
theorem dX10_signature_97 : decode cX10_signature 97 = .ok (.getfield 39, 3) := by decide +kernel
theorem dX10_signature_100 : decode cX10_signature 100 = .ok (.iload_n 1, 1) := by decide +kernel
theorem dX10_signature_101 : decode cX10_signature 101 = .ok (.aload_n 0, 1) := by decide +kernel
theorem dX10_signature_102 : decode cX10_signature 102 = .ok (.getfield 48, 3) := by decide +kernel
theorem dX10_signature_105 : decode cX10_signature 105 = .ok (.iload_n 1, 1) := by decide +kernel
theorem dX10_signature_106 : decode cX10_signature 106 = .ok (.iaload, 1) := by decide +kernel
theorem dX10_signature_107 : decode cX10_signature 107 = .ok (.iastore, 1) := by decide +kernel
theorem dX10_signature_108 : decode cX10_signature 108 = .ok (.iinc 1 1, 3) := by decide +kernel
theorem dX10_signature_111 : decode cX10_signature 111 = .ok (.goto (-45), 3) := by decide +kernel
theorem dX10_signature_114 : decode cX10_signature 114 = .ok (.iconst 0, 1) := by decide +kernel
theorem dX10_signature_115 : decode cX10_signature 115 = .ok (.istore_n 1, 1) := by decide +kernel
theorem dX10_signature_116 : decode cX10_signature 116 = .ok (.iload_n 1, 1) := by decide +kernel
theorem dX10_signature_117 : decode cX10_signature 117 = .ok (.bipush 15, 2) := by decide +kernel
theorem dX10_signature_119 : decode cX10_signature 119 = .ok (.if_icmp .ge 21, 3) := by decide +kernel
theorem dX10_signature_122 : decode cX10_signature 122 = .ok (.aload_n 0, 1) := by decide +kernel
theorem dX10_signature_123 : decode cX10_signature 123 = .ok (.getfield 27, 3) := by decide +kernel
theorem dX10_signature_126 : decode cX10_signature 126 = .ok (.iload_n 1, 1) := by decide +kernel
theorem dX10_signature_127 : decode cX10_signature 127 = .ok (.aload_n 0, 1) := by decide +kernel
theorem dX10_signature_128 : decode cX10_signature 128 = .ok (.getfield 30, 3) := by decide +kernel
theorem dX10_signature_131 : decode cX10_signature 131 = .ok (.iload_n 1, 1) := by decide +kernel
theorem dX10_signature_132 : decode cX10_signature 132 = .ok (.iaload, 1) := by decide +kernel
theorem dX10_signature_133 : decode cX10_signature 133 = .ok (.iastore, 1) := by decide +kernel
theorem dX10_signature_134 : decode cX10_signature 134 = .ok (.iinc 1 1, 3) := by decide +kernel
theorem dX10_signature_137 : decode cX10_signature 137 = .ok (.goto (-21), 3) := by decide +kernel
theorem dX10_signature_140 : decode cX10_signature 140 = .ok (.iconst 0, 1) := by decide +kernel
theorem dX10_signature_141 : decode cX10_signature 141 = .ok (.istore_n 1, 1) := by decide +kernel
theorem dX10_signature_142 : decode cX10_signature 142 = .ok (.iload_n 1, 1) := by decide +kernel
theorem dX10_signature_143 : decode cX10_signature 143 = .ok (.bipush 90, 2) := by decide +kernel
theorem dX10_signature_145 : decode cX10_signature 145 = .ok (.if_icmp .ge 21, 3) := by decide +kernel
theorem dX10_signature_148 : decode cX10_signature 148 = .ok (.aload_n 0, 1) := by decide +kernel
theorem dX10_signature_149 : decode cX10_signature 149 = .ok (.getfield 21, 3) := by decide +kernel
theorem dX10_signature_152 : decode cX10_signature 152 = .ok (.iload_n 1, 1) := by decide +kernel
theorem dX10_signature_153 : decode cX10_signature 153 = .ok (.aload_n 0, 1) := by decide +kernel
theorem dX10_signature_154 : decode cX10_signature 154 = .ok (.getfield 24, 3) := by decide +kernel
theorem dX10_signature_157 : decode cX10_signature 157 = .ok (.iload_n 1, 1) := by decide +kernel
theorem dX10_signature_158 : decode cX10_signature 158 = .ok (.baload, 1) := by decide +kernel
theorem dX10_signature_159 : decode cX10_signature 159 = .ok (.bastore, 1) := by decide +kernel
theorem dX10_signature_160 : decode cX10_signature 160 = .ok (.iinc 1 1, 3) := by decide +kernel
theorem dX10_signature_163 : decode cX10_signature 163 = .ok (.goto (-21), 3) := by decide +kernel
theorem dX10_signature_166 : decode cX10_signature 166 = .ok (.aload_n 0, 1) := by decide +kernel
theorem dX10_signature_167 : decode cX10_signature 167 = .ok (.iconst 0, 1) := by decide +kernel
theorem dX10_signature_168 : decode cX10_signature 168 = .ok (.putfield 196, 3) := by decide +kernel
theorem dX10_signature_171 : decode cX10_signature 171 = .ok (.aload_n 0, 1) := by decide +kernel
theorem dX10_signature_172 : decode cX10_signature 172 = .ok (.iconst 0, 1) := by decide +kernel
theorem dX10_signature_173 : decode cX10_signature 173 = .ok (.putfield 199, 3) := by decide +kernel
theorem dX10_signature_176 : decode cX10_signature 176 = .ok (.aload_n 0, 1) := by decide +kernel
theorem dX10_signature_177 : decode cX10_signature 177 = .ok (.iconst 0, 1) := by decide +kernel
theorem dX10_signature_178 : decode cX10_signature 178 = .ok (.putfield 202, 3) := by decide +kernel
theorem dX10_signature_181 : decode cX10_signature 181 = .ok (.aload_n 0, 1) := by decide +kernel
theorem dX10_signature_182 : decode cX10_signature 182 = .ok (.iconst 0, 1) := by decide +kernel
theorem dX10_signature_183 : decode cX10_signature 183 = .ok (.putfield 206, 3) := by decide +kernel
theorem dX10_signature_186 : decode cX10_signature 186 = .ok (.aload_n 0, 1) := by decide +kernel
theorem dX10_signature_187 : decode cX10_signature 187 = .ok (.getfield 190, 3) := by decide +kernel
theorem dX10_signature_190 : decode cX10_signature 190 = .ok (.ireturn, 1) := by decide +kernel
theorem dX10_named_0 : decode cX10_named 0 = .ok (.iconst 0, 1) := by decide +kernel
theorem dX10_named_1 : decode cX10_named 1 = .ok (.istore_n 1, 1) := by decide +kernel
theorem dX10_named_2 : decode cX10_named 2 = .ok (.iload_n 1, 1) := by decide +kernel
theorem dX10_named_3 : decode cX10_named 3 = .ok (.bipush 15, 2) := by decide +kernel
theorem dX10_named_5 : decode cX10_named 5 = .ok (.if_icmp .ge 123, 3) := by decide +kernel
theorem dX10_named_8 : decode cX10_named 8 = .ok (.iload_n 1, 1) := by decide +kernel
theorem dX10_named_9 : decode cX10_named 9 = .ok (.bipush 10, 2) := by decide +kernel
theorem dX10_named_11 : decode cX10_named 11 = .ok (.if_icmp .ge 14, 3) := by decide +kernel
theorem dX10_named_14 : decode cX10_named 14 = .ok (.iload_n 1, 1) := by decide +kernel
theorem dX10_named_15 : decode cX10_named 15 = .ok (.aload_n 0, 1) := by decide +kernel
theorem dX10_named_16 : decode cX10_named 16 = .ok (.getfield 190, 3) := by decide +kernel
theorem dX10_named_19 : decode cX10_named 19 = .ok (.if_icmp .lt 20, 3) := by decide +kernel
theorem dX10_named_22 : decode cX10_named 22 = .ok (.goto 100, 3) := by decide +kernel
theorem dX10_named_25 : decode cX10_named 25 = .ok (.iload_n 1, 1) := by decide +kernel
theorem dX10_named_26 : decode cX10_named 26 = .ok (.bipush 10, 2) := by decide +kernel
theorem dX10_named_28 : decode cX10_named 28 = .ok (.isub, 1) := by decide +kernel
theorem dX10_named_29 : decode cX10_named 29 = .ok (.aload_n 0, 1) := by decide +kernel
theorem dX10_named_30 : decode cX10_named 30 = .ok (.getfield 193, 3) := by decide +kernel
theorem dX10_named_33 : decode cX10_named 33 = .ok (.if_icmp .lt 6, 3) := by decide +kernel
theorem dX10_named_36 : decode cX10_named 36 = .ok (.goto 86, 3) := by decide +kernel
theorem dX10_named_39 : decode cX10_named 39 = .ok (.aload_n 0, 1) := by decide +kernel
theorem dX10_named_40 : decode cX10_named 40 = .ok (.getfield 106, 3) := by decide +kernel
theorem dX10_named_43 : decode cX10_named 43 = .ok (.aload_n 0, 1) := by decide +kernel
theorem dX10_named_44 : decode cX10_named 44 = .ok (.getfield 116, 3) := by decide +kernel
theorem dX10_named_47 : decode cX10_named 47 = .ok (.isub, 1) := by decide +kernel
theorem dX10_named_48 : decode cX10_named 48 = .ok (.aload_n 0, 1) := by decide +kernel
theorem dX10_named_49 : decode cX10_named 49 = .ok (.getfield 27, 3) := by decide +kernel
theorem dX10_named_52 : decode cX10_named 52 = .ok (.iload_n 1, 1) := by decide +kernel
theorem dX10_named_53 : decode cX10_named 53 = .ok (.iaload, 1) := by decide +kernel
theorem dX10_named_54 : decode cX10_named 54 = .ok (.if_icmp .ne 7, 3) := by decide +kernel
theorem dX10_named_57 : decode cX10_named 57 = .ok (.iconst 1, 1) := by decide +kernel
theorem dX10_named_58 : decode cX10_named 58 = .ok (.goto 4, 3) := by decide +kernel
theorem dX10_named_61 : decode cX10_named 61 = .ok (.iconst 0, 1) := by decide +kernel
theorem dX10_named_62 : decode cX10_named 62 = .ok (.istore_n 2, 1) := by decide +kernel
theorem dX10_named_63 : decode cX10_named 63 = .ok (.iconst 0, 1) := by decide +kernel
theorem dX10_named_64 : decode cX10_named 64 = .ok (.istore_n 3, 1) := by decide +kernel
theorem dX10_named_65 : decode cX10_named 65 = .ok (.iload_n 2, 1) := by decide +kernel
theorem dX10_named_66 : decode cX10_named 66 = .ok (.ifCond .eq 50, 3) := by decide +kernel
theorem dX10_named_69 : decode cX10_named 69 = .ok (.iload_n 3, 1) := by decide +kernel
theorem dX10_named_70 : decode cX10_named 70 = .ok (.aload_n 0, 1) := by decide +kernel
theorem dX10_named_71 : decode cX10_named 71 = .ok (.getfield 27, 3) := by decide +kernel
theorem dX10_named_74 : decode cX10_named 74 = .ok (.iload_n 1, 1) := by decide +kernel
theorem dX10_named_75 : decode cX10_named 75 = .ok (.iaload, 1) := by decide +kernel
theorem dX10_named_76 : decode cX10_named 76 = .ok (.if_icmp .ge 40, 3) := by decide +kernel
theorem dX10_named_79 : decode cX10_named 79 = .ok (.aload_n 0, 1) := by decide +kernel
theorem dX10_named_80 : decode cX10_named 80 = .ok (.getfield 9, 3) := by decide +kernel
theorem dX10_named_83 : decode cX10_named 83 = .ok (.aload_n 0, 1) := by decide +kernel
theorem dX10_named_84 : decode cX10_named 84 = .ok (.getfield 116, 3) := by decide +kernel
theorem dX10_named_87 : decode cX10_named 87 = .ok (.iload_n 3, 1) := by decide +kernel
theorem dX10_named_88 : decode cX10_named 88 = .ok (.iadd, 1) := by decide +kernel
theorem dX10_named_89 : decode cX10_named 89 = .ok (.baload, 1) := by decide +kernel
theorem dX10_named_90 : decode cX10_named 90 = .ok (.aload_n 0, 1) := by decide +kernel
theorem dX10_named_91 : decode cX10_named 91 = .ok (.getfield 21, 3) := by decide +kernel
theorem dX10_named_94 : decode cX10_named 94 = .ok (.bipush 6, 2) := by decide +kernel
theorem dX10_named_96 : decode cX10_named 96 = .ok (.iload_n 1, 1) := by decide +kernel
theorem dX10_named_97 : decode cX10_named 97 = .ok (.imul, 1) := by decide +kernel
theorem dX10_named_98 : decode cX10_named 98 = .ok (.iload_n 3, 1) := by decide +kernel
theorem dX10_named_99 : decode cX10_named 99 = .ok (.iadd, 1) := by decide +kernel
theorem dX10_named_100 : decode cX10_named 100 = .ok (.baload, 1) := by decide +kernel
theorem dX10_named_101 : decode cX10_named 101 = .ok (.if_icmp .ne 7, 3) := by decide +kernel
theorem dX10_named_104 : decode cX10_named 104 = .ok (.iconst 1, 1) := by decide +kernel
theorem dX10_named_105 : decode cX10_named 105 = .ok (.goto 4, 3) := by decide +kernel
theorem dX10_named_108 : decode cX10_named 108 = .ok (.iconst 0, 1) := by decide +kernel
theorem dX10_named_109 : decode cX10_named 109 = .ok (.istore_n 2, 1) := by decide +kernel
theorem dX10_named_110 : decode cX10_named 110 = .ok (.iinc 3 1, 3) := by decide +kernel
theorem dX10_named_113 : decode cX10_named 113 = .ok (.goto (-48), 3) := by decide +kernel
theorem dX10_named_116 : decode cX10_named 116 = .ok (.iload_n 2, 1) := by decide +kernel
theorem dX10_named_117 : decode cX10_named 117 = .ok (.ifCond .eq 5, 3) := by decide +kernel
theorem dX10_named_120 : decode cX10_named 120 = .ok (.iload_n 1, 1) := by decide +kernel
theorem dX10_named_121 : decode cX10_named 121 = .ok (.ireturn, 1) := by decide +kernel
theorem dX10_named_122 : decode cX10_named 122 = .ok (.iinc 1 1, 3) := by decide +kernel
theorem dX10_named_125 : decode cX10_named 125 = .ok (.goto (-123), 3) := by decide +kernel
theorem dX10_named_128 : decode cX10_named 128 = .ok (.iconst (-1), 1) := by decide +kernel
theorem dX10_named_129 : decode cX10_named 129 = .ok (.ireturn, 1) := by decide +kernel
theorem dX10_codeOf_0 : decode cX10_codeOf 0 = .ok (.sipush 512, 3) := by decide +kernel
theorem dX10_codeOf_3 : decode cX10_codeOf 3 = .ok (.iload_n 0, 1) := by decide +kernel
theorem dX10_codeOf_4 : decode cX10_codeOf 4 = .ok (.iconst 1, 1) := by decide +kernel
theorem dX10_codeOf_5 : decode cX10_codeOf 5 = .ok (.iadd, 1) := by decide +kernel
theorem dX10_codeOf_6 : decode cX10_codeOf 6 = .ok (.imul, 1) := by decide +kernel
theorem dX10_codeOf_7 : decode cX10_codeOf 7 = .ok (.iload_n 1, 1) := by decide +kernel
theorem dX10_codeOf_8 : decode cX10_codeOf 8 = .ok (.iadd, 1) := by decide +kernel
theorem dX10_codeOf_9 : decode cX10_codeOf 9 = .ok (.ireturn, 1) := by decide +kernel
theorem dX10_isGreat_0 : decode cX10_isGreat 0 = .ok (.aload_n 0, 1) := by decide +kernel
theorem dX10_isGreat_1 : decode cX10_isGreat 1 = .ok (.iload_n 1, 1) := by decide +kernel
theorem dX10_isGreat_2 : decode cX10_isGreat 2 = .ok (.invokevirtual 213, 3) := by decide +kernel
theorem dX10_isGreat_5 : decode cX10_isGreat 5 = .ok (.istore_n 2, 1) := by decide +kernel
theorem dX10_isGreat_6 : decode cX10_isGreat 6 = .ok (.iload_n 2, 1) := by decide +kernel
theorem dX10_isGreat_7 : decode cX10_isGreat 7 = .ok (.iload_n 1, 1) := by decide +kernel
theorem dX10_isGreat_8 : decode cX10_isGreat 8 = .ok (.isub, 1) := by decide +kernel
theorem dX10_isGreat_9 : decode cX10_isGreat 9 = .ok (.bipush 20, 2) := by decide +kernel
theorem dX10_isGreat_11 : decode cX10_isGreat 11 = .ok (.if_icmp .le 5, 3) := by decide +kernel
theorem dX10_isGreat_14 : decode cX10_isGreat 14 = .ok (.iconst 1, 1) := by decide +kernel
theorem dX10_isGreat_15 : decode cX10_isGreat 15 = .ok (.ireturn, 1) := by decide +kernel
theorem dX10_isGreat_16 : decode cX10_isGreat 16 = .ok (.iload_n 1, 1) := by decide +kernel
theorem dX10_isGreat_17 : decode cX10_isGreat 17 = .ok (.istore_n 3, 1) := by decide +kernel
theorem dX10_isGreat_18 : decode cX10_isGreat 18 = .ok (.iload_n 3, 1) := by decide +kernel
theorem dX10_isGreat_19 : decode cX10_isGreat 19 = .ok (.iload_n 2, 1) := by decide +kernel
theorem dX10_isGreat_20 : decode cX10_isGreat 20 = .ok (.if_icmp .ge 47, 3) := by decide +kernel
theorem dX10_isGreat_23 : decode cX10_isGreat 23 = .ok (.aload_n 0, 1) := by decide +kernel
theorem dX10_isGreat_24 : decode cX10_isGreat 24 = .ok (.getfield 52, 3) := by decide +kernel
theorem dX10_isGreat_27 : decode cX10_isGreat 27 = .ok (.iload_n 3, 1) := by decide +kernel
theorem dX10_isGreat_28 : decode cX10_isGreat 28 = .ok (.iaload, 1) := by decide +kernel
theorem dX10_isGreat_29 : decode cX10_isGreat 29 = .ok (.sipush 512, 3) := by decide +kernel
theorem dX10_isGreat_32 : decode cX10_isGreat 32 = .ok (.if_icmp .lt 29, 3) := by decide +kernel
theorem dX10_isGreat_35 : decode cX10_isGreat 35 = .ok (.aload_n 0, 1) := by decide +kernel
theorem dX10_isGreat_36 : decode cX10_isGreat 36 = .ok (.getfield 33, 3) := by decide +kernel
theorem dX10_isGreat_39 : decode cX10_isGreat 39 = .ok (.aload_n 0, 1) := by decide +kernel
theorem dX10_isGreat_40 : decode cX10_isGreat 40 = .ok (.iload_n 3, 1) := by decide +kernel
theorem dX10_isGreat_41 : decode cX10_isGreat 41 = .ok (.invokevirtual 220, 3) := by decide +kernel
theorem dX10_isGreat_44 : decode cX10_isGreat 44 = .ok (.iaload, 1) := by decide +kernel
theorem dX10_isGreat_45 : decode cX10_isGreat 45 = .ok (.iconst 2, 1) := by decide +kernel
theorem dX10_isGreat_46 : decode cX10_isGreat 46 = .ok (.if_icmp .ne 15, 3) := by decide +kernel
theorem dX10_isGreat_49 : decode cX10_isGreat 49 = .ok (.aload_n 0, 1) := by decide +kernel
theorem dX10_isGreat_50 : decode cX10_isGreat 50 = .ok (.iload_n 3, 1) := by decide +kernel
theorem dX10_isGreat_51 : decode cX10_isGreat 51 = .ok (.invokevirtual 209, 3) := by decide +kernel
theorem dX10_isGreat_54 : decode cX10_isGreat 54 = .ok (.bipush 6, 2) := by decide +kernel
theorem dX10_isGreat_56 : decode cX10_isGreat 56 = .ok (.if_icmp .le 5, 3) := by decide +kernel
theorem dX10_isGreat_59 : decode cX10_isGreat 59 = .ok (.iconst 1, 1) := by decide +kernel
theorem dX10_isGreat_60 : decode cX10_isGreat 60 = .ok (.ireturn, 1) := by decide +kernel
theorem dX10_isGreat_61 : decode cX10_isGreat 61 = .ok (.iinc 3 1, 3) := by decide +kernel
theorem dX10_isGreat_64 : decode cX10_isGreat 64 = .ok (.goto (-46), 3) := by decide +kernel
theorem dX10_isGreat_67 : decode cX10_isGreat 67 = .ok (.iconst 0, 1) := by decide +kernel
theorem dX10_isGreat_68 : decode cX10_isGreat 68 = .ok (.ireturn, 1) := by decide +kernel
theorem dX10_stands_0 : decode cX10_stands 0 = .ok (.iconst 0, 1) := by decide +kernel
theorem dX10_stands_1 : decode cX10_stands 1 = .ok (.istore_n 3, 1) := by decide +kernel
theorem dX10_stands_2 : decode cX10_stands 2 = .ok (.iload_n 2, 1) := by decide +kernel
theorem dX10_stands_3 : decode cX10_stands 3 = .ok (.istore 4, 2) := by decide +kernel
theorem dX10_stands_5 : decode cX10_stands 5 = .ok (.iload 4, 2) := by decide +kernel
theorem dX10_stands_7 : decode cX10_stands 7 = .ok (.aload_n 0, 1) := by decide +kernel
theorem dX10_stands_8 : decode cX10_stands 8 = .ok (.getfield 178, 3) := by decide +kernel
theorem dX10_stands_11 : decode cX10_stands 11 = .ok (.if_icmp .ge 131, 3) := by decide +kernel
theorem dX10_stands_14 : decode cX10_stands 14 = .ok (.aload_n 0, 1) := by decide +kernel
theorem dX10_stands_15 : decode cX10_stands 15 = .ok (.getfield 33, 3) := by decide +kernel
theorem dX10_stands_18 : decode cX10_stands 18 = .ok (.iload_n 1, 1) := by decide +kernel
theorem dX10_stands_19 : decode cX10_stands 19 = .ok (.iaload, 1) := by decide +kernel
theorem dX10_stands_20 : decode cX10_stands 20 = .ok (.iconst 2, 1) := by decide +kernel
theorem dX10_stands_21 : decode cX10_stands 21 = .ok (.if_icmp .ne 59, 3) := by decide +kernel
theorem dX10_stands_24 : decode cX10_stands 24 = .ok (.aload_n 0, 1) := by decide +kernel
theorem dX10_stands_25 : decode cX10_stands 25 = .ok (.iload 4, 2) := by decide +kernel
theorem dX10_stands_27 : decode cX10_stands 27 = .ok (.invokevirtual 220, 3) := by decide +kernel
theorem dX10_stands_30 : decode cX10_stands 30 = .ok (.iload_n 1, 1) := by decide +kernel
theorem dX10_stands_31 : decode cX10_stands 31 = .ok (.if_icmp .ne 49, 3) := by decide +kernel
theorem dX10_stands_34 : decode cX10_stands 34 = .ok (.aload_n 0, 1) := by decide +kernel
theorem dX10_stands_35 : decode cX10_stands 35 = .ok (.iload 4, 2) := by decide +kernel
theorem dX10_stands_37 : decode cX10_stands 37 = .ok (.invokevirtual 213, 3) := by decide +kernel
theorem dX10_stands_40 : decode cX10_stands 40 = .ok (.istore 5, 2) := by decide +kernel
theorem dX10_stands_42 : decode cX10_stands 42 = .ok (.iload 4, 2) := by decide +kernel
theorem dX10_stands_44 : decode cX10_stands 44 = .ok (.iconst 1, 1) := by decide +kernel
theorem dX10_stands_45 : decode cX10_stands 45 = .ok (.iadd, 1) := by decide +kernel
theorem dX10_stands_46 : decode cX10_stands 46 = .ok (.istore 6, 2) := by decide +kernel
theorem dX10_stands_48 : decode cX10_stands 48 = .ok (.iload 6, 2) := by decide +kernel
theorem dX10_stands_50 : decode cX10_stands 50 = .ok (.iload 5, 2) := by decide +kernel
theorem dX10_stands_52 : decode cX10_stands 52 = .ok (.if_icmp .ge 25, 3) := by decide +kernel
theorem dX10_stands_55 : decode cX10_stands 55 = .ok (.aload_n 0, 1) := by decide +kernel
theorem dX10_stands_56 : decode cX10_stands 56 = .ok (.getfield 55, 3) := by decide +kernel
theorem dX10_stands_59 : decode cX10_stands 59 = .ok (.iload_n 3, 1) := by decide +kernel
theorem dX10_stands_60 : decode cX10_stands 60 = .ok (.iload 6, 2) := by decide +kernel
theorem dX10_stands_62 : decode cX10_stands 62 = .ok (.iastore, 1) := by decide +kernel
theorem dX10_stands_63 : decode cX10_stands 63 = .ok (.iinc 3 1, 3) := by decide +kernel
theorem dX10_stands_66 : decode cX10_stands 66 = .ok (.aload_n 0, 1) := by decide +kernel
theorem dX10_stands_67 : decode cX10_stands 67 = .ok (.iload 6, 2) := by decide +kernel
theorem dX10_stands_69 : decode cX10_stands 69 = .ok (.invokevirtual 213, 3) := by decide +kernel
theorem dX10_stands_72 : decode cX10_stands 72 = .ok (.istore 6, 2) := by decide +kernel
theorem dX10_stands_74 : decode cX10_stands 74 = .ok (.goto (-26), 3) := by decide +kernel
theorem dX10_stands_77 : decode cX10_stands 77 = .ok (.goto 54, 3) := by decide +kernel
theorem dX10_stands_80 : decode cX10_stands 80 = .ok (.aload_n 0, 1) := by decide +kernel
theorem dX10_stands_81 : decode cX10_stands 81 = .ok (.getfield 33, 3) := by decide +kernel
theorem dX10_stands_84 : decode cX10_stands 84 = .ok (.iload_n 1, 1) := by decide +kernel
theorem dX10_stands_85 : decode cX10_stands 85 = .ok (.iaload, 1) := by decide +kernel
theorem dX10_stands_86 : decode cX10_stands 86 = .ok (.iconst 2, 1) := by decide +kernel
theorem dX10_stands_87 : decode cX10_stands 87 = .ok (.if_icmp .ne 33, 3) := by decide +kernel
theorem dX10_stands_90 : decode cX10_stands 90 = .ok (.aload_n 0, 1) := by decide +kernel
theorem dX10_stands_91 : decode cX10_stands 91 = .ok (.getfield 39, 3) := by decide +kernel
theorem dX10_stands_94 : decode cX10_stands 94 = .ok (.iload_n 1, 1) := by decide +kernel
theorem dX10_stands_95 : decode cX10_stands 95 = .ok (.iaload, 1) := by decide +kernel
theorem dX10_stands_96 : decode cX10_stands 96 = .ok (.iconst (-1), 1) := by decide +kernel
theorem dX10_stands_97 : decode cX10_stands 97 = .ok (.if_icmp .eq 23, 3) := by decide +kernel
theorem dX10_stands_100 : decode cX10_stands 100 = .ok (.aload_n 0, 1) := by decide +kernel
theorem dX10_stands_101 : decode cX10_stands 101 = .ok (.getfield 52, 3) := by decide +kernel
theorem dX10_stands_104 : decode cX10_stands 104 = .ok (.iload 4, 2) := by decide +kernel
theorem dX10_stands_106 : decode cX10_stands 106 = .ok (.iaload, 1) := by decide +kernel
theorem dX10_stands_107 : decode cX10_stands 107 = .ok (.aload_n 0, 1) := by decide +kernel
theorem dX10_stands_108 : decode cX10_stands 108 = .ok (.getfield 39, 3) := by decide +kernel
theorem dX10_stands_111 : decode cX10_stands 111 = .ok (.iload_n 1, 1) := by decide +kernel
theorem dX10_stands_112 : decode cX10_stands 112 = .ok (.iaload, 1) := by decide +kernel
theorem dX10_stands_113 : decode cX10_stands 113 = .ok (.iconst 0, 1) := by decide +kernel
theorem dX10_stands_114 : decode cX10_stands 114 = .ok (.invokestatic 223, 3) := by decide +kernel
theorem dX10_stands_117 : decode cX10_stands 117 = .ok (.if_icmp .eq 14, 3) := by decide +kernel
theorem dX10_stands_120 : decode cX10_stands 120 = .ok (.aload_n 0, 1) := by decide +kernel
theorem dX10_stands_121 : decode cX10_stands 121 = .ok (.getfield 55, 3) := by decide +kernel
theorem dX10_stands_124 : decode cX10_stands 124 = .ok (.iload_n 3, 1) := by decide +kernel
theorem dX10_stands_125 : decode cX10_stands 125 = .ok (.iload 4, 2) := by decide +kernel
theorem dX10_stands_127 : decode cX10_stands 127 = .ok (.iastore, 1) := by decide +kernel
theorem dX10_stands_128 : decode cX10_stands 128 = .ok (.iinc 3 1, 3) := by decide +kernel
theorem dX10_stands_131 : decode cX10_stands 131 = .ok (.aload_n 0, 1) := by decide +kernel
theorem dX10_stands_132 : decode cX10_stands 132 = .ok (.iload 4, 2) := by decide +kernel
theorem dX10_stands_134 : decode cX10_stands 134 = .ok (.invokevirtual 213, 3) := by decide +kernel
theorem dX10_stands_137 : decode cX10_stands 137 = .ok (.istore 4, 2) := by decide +kernel
theorem dX10_stands_139 : decode cX10_stands 139 = .ok (.goto (-134), 3) := by decide +kernel
theorem dX10_stands_142 : decode cX10_stands 142 = .ok (.aload_n 0, 1) := by decide +kernel
theorem dX10_stands_143 : decode cX10_stands 143 = .ok (.getfield 33, 3) := by decide +kernel
theorem dX10_stands_146 : decode cX10_stands 146 = .ok (.iload_n 1, 1) := by decide +kernel
theorem dX10_stands_147 : decode cX10_stands 147 = .ok (.iaload, 1) := by decide +kernel
theorem dX10_stands_148 : decode cX10_stands 148 = .ok (.ifCond .eq 8, 3) := by decide +kernel
theorem dX10_stands_151 : decode cX10_stands 151 = .ok (.aload_n 0, 1) := by decide +kernel
theorem dX10_stands_152 : decode cX10_stands 152 = .ok (.iload_n 3, 1) := by decide +kernel
theorem dX10_stands_153 : decode cX10_stands 153 = .ok (.invokevirtual 226, 3) := by decide +kernel
theorem dX10_stands_156 : decode cX10_stands 156 = .ok (.aload_n 0, 1) := by decide +kernel
theorem dX10_stands_157 : decode cX10_stands 157 = .ok (.getfield 178, 3) := by decide +kernel
theorem dX10_stands_160 : decode cX10_stands 160 = .ok (.istore 4, 2) := by decide +kernel
theorem dX10_stands_162 : decode cX10_stands 162 = .ok (.aload_n 0, 1) := by decide +kernel
theorem dX10_stands_163 : decode cX10_stands 163 = .ok (.getfield 33, 3) := by decide +kernel
theorem dX10_stands_166 : decode cX10_stands 166 = .ok (.iload_n 1, 1) := by decide +kernel
theorem dX10_stands_167 : decode cX10_stands 167 = .ok (.iaload, 1) := by decide +kernel
theorem dX10_stands_168 : decode cX10_stands 168 = .ok (.iconst 2, 1) := by decide +kernel
theorem dX10_stands_169 : decode cX10_stands 169 = .ok (.if_icmp .ne 39, 3) := by decide +kernel
theorem dX10_stands_172 : decode cX10_stands 172 = .ok (.iload_n 3, 1) := by decide +kernel
theorem dX10_stands_173 : decode cX10_stands 173 = .ok (.ifCond .ne 35, 3) := by decide +kernel
theorem dX10_stands_176 : decode cX10_stands 176 = .ok (.aload_n 0, 1) := by decide +kernel
theorem dX10_stands_177 : decode cX10_stands 177 = .ok (.getfield 52, 3) := by decide +kernel
theorem dX10_stands_180 : decode cX10_stands 180 = .ok (.aload_n 0, 1) := by decide +kernel
theorem dX10_stands_181 : decode cX10_stands 181 = .ok (.getfield 178, 3) := by decide +kernel
theorem dX10_stands_184 : decode cX10_stands 184 = .ok (.aload_n 0, 1) := by decide +kernel
theorem dX10_stands_185 : decode cX10_stands 185 = .ok (.getfield 39, 3) := by decide +kernel
theorem dX10_stands_188 : decode cX10_stands 188 = .ok (.iload_n 1, 1) := by decide +kernel
theorem dX10_stands_189 : decode cX10_stands 189 = .ok (.iaload, 1) := by decide +kernel
theorem dX10_stands_190 : decode cX10_stands 190 = .ok (.iconst 0, 1) := by decide +kernel
theorem dX10_stands_191 : decode cX10_stands 191 = .ok (.invokestatic 223, 3) := by decide +kernel
theorem dX10_stands_194 : decode cX10_stands 194 = .ok (.iastore, 1) := by decide +kernel
theorem dX10_stands_195 : decode cX10_stands 195 = .ok (.aload_n 0, 1) := by decide +kernel
theorem dX10_stands_196 : decode cX10_stands 196 = .ok (.dup, 1) := by decide +kernel
theorem dX10_stands_197 : decode cX10_stands 197 = .ok (.getfield 178, 3) := by decide +kernel
theorem dX10_stands_200 : decode cX10_stands 200 = .ok (.iconst 1, 1) := by decide +kernel
theorem dX10_stands_201 : decode cX10_stands 201 = .ok (.iadd, 1) := by decide +kernel
theorem dX10_stands_202 : decode cX10_stands 202 = .ok (.putfield 178, 3) := by decide +kernel
theorem dX10_stands_205 : decode cX10_stands 205 = .ok (.goto 70, 3) := by decide +kernel
theorem dX10_stands_208 : decode cX10_stands 208 = .ok (.aload_n 0, 1) := by decide +kernel
theorem dX10_stands_209 : decode cX10_stands 209 = .ok (.getfield 33, 3) := by decide +kernel
theorem dX10_stands_212 : decode cX10_stands 212 = .ok (.iload_n 1, 1) := by decide +kernel
theorem dX10_stands_213 : decode cX10_stands 213 = .ok (.iaload, 1) := by decide +kernel
theorem dX10_stands_214 : decode cX10_stands 214 = .ok (.iconst 2, 1) := by decide +kernel
theorem dX10_stands_215 : decode cX10_stands 215 = .ok (.if_icmp .ne 8, 3) := by decide +kernel
theorem dX10_stands_218 : decode cX10_stands 218 = .ok (.iload_n 3, 1) := by decide +kernel
theorem dX10_stands_219 : decode cX10_stands 219 = .ok (.iconst 1, 1) := by decide +kernel
theorem dX10_stands_220 : decode cX10_stands 220 = .ok (.if_icmp .le 27, 3) := by decide +kernel
theorem dX10_stands_223 : decode cX10_stands 223 = .ok (.aload_n 0, 1) := by decide +kernel
theorem dX10_stands_224 : decode cX10_stands 224 = .ok (.getfield 52, 3) := by decide +kernel
theorem dX10_stands_227 : decode cX10_stands 227 = .ok (.aload_n 0, 1) := by decide +kernel
theorem dX10_stands_228 : decode cX10_stands 228 = .ok (.getfield 178, 3) := by decide +kernel
theorem dX10_stands_231 : decode cX10_stands 231 = .ok (.iload_n 1, 1) := by decide +kernel
theorem dX10_stands_232 : decode cX10_stands 232 = .ok (.iload_n 3, 1) := by decide +kernel
theorem dX10_stands_233 : decode cX10_stands 233 = .ok (.invokestatic 223, 3) := by decide +kernel
theorem dX10_stands_236 : decode cX10_stands 236 = .ok (.iastore, 1) := by decide +kernel
theorem dX10_stands_237 : decode cX10_stands 237 = .ok (.aload_n 0, 1) := by decide +kernel
theorem dX10_stands_238 : decode cX10_stands 238 = .ok (.dup, 1) := by decide +kernel
theorem dX10_stands_239 : decode cX10_stands 239 = .ok (.getfield 178, 3) := by decide +kernel
theorem dX10_stands_242 : decode cX10_stands 242 = .ok (.iconst 1, 1) := by decide +kernel
theorem dX10_stands_243 : decode cX10_stands 243 = .ok (.iadd, 1) := by decide +kernel
theorem dX10_stands_244 : decode cX10_stands 244 = .ok (.putfield 178, 3) := by decide +kernel
theorem dX10_stands_247 : decode cX10_stands 247 = .ok (.iconst 0, 1) := by decide +kernel
theorem dX10_stands_248 : decode cX10_stands 248 = .ok (.istore 5, 2) := by decide +kernel
theorem dX10_stands_250 : decode cX10_stands 250 = .ok (.iload 5, 2) := by decide +kernel
theorem dX10_stands_252 : decode cX10_stands 252 = .ok (.iload_n 3, 1) := by decide +kernel
theorem dX10_stands_253 : decode cX10_stands 253 = .ok (.if_icmp .ge 22, 3) := by decide +kernel
theorem dX10_stands_256 : decode cX10_stands 256 = .ok (.aload_n 0, 1) := by decide +kernel
theorem dX10_stands_257 : decode cX10_stands 257 = .ok (.aload_n 0, 1) := by decide +kernel
theorem dX10_stands_258 : decode cX10_stands 258 = .ok (.getfield 55, 3) := by decide +kernel
theorem dX10_stands_261 : decode cX10_stands 261 = .ok (.iload 5, 2) := by decide +kernel
theorem dX10_stands_263 : decode cX10_stands 263 = .ok (.iaload, 1) := by decide +kernel
theorem dX10_stands_264 : decode cX10_stands 264 = .ok (.invokevirtual 230, 3) := by decide +kernel
theorem dX10_stands_267 : decode cX10_stands 267 = .ok (.istore 6, 2) := by decide +kernel
theorem dX10_stands_269 : decode cX10_stands 269 = .ok (.iinc 5 1, 3) := by decide +kernel
theorem dX10_stands_272 : decode cX10_stands 272 = .ok (.goto (-22), 3) := by decide +kernel
theorem dX10_stands_275 : decode cX10_stands 275 = .ok (.aload_n 0, 1) := by decide +kernel
theorem dX10_stands_276 : decode cX10_stands 276 = .ok (.getfield 178, 3) := by decide +kernel
theorem dX10_stands_279 : decode cX10_stands 279 = .ok (.iload 4, 2) := by decide +kernel
theorem dX10_stands_281 : decode cX10_stands 281 = .ok (.isub, 1) := by decide +kernel
theorem dX10_stands_282 : decode cX10_stands 282 = .ok (.istore 5, 2) := by decide +kernel
theorem dX10_stands_284 : decode cX10_stands 284 = .ok (.iconst 0, 1) := by decide +kernel
theorem dX10_stands_285 : decode cX10_stands 285 = .ok (.istore 6, 2) := by decide +kernel
theorem dX10_stands_287 : decode cX10_stands 287 = .ok (.iload 6, 2) := by decide +kernel
theorem dX10_stands_289 : decode cX10_stands 289 = .ok (.iload 5, 2) := by decide +kernel
theorem dX10_stands_291 : decode cX10_stands 291 = .ok (.if_icmp .ge 28, 3) := by decide +kernel
theorem dX10_stands_294 : decode cX10_stands 294 = .ok (.aload_n 0, 1) := by decide +kernel
theorem dX10_stands_295 : decode cX10_stands 295 = .ok (.getfield 52, 3) := by decide +kernel
theorem dX10_stands_298 : decode cX10_stands 298 = .ok (.iload_n 2, 1) := by decide +kernel
theorem dX10_stands_299 : decode cX10_stands 299 = .ok (.iload 6, 2) := by decide +kernel
theorem dX10_stands_301 : decode cX10_stands 301 = .ok (.iadd, 1) := by decide +kernel
theorem dX10_stands_302 : decode cX10_stands 302 = .ok (.aload_n 0, 1) := by decide +kernel
theorem dX10_stands_303 : decode cX10_stands 303 = .ok (.getfield 52, 3) := by decide +kernel
theorem dX10_stands_306 : decode cX10_stands 306 = .ok (.iload 4, 2) := by decide +kernel
theorem dX10_stands_308 : decode cX10_stands 308 = .ok (.iload 6, 2) := by decide +kernel
theorem dX10_stands_310 : decode cX10_stands 310 = .ok (.iadd, 1) := by decide +kernel
theorem dX10_stands_311 : decode cX10_stands 311 = .ok (.iaload, 1) := by decide +kernel
theorem dX10_stands_312 : decode cX10_stands 312 = .ok (.iastore, 1) := by decide +kernel
theorem dX10_stands_313 : decode cX10_stands 313 = .ok (.iinc 6 1, 3) := by decide +kernel
theorem dX10_stands_316 : decode cX10_stands 316 = .ok (.goto (-29), 3) := by decide +kernel
theorem dX10_stands_319 : decode cX10_stands 319 = .ok (.aload_n 0, 1) := by decide +kernel
theorem dX10_stands_320 : decode cX10_stands 320 = .ok (.iload_n 2, 1) := by decide +kernel
theorem dX10_stands_321 : decode cX10_stands 321 = .ok (.iload 5, 2) := by decide +kernel
theorem dX10_stands_323 : decode cX10_stands 323 = .ok (.iadd, 1) := by decide +kernel
theorem dX10_stands_324 : decode cX10_stands 324 = .ok (.putfield 178, 3) := by decide +kernel
theorem dX10_stands_327 : decode cX10_stands 327 = .ok (.iload_n 2, 1) := by decide +kernel
theorem dX10_stands_328 : decode cX10_stands 328 = .ok (.ireturn, 1) := by decide +kernel
theorem dX10_sorts_0 : decode cX10_sorts 0 = .ok (.iconst 1, 1) := by decide +kernel
theorem dX10_sorts_1 : decode cX10_sorts 1 = .ok (.istore_n 2, 1) := by decide +kernel
theorem dX10_sorts_2 : decode cX10_sorts 2 = .ok (.iload_n 2, 1) := by decide +kernel
theorem dX10_sorts_3 : decode cX10_sorts 3 = .ok (.iload_n 1, 1) := by decide +kernel
theorem dX10_sorts_4 : decode cX10_sorts 4 = .ok (.if_icmp .ge 71, 3) := by decide +kernel
