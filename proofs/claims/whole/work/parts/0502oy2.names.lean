theorem dX10_sorts_7 : decode cX10_sorts 7 = .ok (.aload_n 0, 1) := by decide +kernel
theorem dX10_sorts_8 : decode cX10_sorts 8 = .ok (.getfield 55, 3) := by decide +kernel
theorem dX10_sorts_11 : decode cX10_sorts 11 = .ok (.iload_n 2, 1) := by decide +kernel
theorem dX10_sorts_12 : decode cX10_sorts 12 = .ok (.iaload, 1) := by decide +kernel
theorem dX10_sorts_13 : decode cX10_sorts 13 = .ok (.istore_n 3, 1) := by decide +kernel
theorem dX10_sorts_14 : decode cX10_sorts 14 = .ok (.iload_n 2, 1) := by decide +kernel
theorem dX10_sorts_15 : decode cX10_sorts 15 = .ok (.istore 4, 2) := by decide +kernel
theorem dX10_sorts_17 : decode cX10_sorts 17 = .ok (.iload 4, 2) := by decide +kernel
theorem dX10_sorts_19 : decode cX10_sorts 19 = .ok (.ifCond .le 42, 3) := by decide +kernel
theorem dX10_sorts_22 : decode cX10_sorts 22 = .ok (.aload_n 0, 1) := by decide +kernel
theorem dX10_sorts_23 : decode cX10_sorts 23 = .ok (.aload_n 0, 1) := by decide +kernel
theorem dX10_sorts_24 : decode cX10_sorts 24 = .ok (.getfield 55, 3) := by decide +kernel
theorem dX10_sorts_27 : decode cX10_sorts 27 = .ok (.iload 4, 2) := by decide +kernel
theorem dX10_sorts_29 : decode cX10_sorts 29 = .ok (.iconst 1, 1) := by decide +kernel
theorem dX10_sorts_30 : decode cX10_sorts 30 = .ok (.isub, 1) := by decide +kernel
theorem dX10_sorts_31 : decode cX10_sorts 31 = .ok (.iaload, 1) := by decide +kernel
theorem dX10_sorts_32 : decode cX10_sorts 32 = .ok (.iload_n 3, 1) := by decide +kernel
theorem dX10_sorts_33 : decode cX10_sorts 33 = .ok (.invokevirtual 216, 3) := by decide +kernel
theorem dX10_sorts_36 : decode cX10_sorts 36 = .ok (.ifCond .le 25, 3) := by decide +kernel
theorem dX10_sorts_39 : decode cX10_sorts 39 = .ok (.aload_n 0, 1) := by decide +kernel
theorem dX10_sorts_40 : decode cX10_sorts 40 = .ok (.getfield 55, 3) := by decide +kernel
theorem dX10_sorts_43 : decode cX10_sorts 43 = .ok (.iload 4, 2) := by decide +kernel
theorem dX10_sorts_45 : decode cX10_sorts 45 = .ok (.aload_n 0, 1) := by decide +kernel
theorem dX10_sorts_46 : decode cX10_sorts 46 = .ok (.getfield 55, 3) := by decide +kernel
theorem dX10_sorts_49 : decode cX10_sorts 49 = .ok (.iload 4, 2) := by decide +kernel
theorem dX10_sorts_51 : decode cX10_sorts 51 = .ok (.iconst 1, 1) := by decide +kernel
theorem dX10_sorts_52 : decode cX10_sorts 52 = .ok (.isub, 1) := by decide +kernel
theorem dX10_sorts_53 : decode cX10_sorts 53 = .ok (.iaload, 1) := by decide +kernel
theorem dX10_sorts_54 : decode cX10_sorts 54 = .ok (.iastore, 1) := by decide +kernel
theorem dX10_sorts_55 : decode cX10_sorts 55 = .ok (.iinc 4 (-1), 3) := by decide +kernel
theorem dX10_sorts_58 : decode cX10_sorts 58 = .ok (.goto (-41), 3) := by decide +kernel
theorem dX10_sorts_61 : decode cX10_sorts 61 = .ok (.aload_n 0, 1) := by decide +kernel
theorem dX10_sorts_62 : decode cX10_sorts 62 = .ok (.getfield 55, 3) := by decide +kernel
theorem dX10_sorts_65 : decode cX10_sorts 65 = .ok (.iload 4, 2) := by decide +kernel
theorem dX10_sorts_67 : decode cX10_sorts 67 = .ok (.iload_n 3, 1) := by decide +kernel
theorem dX10_sorts_68 : decode cX10_sorts 68 = .ok (.iastore, 1) := by decide +kernel
theorem dX10_sorts_69 : decode cX10_sorts 69 = .ok (.iinc 2 1, 3) := by decide +kernel
theorem dX10_sorts_72 : decode cX10_sorts 72 = .ok (.goto (-70), 3) := by decide +kernel
theorem dX10_sorts_75 : decode cX10_sorts 75 = .ok (.return_, 1) := by decide +kernel
theorem dX10_rowOfTerm_0 : decode cX10_rowOfTerm 0 = .ok (.iload_n 1, 1) := by decide +kernel
theorem dX10_rowOfTerm_1 : decode cX10_rowOfTerm 1 = .ok (.ireturn, 1) := by decide +kernel
theorem dX10_rowOfRule_0 : decode cX10_rowOfRule 0 = .ok (.bipush 30, 2) := by decide +kernel
theorem dX10_rowOfRule_2 : decode cX10_rowOfRule 2 = .ok (.iconst 2, 1) := by decide +kernel
theorem dX10_rowOfRule_3 : decode cX10_rowOfRule 3 = .ok (.iload_n 1, 1) := by decide +kernel
theorem dX10_rowOfRule_4 : decode cX10_rowOfRule 4 = .ok (.imul, 1) := by decide +kernel
theorem dX10_rowOfRule_5 : decode cX10_rowOfRule 5 = .ok (.iadd, 1) := by decide +kernel
theorem dX10_rowOfRule_6 : decode cX10_rowOfRule 6 = .ok (.iload_n 2, 1) := by decide +kernel
theorem dX10_rowOfRule_7 : decode cX10_rowOfRule 7 = .ok (.ifCond .eq 7, 3) := by decide +kernel
theorem dX10_rowOfRule_10 : decode cX10_rowOfRule 10 = .ok (.iconst 1, 1) := by decide +kernel
theorem dX10_rowOfRule_11 : decode cX10_rowOfRule 11 = .ok (.goto 4, 3) := by decide +kernel
theorem dX10_rowOfRule_14 : decode cX10_rowOfRule 14 = .ok (.iconst 0, 1) := by decide +kernel
theorem dX10_rowOfRule_15 : decode cX10_rowOfRule 15 = .ok (.iadd, 1) := by decide +kernel
theorem dX10_rowOfRule_16 : decode cX10_rowOfRule 16 = .ok (.ireturn, 1) := by decide +kernel
theorem dX10_readsTerm_0 : decode cX10_readsTerm 0 = .ok (.aload_n 0, 1) := by decide +kernel
theorem dX10_readsTerm_1 : decode cX10_readsTerm 1 = .ok (.invokevirtual 155, 3) := by decide +kernel
theorem dX10_readsTerm_4 : decode cX10_readsTerm 4 = .ok (.ifCond .ne 5, 3) := by decide +kernel
theorem dX10_readsTerm_7 : decode cX10_readsTerm 7 = .ok (.iconst 0, 1) := by decide +kernel
theorem dX10_readsTerm_8 : decode cX10_readsTerm 8 = .ok (.ireturn, 1) := by decide +kernel
theorem dX10_readsTerm_9 : decode cX10_readsTerm 9 = .ok (.aload_n 0, 1) := by decide +kernel
theorem dX10_readsTerm_10 : decode cX10_readsTerm 10 = .ok (.invokevirtual 233, 3) := by decide +kernel
theorem dX10_readsTerm_13 : decode cX10_readsTerm 13 = .ok (.istore_n 1, 1) := by decide +kernel
theorem dX10_readsTerm_14 : decode cX10_readsTerm 14 = .ok (.iload_n 1, 1) := by decide +kernel
theorem dX10_readsTerm_15 : decode cX10_readsTerm 15 = .ok (.iconst (-1), 1) := by decide +kernel
theorem dX10_readsTerm_16 : decode cX10_readsTerm 16 = .ok (.if_icmp .ne 5, 3) := by decide +kernel
theorem dX10_readsTerm_19 : decode cX10_readsTerm 19 = .ok (.iconst 0, 1) := by decide +kernel
theorem dX10_readsTerm_20 : decode cX10_readsTerm 20 = .ok (.ireturn, 1) := by decide +kernel
theorem dX10_readsTerm_21 : decode cX10_readsTerm 21 = .ok (.iload_n 1, 1) := by decide +kernel
theorem dX10_readsTerm_22 : decode cX10_readsTerm 22 = .ok (.bipush 10, 2) := by decide +kernel
theorem dX10_readsTerm_24 : decode cX10_readsTerm 24 = .ok (.if_icmp .lt 28, 3) := by decide +kernel
theorem dX10_readsTerm_27 : decode cX10_readsTerm 27 = .ok (.aload_n 0, 1) := by decide +kernel
theorem dX10_readsTerm_28 : decode cX10_readsTerm 28 = .ok (.getfield 52, 3) := by decide +kernel
theorem dX10_readsTerm_31 : decode cX10_readsTerm 31 = .ok (.aload_n 0, 1) := by decide +kernel
theorem dX10_readsTerm_32 : decode cX10_readsTerm 32 = .ok (.getfield 178, 3) := by decide +kernel
theorem dX10_readsTerm_35 : decode cX10_readsTerm 35 = .ok (.iload_n 1, 1) := by decide +kernel
theorem dX10_readsTerm_36 : decode cX10_readsTerm 36 = .ok (.bipush 10, 2) := by decide +kernel
theorem dX10_readsTerm_38 : decode cX10_readsTerm 38 = .ok (.isub, 1) := by decide +kernel
theorem dX10_readsTerm_39 : decode cX10_readsTerm 39 = .ok (.iastore, 1) := by decide +kernel
theorem dX10_readsTerm_40 : decode cX10_readsTerm 40 = .ok (.aload_n 0, 1) := by decide +kernel
theorem dX10_readsTerm_41 : decode cX10_readsTerm 41 = .ok (.dup, 1) := by decide +kernel
theorem dX10_readsTerm_42 : decode cX10_readsTerm 42 = .ok (.getfield 178, 3) := by decide +kernel
theorem dX10_readsTerm_45 : decode cX10_readsTerm 45 = .ok (.iconst 1, 1) := by decide +kernel
theorem dX10_readsTerm_46 : decode cX10_readsTerm 46 = .ok (.iadd, 1) := by decide +kernel
theorem dX10_readsTerm_47 : decode cX10_readsTerm 47 = .ok (.putfield 178, 3) := by decide +kernel
theorem dX10_readsTerm_50 : decode cX10_readsTerm 50 = .ok (.iconst 1, 1) := by decide +kernel
theorem dX10_readsTerm_51 : decode cX10_readsTerm 51 = .ok (.ireturn, 1) := by decide +kernel
theorem dX10_readsTerm_52 : decode cX10_readsTerm 52 = .ok (.aload_n 0, 1) := by decide +kernel
theorem dX10_readsTerm_53 : decode cX10_readsTerm 53 = .ok (.getfield 178, 3) := by decide +kernel
theorem dX10_readsTerm_56 : decode cX10_readsTerm 56 = .ok (.istore_n 2, 1) := by decide +kernel
theorem dX10_readsTerm_57 : decode cX10_readsTerm 57 = .ok (.aload_n 0, 1) := by decide +kernel
theorem dX10_readsTerm_58 : decode cX10_readsTerm 58 = .ok (.getfield 33, 3) := by decide +kernel
theorem dX10_readsTerm_61 : decode cX10_readsTerm 61 = .ok (.iload_n 1, 1) := by decide +kernel
theorem dX10_readsTerm_62 : decode cX10_readsTerm 62 = .ok (.iaload, 1) := by decide +kernel
theorem dX10_readsTerm_63 : decode cX10_readsTerm 63 = .ok (.ifCond .ne 38, 3) := by decide +kernel
theorem dX10_readsTerm_66 : decode cX10_readsTerm 66 = .ok (.aload_n 0, 1) := by decide +kernel
theorem dX10_readsTerm_67 : decode cX10_readsTerm 67 = .ok (.getfield 36, 3) := by decide +kernel
theorem dX10_readsTerm_70 : decode cX10_readsTerm 70 = .ok (.iload_n 1, 1) := by decide +kernel
theorem dX10_readsTerm_71 : decode cX10_readsTerm 71 = .ok (.iaload, 1) := by decide +kernel
theorem dX10_readsTerm_72 : decode cX10_readsTerm 72 = .ok (.ifCond .ne 29, 3) := by decide +kernel
theorem dX10_readsTerm_75 : decode cX10_readsTerm 75 = .ok (.aload_n 0, 1) := by decide +kernel
theorem dX10_readsTerm_76 : decode cX10_readsTerm 76 = .ok (.getfield 52, 3) := by decide +kernel
theorem dX10_readsTerm_79 : decode cX10_readsTerm 79 = .ok (.aload_n 0, 1) := by decide +kernel
theorem dX10_readsTerm_80 : decode cX10_readsTerm 80 = .ok (.getfield 178, 3) := by decide +kernel
theorem dX10_readsTerm_83 : decode cX10_readsTerm 83 = .ok (.iload_n 1, 1) := by decide +kernel
theorem dX10_readsTerm_84 : decode cX10_readsTerm 84 = .ok (.iconst 0, 1) := by decide +kernel
theorem dX10_readsTerm_85 : decode cX10_readsTerm 85 = .ok (.invokestatic 223, 3) := by decide +kernel
theorem dX10_readsTerm_88 : decode cX10_readsTerm 88 = .ok (.iastore, 1) := by decide +kernel
theorem dX10_readsTerm_89 : decode cX10_readsTerm 89 = .ok (.aload_n 0, 1) := by decide +kernel
theorem dX10_readsTerm_90 : decode cX10_readsTerm 90 = .ok (.dup, 1) := by decide +kernel
theorem dX10_readsTerm_91 : decode cX10_readsTerm 91 = .ok (.getfield 178, 3) := by decide +kernel
theorem dX10_readsTerm_94 : decode cX10_readsTerm 94 = .ok (.iconst 1, 1) := by decide +kernel
theorem dX10_readsTerm_95 : decode cX10_readsTerm 95 = .ok (.iadd, 1) := by decide +kernel
theorem dX10_readsTerm_96 : decode cX10_readsTerm 96 = .ok (.putfield 178, 3) := by decide +kernel
theorem dX10_readsTerm_99 : decode cX10_readsTerm 99 = .ok (.iconst 1, 1) := by decide +kernel
theorem dX10_readsTerm_100 : decode cX10_readsTerm 100 = .ok (.ireturn, 1) := by decide +kernel
theorem dX10_readsTerm_101 : decode cX10_readsTerm 101 = .ok (.aload_n 0, 1) := by decide +kernel
theorem dX10_readsTerm_102 : decode cX10_readsTerm 102 = .ok (.bipush 40, 2) := by decide +kernel
theorem dX10_readsTerm_104 : decode cX10_readsTerm 104 = .ok (.invokevirtual 169, 3) := by decide +kernel
theorem dX10_readsTerm_107 : decode cX10_readsTerm 107 = .ok (.ifCond .ne 5, 3) := by decide +kernel
theorem dX10_readsTerm_110 : decode cX10_readsTerm 110 = .ok (.iconst 0, 1) := by decide +kernel
theorem dX10_readsTerm_111 : decode cX10_readsTerm 111 = .ok (.ireturn, 1) := by decide +kernel
theorem dX10_readsTerm_112 : decode cX10_readsTerm 112 = .ok (.aload_n 0, 1) := by decide +kernel
theorem dX10_readsTerm_113 : decode cX10_readsTerm 113 = .ok (.getfield 36, 3) := by decide +kernel
theorem dX10_readsTerm_116 : decode cX10_readsTerm 116 = .ok (.iload_n 1, 1) := by decide +kernel
theorem dX10_readsTerm_117 : decode cX10_readsTerm 117 = .ok (.iaload, 1) := by decide +kernel
theorem dX10_readsTerm_118 : decode cX10_readsTerm 118 = .ok (.istore_n 3, 1) := by decide +kernel
theorem dX10_readsTerm_119 : decode cX10_readsTerm 119 = .ok (.aload_n 0, 1) := by decide +kernel
theorem dX10_readsTerm_120 : decode cX10_readsTerm 120 = .ok (.getfield 33, 3) := by decide +kernel
theorem dX10_readsTerm_123 : decode cX10_readsTerm 123 = .ok (.iload_n 1, 1) := by decide +kernel
theorem dX10_readsTerm_124 : decode cX10_readsTerm 124 = .ok (.iaload, 1) := by decide +kernel
theorem dX10_readsTerm_125 : decode cX10_readsTerm 125 = .ok (.iconst 2, 1) := by decide +kernel
theorem dX10_readsTerm_126 : decode cX10_readsTerm 126 = .ok (.if_icmp .ne 8, 3) := by decide +kernel
theorem dX10_readsTerm_129 : decode cX10_readsTerm 129 = .ok (.bipush 9, 2) := by decide +kernel
theorem dX10_readsTerm_131 : decode cX10_readsTerm 131 = .ok (.goto 9, 3) := by decide +kernel
theorem dX10_readsTerm_134 : decode cX10_readsTerm 134 = .ok (.aload_n 0, 1) := by decide +kernel
theorem dX10_readsTerm_135 : decode cX10_readsTerm 135 = .ok (.getfield 36, 3) := by decide +kernel
theorem dX10_readsTerm_138 : decode cX10_readsTerm 138 = .ok (.iload_n 1, 1) := by decide +kernel
theorem dX10_readsTerm_139 : decode cX10_readsTerm 139 = .ok (.iaload, 1) := by decide +kernel
theorem dX10_readsTerm_140 : decode cX10_readsTerm 140 = .ok (.istore 4, 2) := by decide +kernel
theorem dX10_readsTerm_142 : decode cX10_readsTerm 142 = .ok (.iconst 1, 1) := by decide +kernel
theorem dX10_readsTerm_143 : decode cX10_readsTerm 143 = .ok (.istore 5, 2) := by decide +kernel
theorem dX10_readsTerm_145 : decode cX10_readsTerm 145 = .ok (.aload_n 0, 1) := by decide +kernel
theorem dX10_readsTerm_146 : decode cX10_readsTerm 146 = .ok (.invokevirtual 236, 3) := by decide +kernel
theorem dX10_readsTerm_149 : decode cX10_readsTerm 149 = .ok (.ifCond .ne 5, 3) := by decide +kernel
theorem dX10_readsTerm_152 : decode cX10_readsTerm 152 = .ok (.iconst 0, 1) := by decide +kernel
theorem dX10_readsTerm_153 : decode cX10_readsTerm 153 = .ok (.ireturn, 1) := by decide +kernel
theorem dX10_readsTerm_154 : decode cX10_readsTerm 154 = .ok (.iload 5, 2) := by decide +kernel
theorem dX10_readsTerm_156 : decode cX10_readsTerm 156 = .ok (.iload_n 3, 1) := by decide +kernel
theorem dX10_readsTerm_157 : decode cX10_readsTerm 157 = .ok (.if_icmp .lt 15, 3) := by decide +kernel
theorem dX10_readsTerm_160 : decode cX10_readsTerm 160 = .ok (.aload_n 0, 1) := by decide +kernel
theorem dX10_readsTerm_161 : decode cX10_readsTerm 161 = .ok (.bipush 41, 2) := by decide +kernel
theorem dX10_readsTerm_163 : decode cX10_readsTerm 163 = .ok (.invokevirtual 169, 3) := by decide +kernel
theorem dX10_readsTerm_166 : decode cX10_readsTerm 166 = .ok (.ifCond .eq 6, 3) := by decide +kernel
theorem dX10_readsTerm_169 : decode cX10_readsTerm 169 = .ok (.goto 27, 3) := by decide +kernel
theorem dX10_readsTerm_172 : decode cX10_readsTerm 172 = .ok (.iload 5, 2) := by decide +kernel
theorem dX10_readsTerm_174 : decode cX10_readsTerm 174 = .ok (.iload 4, 2) := by decide +kernel
theorem dX10_readsTerm_176 : decode cX10_readsTerm 176 = .ok (.if_icmp .eq 12, 3) := by decide +kernel
theorem dX10_readsTerm_179 : decode cX10_readsTerm 179 = .ok (.aload_n 0, 1) := by decide +kernel
theorem dX10_readsTerm_180 : decode cX10_readsTerm 180 = .ok (.bipush 44, 2) := by decide +kernel
theorem dX10_readsTerm_182 : decode cX10_readsTerm 182 = .ok (.invokevirtual 169, 3) := by decide +kernel
theorem dX10_readsTerm_185 : decode cX10_readsTerm 185 = .ok (.ifCond .ne 5, 3) := by decide +kernel
theorem dX10_readsTerm_188 : decode cX10_readsTerm 188 = .ok (.iconst 0, 1) := by decide +kernel
theorem dX10_readsTerm_189 : decode cX10_readsTerm 189 = .ok (.ireturn, 1) := by decide +kernel
theorem dX10_readsTerm_190 : decode cX10_readsTerm 190 = .ok (.iinc 5 1, 3) := by decide +kernel
theorem dX10_readsTerm_193 : decode cX10_readsTerm 193 = .ok (.goto (-48), 3) := by decide +kernel
theorem dX10_readsTerm_196 : decode cX10_readsTerm 196 = .ok (.aload_n 0, 1) := by decide +kernel
theorem dX10_readsTerm_197 : decode cX10_readsTerm 197 = .ok (.iload_n 1, 1) := by decide +kernel
theorem dX10_readsTerm_198 : decode cX10_readsTerm 198 = .ok (.iload_n 2, 1) := by decide +kernel
theorem dX10_readsTerm_199 : decode cX10_readsTerm 199 = .ok (.invokevirtual 239, 3) := by decide +kernel
theorem dX10_readsTerm_202 : decode cX10_readsTerm 202 = .ok (.istore 5, 2) := by decide +kernel
theorem dX10_readsTerm_204 : decode cX10_readsTerm 204 = .ok (.iload 5, 2) := by decide +kernel
theorem dX10_readsTerm_206 : decode cX10_readsTerm 206 = .ok (.iload_n 2, 1) := by decide +kernel
theorem dX10_readsTerm_207 : decode cX10_readsTerm 207 = .ok (.if_icmp .ne 7, 3) := by decide +kernel
theorem dX10_readsTerm_210 : decode cX10_readsTerm 210 = .ok (.iconst 1, 1) := by decide +kernel
theorem dX10_readsTerm_211 : decode cX10_readsTerm 211 = .ok (.goto 4, 3) := by decide +kernel
theorem dX10_readsTerm_214 : decode cX10_readsTerm 214 = .ok (.iconst 0, 1) := by decide +kernel
theorem dX10_readsTerm_215 : decode cX10_readsTerm 215 = .ok (.ireturn, 1) := by decide +kernel
theorem dX10_told_0 : decode cX10_told 0 = .ok (.aload_n 0, 1) := by decide +kernel
theorem dX10_told_1 : decode cX10_told 1 = .ok (.getfield 178, 3) := by decide +kernel
theorem dX10_told_4 : decode cX10_told 4 = .ok (.istore_n 2, 1) := by decide +kernel
theorem dX10_told_5 : decode cX10_told 5 = .ok (.iconst 0, 1) := by decide +kernel
theorem dX10_told_6 : decode cX10_told 6 = .ok (.istore_n 3, 1) := by decide +kernel
theorem dX10_told_7 : decode cX10_told 7 = .ok (.iload_n 3, 1) := by decide +kernel
theorem dX10_told_8 : decode cX10_told 8 = .ok (.aload_n 0, 1) := by decide +kernel
theorem dX10_told_9 : decode cX10_told 9 = .ok (.getfield 196, 3) := by decide +kernel
theorem dX10_told_12 : decode cX10_told 12 = .ok (.if_icmp .ge 37, 3) := by decide +kernel
theorem dX10_told_15 : decode cX10_told 15 = .ok (.aload_n 0, 1) := by decide +kernel
theorem dX10_told_16 : decode cX10_told 16 = .ok (.aload_n 0, 1) := by decide +kernel
theorem dX10_told_17 : decode cX10_told 17 = .ok (.aload_n 0, 1) := by decide +kernel
theorem dX10_told_18 : decode cX10_told 18 = .ok (.iload_n 3, 1) := by decide +kernel
theorem dX10_told_19 : decode cX10_told 19 = .ok (.invokevirtual 242, 3) := by decide +kernel
theorem dX10_told_22 : decode cX10_told 22 = .ok (.invokevirtual 245, 3) := by decide +kernel
theorem dX10_told_25 : decode cX10_told 25 = .ok (.iload_n 1, 1) := by decide +kernel
theorem dX10_told_26 : decode cX10_told 26 = .ok (.invokevirtual 248, 3) := by decide +kernel
theorem dX10_told_29 : decode cX10_told 29 = .ok (.istore 4, 2) := by decide +kernel
theorem dX10_told_31 : decode cX10_told 31 = .ok (.aload_n 0, 1) := by decide +kernel
theorem dX10_told_32 : decode cX10_told 32 = .ok (.iload_n 2, 1) := by decide +kernel
theorem dX10_told_33 : decode cX10_told 33 = .ok (.putfield 178, 3) := by decide +kernel
theorem dX10_told_36 : decode cX10_told 36 = .ok (.iload 4, 2) := by decide +kernel
theorem dX10_told_38 : decode cX10_told 38 = .ok (.ifCond .eq 5, 3) := by decide +kernel
theorem dX10_told_41 : decode cX10_told 41 = .ok (.iload_n 3, 1) := by decide +kernel
theorem dX10_told_42 : decode cX10_told 42 = .ok (.ireturn, 1) := by decide +kernel
theorem dX10_told_43 : decode cX10_told 43 = .ok (.iinc 3 1, 3) := by decide +kernel
theorem dX10_told_46 : decode cX10_told 46 = .ok (.goto (-39), 3) := by decide +kernel
theorem dX10_told_49 : decode cX10_told 49 = .ok (.aload_n 0, 1) := by decide +kernel
theorem dX10_told_50 : decode cX10_told 50 = .ok (.getfield 196, 3) := by decide +kernel
theorem dX10_told_53 : decode cX10_told 53 = .ok (.bipush 30, 2) := by decide +kernel
theorem dX10_told_55 : decode cX10_told 55 = .ok (.if_icmp .ne 5, 3) := by decide +kernel
theorem dX10_told_58 : decode cX10_told 58 = .ok (.iconst (-1), 1) := by decide +kernel
theorem dX10_told_59 : decode cX10_told 59 = .ok (.ireturn, 1) := by decide +kernel
theorem dX10_told_60 : decode cX10_told 60 = .ok (.aload_n 0, 1) := by decide +kernel
theorem dX10_told_61 : decode cX10_told 61 = .ok (.aload_n 0, 1) := by decide +kernel
theorem dX10_told_62 : decode cX10_told 62 = .ok (.aload_n 0, 1) := by decide +kernel
theorem dX10_told_63 : decode cX10_told 63 = .ok (.getfield 196, 3) := by decide +kernel
theorem dX10_told_66 : decode cX10_told 66 = .ok (.invokevirtual 242, 3) := by decide +kernel
theorem dX10_told_69 : decode cX10_told 69 = .ok (.iload_n 1, 1) := by decide +kernel
theorem dX10_told_70 : decode cX10_told 70 = .ok (.invokevirtual 251, 3) := by decide +kernel
theorem dX10_told_73 : decode cX10_told 73 = .ok (.aload_n 0, 1) := by decide +kernel
theorem dX10_told_74 : decode cX10_told 74 = .ok (.dup, 1) := by decide +kernel
theorem dX10_told_75 : decode cX10_told 75 = .ok (.getfield 196, 3) := by decide +kernel
theorem dX10_told_78 : decode cX10_told 78 = .ok (.iconst 1, 1) := by decide +kernel
theorem dX10_told_79 : decode cX10_told 79 = .ok (.iadd, 1) := by decide +kernel
theorem dX10_told_80 : decode cX10_told 80 = .ok (.putfield 196, 3) := by decide +kernel
theorem dX10_told_83 : decode cX10_told 83 = .ok (.aload_n 0, 1) := by decide +kernel
theorem dX10_told_84 : decode cX10_told 84 = .ok (.getfield 196, 3) := by decide +kernel
theorem dX10_told_87 : decode cX10_told 87 = .ok (.iconst 1, 1) := by decide +kernel
theorem dX10_told_88 : decode cX10_told 88 = .ok (.isub, 1) := by decide +kernel
theorem dX10_told_89 : decode cX10_told 89 = .ok (.ireturn, 1) := by decide +kernel
theorem dX10_term_0 : decode cX10_term 0 = .ok (.aload_n 0, 1) := by decide +kernel
theorem dX10_term_1 : decode cX10_term 1 = .ok (.invokevirtual 181, 3) := by decide +kernel
theorem dX10_term_4 : decode cX10_term 4 = .ok (.aload_n 0, 1) := by decide +kernel
theorem dX10_term_5 : decode cX10_term 5 = .ok (.invokevirtual 236, 3) := by decide +kernel
theorem dX10_term_8 : decode cX10_term 8 = .ok (.ifCond .eq 10, 3) := by decide +kernel
theorem dX10_term_11 : decode cX10_term 11 = .ok (.aload_n 0, 1) := by decide +kernel
theorem dX10_term_12 : decode cX10_term 12 = .ok (.invokevirtual 255, 3) := by decide +kernel
theorem dX10_term_15 : decode cX10_term 15 = .ok (.ifCond .ne 8, 3) := by decide +kernel
theorem dX10_term_18 : decode cX10_term 18 = .ok (.aload_n 0, 1) := by decide +kernel
theorem dX10_term_19 : decode cX10_term 19 = .ok (.invokevirtual 187, 3) := by decide +kernel
theorem dX10_term_22 : decode cX10_term 22 = .ok (.ireturn, 1) := by decide +kernel
theorem dX10_term_23 : decode cX10_term 23 = .ok (.aload_n 0, 1) := by decide +kernel
theorem dX10_term_24 : decode cX10_term 24 = .ok (.iconst 0, 1) := by decide +kernel
theorem dX10_term_25 : decode cX10_term 25 = .ok (.invokevirtual 258, 3) := by decide +kernel
theorem dX10_term_28 : decode cX10_term 28 = .ok (.ifCond .eq 7, 3) := by decide +kernel
theorem dX10_term_31 : decode cX10_term 31 = .ok (.iconst (-1), 1) := by decide +kernel
theorem dX10_term_32 : decode cX10_term 32 = .ok (.goto 8, 3) := by decide +kernel
theorem dX10_term_35 : decode cX10_term 35 = .ok (.aload_n 0, 1) := by decide +kernel
theorem dX10_term_36 : decode cX10_term 36 = .ok (.iconst 0, 1) := by decide +kernel
theorem dX10_term_37 : decode cX10_term 37 = .ok (.invokevirtual 261, 3) := by decide +kernel
theorem dX10_term_40 : decode cX10_term 40 = .ok (.istore_n 1, 1) := by decide +kernel
theorem dX10_term_41 : decode cX10_term 41 = .ok (.aload_n 0, 1) := by decide +kernel
theorem dX10_term_42 : decode cX10_term 42 = .ok (.iload_n 1, 1) := by decide +kernel
theorem dX10_term_43 : decode cX10_term 43 = .ok (.iconst (-1), 1) := by decide +kernel
theorem dX10_term_44 : decode cX10_term 44 = .ok (.if_icmp .ne 7, 3) := by decide +kernel
theorem dX10_term_47 : decode cX10_term 47 = .ok (.iconst 1, 1) := by decide +kernel
theorem dX10_term_48 : decode cX10_term 48 = .ok (.goto 4, 3) := by decide +kernel
theorem dX10_term_51 : decode cX10_term 51 = .ok (.iconst 0, 1) := by decide +kernel
theorem dX10_term_52 : decode cX10_term 52 = .ok (.iconst 2, 1) := by decide +kernel
theorem dX10_term_53 : decode cX10_term 53 = .ok (.invokevirtual 264, 3) := by decide +kernel
theorem dX10_term_56 : decode cX10_term 56 = .ok (.ifCond .eq 7, 3) := by decide +kernel
theorem dX10_term_59 : decode cX10_term 59 = .ok (.iconst 0, 1) := by decide +kernel
theorem dX10_term_60 : decode cX10_term 60 = .ok (.goto 4, 3) := by decide +kernel
theorem dX10_term_63 : decode cX10_term 63 = .ok (.iload_n 1, 1) := by decide +kernel
theorem dX10_term_64 : decode cX10_term 64 = .ok (.ireturn, 1) := by decide +kernel
theorem dX10_isOver_0 : decode cX10_isOver 0 = .ok (.aload_n 0, 1) := by decide +kernel
theorem dX10_isOver_1 : decode cX10_isOver 1 = .ok (.invokevirtual 119, 3) := by decide +kernel
theorem dX10_isOver_4 : decode cX10_isOver 4 = .ok (.aload_n 0, 1) := by decide +kernel
theorem dX10_isOver_5 : decode cX10_isOver 5 = .ok (.getfield 106, 3) := by decide +kernel
theorem dX10_isOver_8 : decode cX10_isOver 8 = .ok (.aload_n 0, 1) := by decide +kernel
theorem dX10_isOver_9 : decode cX10_isOver 9 = .ok (.getfield 109, 3) := by decide +kernel
theorem dX10_isOver_12 : decode cX10_isOver 12 = .ok (.if_icmp .ne 7, 3) := by decide +kernel
theorem dX10_isOver_15 : decode cX10_isOver 15 = .ok (.iconst 1, 1) := by decide +kernel
theorem dX10_isOver_16 : decode cX10_isOver 16 = .ok (.goto 4, 3) := by decide +kernel
theorem dX10_isOver_19 : decode cX10_isOver 19 = .ok (.iconst 0, 1) := by decide +kernel
theorem dX10_isOver_20 : decode cX10_isOver 20 = .ok (.ireturn, 1) := by decide +kernel
theorem dX10_rule_0 : decode cX10_rule 0 = .ok (.aload_n 0, 1) := by decide +kernel
theorem dX10_rule_1 : decode cX10_rule 1 = .ok (.invokevirtual 181, 3) := by decide +kernel
theorem dX10_rule_4 : decode cX10_rule 4 = .ok (.aload_n 0, 1) := by decide +kernel
theorem dX10_rule_5 : decode cX10_rule 5 = .ok (.invokevirtual 236, 3) := by decide +kernel
theorem dX10_rule_8 : decode cX10_rule 8 = .ok (.ifCond .eq 12, 3) := by decide +kernel
theorem dX10_rule_11 : decode cX10_rule 11 = .ok (.aload_n 0, 1) := by decide +kernel
theorem dX10_rule_12 : decode cX10_rule 12 = .ok (.bipush 61, 2) := by decide +kernel
theorem dX10_rule_14 : decode cX10_rule 14 = .ok (.invokevirtual 169, 3) := by decide +kernel
theorem dX10_rule_17 : decode cX10_rule 17 = .ok (.ifCond .ne 8, 3) := by decide +kernel
theorem dX10_rule_20 : decode cX10_rule 20 = .ok (.aload_n 0, 1) := by decide +kernel
theorem dX10_rule_21 : decode cX10_rule 21 = .ok (.invokevirtual 187, 3) := by decide +kernel
theorem dX10_rule_24 : decode cX10_rule 24 = .ok (.ireturn, 1) := by decide +kernel
theorem dX10_rule_25 : decode cX10_rule 25 = .ok (.aload_n 0, 1) := by decide +kernel
theorem dX10_rule_26 : decode cX10_rule 26 = .ok (.getfield 178, 3) := by decide +kernel
theorem dX10_rule_29 : decode cX10_rule 29 = .ok (.istore_n 1, 1) := by decide +kernel
theorem dX10_rule_30 : decode cX10_rule 30 = .ok (.aload_n 0, 1) := by decide +kernel
theorem dX10_rule_31 : decode cX10_rule 31 = .ok (.invokevirtual 236, 3) := by decide +kernel
theorem dX10_rule_34 : decode cX10_rule 34 = .ok (.ifCond .eq 10, 3) := by decide +kernel
theorem dX10_rule_37 : decode cX10_rule 37 = .ok (.aload_n 0, 1) := by decide +kernel
theorem dX10_rule_38 : decode cX10_rule 38 = .ok (.invokevirtual 255, 3) := by decide +kernel
theorem dX10_rule_41 : decode cX10_rule 41 = .ok (.ifCond .ne 8, 3) := by decide +kernel
theorem dX10_rule_44 : decode cX10_rule 44 = .ok (.aload_n 0, 1) := by decide +kernel
theorem dX10_rule_45 : decode cX10_rule 45 = .ok (.invokevirtual 187, 3) := by decide +kernel
theorem dX10_rule_48 : decode cX10_rule 48 = .ok (.ireturn, 1) := by decide +kernel
theorem dX10_rule_49 : decode cX10_rule 49 = .ok (.aload_n 0, 1) := by decide +kernel
theorem dX10_rule_50 : decode cX10_rule 50 = .ok (.aload_n 0, 1) := by decide +kernel
theorem dX10_rule_51 : decode cX10_rule 51 = .ok (.iconst 0, 1) := by decide +kernel
theorem dX10_rule_52 : decode cX10_rule 52 = .ok (.invokevirtual 258, 3) := by decide +kernel
theorem dX10_rule_55 : decode cX10_rule 55 = .ok (.ifCond .ne 48, 3) := by decide +kernel
theorem dX10_rule_58 : decode cX10_rule 58 = .ok (.aload_n 0, 1) := by decide +kernel
theorem dX10_rule_59 : decode cX10_rule 59 = .ok (.iload_n 1, 1) := by decide +kernel
theorem dX10_rule_60 : decode cX10_rule 60 = .ok (.invokevirtual 258, 3) := by decide +kernel
theorem dX10_rule_63 : decode cX10_rule 63 = .ok (.ifCond .ne 40, 3) := by decide +kernel
theorem dX10_rule_66 : decode cX10_rule 66 = .ok (.aload_n 0, 1) := by decide +kernel
theorem dX10_rule_67 : decode cX10_rule 67 = .ok (.getfield 52, 3) := by decide +kernel
theorem dX10_rule_70 : decode cX10_rule 70 = .ok (.iconst 0, 1) := by decide +kernel
theorem dX10_rule_71 : decode cX10_rule 71 = .ok (.iaload, 1) := by decide +kernel
theorem dX10_rule_72 : decode cX10_rule 72 = .ok (.sipush 512, 3) := by decide +kernel
theorem dX10_rule_75 : decode cX10_rule 75 = .ok (.if_icmp .lt 28, 3) := by decide +kernel
theorem dX10_rule_78 : decode cX10_rule 78 = .ok (.aload_n 0, 1) := by decide +kernel
theorem dX10_rule_79 : decode cX10_rule 79 = .ok (.iload_n 1, 1) := by decide +kernel
theorem dX10_rule_80 : decode cX10_rule 80 = .ok (.invokevirtual 268, 3) := by decide +kernel
theorem dX10_rule_83 : decode cX10_rule 83 = .ok (.aload_n 0, 1) := by decide +kernel
theorem dX10_rule_84 : decode cX10_rule 84 = .ok (.iconst 0, 1) := by decide +kernel
theorem dX10_rule_85 : decode cX10_rule 85 = .ok (.invokevirtual 268, 3) := by decide +kernel
theorem dX10_rule_88 : decode cX10_rule 88 = .ok (.iconst (-1), 1) := by decide +kernel
theorem dX10_rule_89 : decode cX10_rule 89 = .ok (.ixor, 1) := by decide +kernel
theorem dX10_rule_90 : decode cX10_rule 90 = .ok (.iand, 1) := by decide +kernel
theorem dX10_rule_91 : decode cX10_rule 91 = .ok (.ifCond .ne 12, 3) := by decide +kernel
theorem dX10_rule_94 : decode cX10_rule 94 = .ok (.aload_n 0, 1) := by decide +kernel
theorem dX10_rule_95 : decode cX10_rule 95 = .ok (.getfield 199, 3) := by decide +kernel
theorem dX10_rule_98 : decode cX10_rule 98 = .ok (.bipush 8, 2) := by decide +kernel
theorem dX10_rule_100 : decode cX10_rule 100 = .ok (.if_icmp .ne 7, 3) := by decide +kernel
theorem dX10_rule_103 : decode cX10_rule 103 = .ok (.iconst 1, 1) := by decide +kernel
theorem dX10_rule_104 : decode cX10_rule 104 = .ok (.goto 4, 3) := by decide +kernel
theorem dX10_rule_107 : decode cX10_rule 107 = .ok (.iconst 0, 1) := by decide +kernel
theorem dX10_rule_108 : decode cX10_rule 108 = .ok (.iconst 2, 1) := by decide +kernel
theorem dX10_rule_109 : decode cX10_rule 109 = .ok (.invokevirtual 264, 3) := by decide +kernel
theorem dX10_rule_112 : decode cX10_rule 112 = .ok (.ifCond .eq 5, 3) := by decide +kernel
theorem dX10_rule_115 : decode cX10_rule 115 = .ok (.iconst 0, 1) := by decide +kernel
theorem dX10_rule_116 : decode cX10_rule 116 = .ok (.ireturn, 1) := by decide +kernel
theorem dX10_rule_117 : decode cX10_rule 117 = .ok (.aload_n 0, 1) := by decide +kernel
theorem dX10_rule_118 : decode cX10_rule 118 = .ok (.aload_n 0, 1) := by decide +kernel
theorem dX10_rule_119 : decode cX10_rule 119 = .ok (.aload_n 0, 1) := by decide +kernel
theorem dX10_rule_120 : decode cX10_rule 120 = .ok (.getfield 199, 3) := by decide +kernel
theorem dX10_rule_123 : decode cX10_rule 123 = .ok (.iconst 0, 1) := by decide +kernel
theorem dX10_rule_124 : decode cX10_rule 124 = .ok (.invokevirtual 271, 3) := by decide +kernel
theorem dX10_rule_127 : decode cX10_rule 127 = .ok (.iconst 0, 1) := by decide +kernel
theorem dX10_rule_128 : decode cX10_rule 128 = .ok (.invokevirtual 251, 3) := by decide +kernel
theorem dX10_rule_131 : decode cX10_rule 131 = .ok (.aload_n 0, 1) := by decide +kernel
theorem dX10_rule_132 : decode cX10_rule 132 = .ok (.aload_n 0, 1) := by decide +kernel
theorem dX10_rule_133 : decode cX10_rule 133 = .ok (.aload_n 0, 1) := by decide +kernel
theorem dX10_rule_134 : decode cX10_rule 134 = .ok (.getfield 199, 3) := by decide +kernel
theorem dX10_rule_137 : decode cX10_rule 137 = .ok (.iconst 1, 1) := by decide +kernel
theorem dX10_rule_138 : decode cX10_rule 138 = .ok (.invokevirtual 271, 3) := by decide +kernel
theorem dX10_rule_141 : decode cX10_rule 141 = .ok (.iload_n 1, 1) := by decide +kernel
theorem dX10_rule_142 : decode cX10_rule 142 = .ok (.invokevirtual 251, 3) := by decide +kernel
theorem dX10_rule_145 : decode cX10_rule 145 = .ok (.aload_n 0, 1) := by decide +kernel
theorem dX10_rule_146 : decode cX10_rule 146 = .ok (.aload_n 0, 1) := by decide +kernel
theorem dX10_rule_147 : decode cX10_rule 147 = .ok (.getfield 199, 3) := by decide +kernel
theorem dX10_rule_150 : decode cX10_rule 150 = .ok (.ifCond .ne 7, 3) := by decide +kernel
theorem dX10_rule_153 : decode cX10_rule 153 = .ok (.iconst 1, 1) := by decide +kernel
theorem dX10_rule_154 : decode cX10_rule 154 = .ok (.goto 14, 3) := by decide +kernel
theorem dX10_rule_157 : decode cX10_rule 157 = .ok (.aload_n 0, 1) := by decide +kernel
theorem dX10_rule_158 : decode cX10_rule 158 = .ok (.getfield 275, 3) := by decide +kernel
theorem dX10_rule_161 : decode cX10_rule 161 = .ok (.iconst 1, 1) := by decide +kernel
theorem dX10_rule_162 : decode cX10_rule 162 = .ok (.aload_n 0, 1) := by decide +kernel
theorem dX10_rule_163 : decode cX10_rule 163 = .ok (.getfield 199, 3) := by decide +kernel
theorem dX10_rule_166 : decode cX10_rule 166 = .ok (.ishl, 1) := by decide +kernel
theorem dX10_rule_167 : decode cX10_rule 167 = .ok (.ior, 1) := by decide +kernel
theorem dX10_rule_168 : decode cX10_rule 168 = .ok (.putfield 275, 3) := by decide +kernel
theorem dX10_rule_171 : decode cX10_rule 171 = .ok (.aload_n 0, 1) := by decide +kernel
theorem dX10_rule_172 : decode cX10_rule 172 = .ok (.dup, 1) := by decide +kernel
theorem dX10_rule_173 : decode cX10_rule 173 = .ok (.getfield 199, 3) := by decide +kernel
theorem dX10_rule_176 : decode cX10_rule 176 = .ok (.iconst 1, 1) := by decide +kernel
theorem dX10_rule_177 : decode cX10_rule 177 = .ok (.iadd, 1) := by decide +kernel
theorem dX10_rule_178 : decode cX10_rule 178 = .ok (.putfield 199, 3) := by decide +kernel
theorem dX10_rule_181 : decode cX10_rule 181 = .ok (.aload_n 0, 1) := by decide +kernel
theorem dX10_rule_182 : decode cX10_rule 182 = .ok (.getfield 199, 3) := by decide +kernel
theorem dX10_rule_185 : decode cX10_rule 185 = .ok (.iconst 1, 1) := by decide +kernel
theorem dX10_rule_186 : decode cX10_rule 186 = .ok (.isub, 1) := by decide +kernel
theorem dX10_rule_187 : decode cX10_rule 187 = .ok (.ireturn, 1) := by decide +kernel
theorem dX10_fault_0 : decode cX10_fault 0 = .ok (.aload_n 0, 1) := by decide +kernel
theorem dX10_fault_1 : decode cX10_fault 1 = .ok (.iconst 0, 1) := by decide +kernel
theorem dX10_fault_2 : decode cX10_fault 2 = .ok (.putfield 100, 3) := by decide +kernel
theorem dX10_fault_5 : decode cX10_fault 5 = .ok (.aload_n 0, 1) := by decide +kernel
theorem dX10_fault_6 : decode cX10_fault 6 = .ok (.getfield 17, 3) := by decide +kernel
theorem dX10_fault_9 : decode cX10_fault 9 = .ok (.ireturn, 1) := by decide +kernel
theorem dX10_noRule_0 : decode cX10_noRule 0 = .ok (.aload_n 0, 1) := by decide +kernel
theorem dX10_noRule_1 : decode cX10_noRule 1 = .ok (.iload_n 1, 1) := by decide +kernel
theorem dX10_noRule_2 : decode cX10_noRule 2 = .ok (.iconst 0, 1) := by decide +kernel
theorem dX10_noRule_3 : decode cX10_noRule 3 = .ok (.aload_n 0, 1) := by decide +kernel
theorem dX10_noRule_4 : decode cX10_noRule 4 = .ok (.getfield 199, 3) := by decide +kernel
theorem dX10_noRule_7 : decode cX10_noRule 7 = .ok (.iconst 1, 1) := by decide +kernel
theorem dX10_noRule_8 : decode cX10_noRule 8 = .ok (.isub, 1) := by decide +kernel
theorem dX10_noRule_9 : decode cX10_noRule 9 = .ok (.invokestatic 132, 3) := by decide +kernel
theorem dX10_noRule_12 : decode cX10_noRule 12 = .ok (.ifCond .ne 7, 3) := by decide +kernel
theorem dX10_noRule_15 : decode cX10_noRule 15 = .ok (.iconst 1, 1) := by decide +kernel
theorem dX10_noRule_16 : decode cX10_noRule 16 = .ok (.goto 4, 3) := by decide +kernel
theorem dX10_noRule_19 : decode cX10_noRule 19 = .ok (.iconst 0, 1) := by decide +kernel
theorem dX10_noRule_20 : decode cX10_noRule 20 = .ok (.iconst 1, 1) := by decide +kernel
theorem dX10_noRule_21 : decode cX10_noRule 21 = .ok (.invokevirtual 264, 3) := by decide +kernel
theorem dX10_noRule_24 : decode cX10_noRule 24 = .ok (.ireturn, 1) := by decide +kernel
theorem dX10_noTerm_0 : decode cX10_noTerm 0 = .ok (.aload_n 0, 1) := by decide +kernel
theorem dX10_noTerm_1 : decode cX10_noTerm 1 = .ok (.iload_n 1, 1) := by decide +kernel
theorem dX10_noTerm_2 : decode cX10_noTerm 2 = .ok (.iconst 0, 1) := by decide +kernel
theorem dX10_noTerm_3 : decode cX10_noTerm 3 = .ok (.aload_n 0, 1) := by decide +kernel
theorem dX10_noTerm_4 : decode cX10_noTerm 4 = .ok (.getfield 196, 3) := by decide +kernel
theorem dX10_noTerm_7 : decode cX10_noTerm 7 = .ok (.iconst 1, 1) := by decide +kernel
theorem dX10_noTerm_8 : decode cX10_noTerm 8 = .ok (.isub, 1) := by decide +kernel
theorem dX10_noTerm_9 : decode cX10_noTerm 9 = .ok (.invokestatic 132, 3) := by decide +kernel
theorem dX10_noTerm_12 : decode cX10_noTerm 12 = .ok (.ifCond .ne 7, 3) := by decide +kernel
theorem dX10_noTerm_15 : decode cX10_noTerm 15 = .ok (.iconst 1, 1) := by decide +kernel
theorem dX10_noTerm_16 : decode cX10_noTerm 16 = .ok (.goto 4, 3) := by decide +kernel
theorem dX10_noTerm_19 : decode cX10_noTerm 19 = .ok (.iconst 0, 1) := by decide +kernel
theorem dX10_noTerm_20 : decode cX10_noTerm 20 = .ok (.iconst 1, 1) := by decide +kernel
theorem dX10_noTerm_21 : decode cX10_noTerm 21 = .ok (.invokevirtual 264, 3) := by decide +kernel
theorem dX10_noTerm_24 : decode cX10_noTerm 24 = .ok (.ireturn, 1) := by decide +kernel
theorem dX10_turn_0 : decode cX10_turn 0 = .ok (.aload_n 0, 1) := by decide +kernel
theorem dX10_turn_1 : decode cX10_turn 1 = .ok (.iconst 0, 1) := by decide +kernel
theorem dX10_turn_2 : decode cX10_turn 2 = .ok (.putfield 100, 3) := by decide +kernel
theorem dX10_turn_5 : decode cX10_turn 5 = .ok (.aload_n 0, 1) := by decide +kernel
theorem dX10_turn_6 : decode cX10_turn 6 = .ok (.iload_n 1, 1) := by decide +kernel
theorem dX10_turn_7 : decode cX10_turn 7 = .ok (.invokevirtual 278, 3) := by decide +kernel
theorem dX10_turn_10 : decode cX10_turn 10 = .ok (.ifCond .eq 5, 3) := by decide +kernel
theorem dX10_turn_13 : decode cX10_turn 13 = .ok (.iconst 0, 1) := by decide +kernel
theorem dX10_turn_14 : decode cX10_turn 14 = .ok (.ireturn, 1) := by decide +kernel
theorem dX10_turn_15 : decode cX10_turn 15 = .ok (.aload_n 0, 1) := by decide +kernel
theorem dX10_turn_16 : decode cX10_turn 16 = .ok (.getfield 275, 3) := by decide +kernel
theorem dX10_turn_19 : decode cX10_turn 19 = .ok (.iload_n 1, 1) := by decide +kernel
theorem dX10_turn_20 : decode cX10_turn 20 = .ok (.invokestatic 281, 3) := by decide +kernel
theorem dX10_turn_23 : decode cX10_turn 23 = .ok (.istore_n 3, 1) := by decide +kernel
theorem dX10_turn_24 : decode cX10_turn 24 = .ok (.aload_n 0, 1) := by decide +kernel
theorem dX10_turn_25 : decode cX10_turn 25 = .ok (.iload_n 2, 1) := by decide +kernel
theorem dX10_turn_26 : decode cX10_turn 26 = .ok (.ifCond .eq 14, 3) := by decide +kernel
theorem dX10_turn_29 : decode cX10_turn 29 = .ok (.aload_n 0, 1) := by decide +kernel
theorem dX10_turn_30 : decode cX10_turn 30 = .ok (.getfield 275, 3) := by decide +kernel
theorem dX10_turn_33 : decode cX10_turn 33 = .ok (.iconst 1, 1) := by decide +kernel
theorem dX10_turn_34 : decode cX10_turn 34 = .ok (.iload_n 1, 1) := by decide +kernel
theorem dX10_turn_35 : decode cX10_turn 35 = .ok (.ishl, 1) := by decide +kernel
theorem dX10_turn_36 : decode cX10_turn 36 = .ok (.ior, 1) := by decide +kernel
theorem dX10_turn_37 : decode cX10_turn 37 = .ok (.goto 13, 3) := by decide +kernel
theorem dX10_turn_40 : decode cX10_turn 40 = .ok (.aload_n 0, 1) := by decide +kernel
theorem dX10_turn_41 : decode cX10_turn 41 = .ok (.getfield 275, 3) := by decide +kernel
theorem dX10_turn_44 : decode cX10_turn 44 = .ok (.iconst 1, 1) := by decide +kernel
theorem dX10_turn_45 : decode cX10_turn 45 = .ok (.iload_n 1, 1) := by decide +kernel
theorem dX10_turn_46 : decode cX10_turn 46 = .ok (.ishl, 1) := by decide +kernel
theorem dX10_turn_47 : decode cX10_turn 47 = .ok (.iconst (-1), 1) := by decide +kernel
theorem dX10_turn_48 : decode cX10_turn 48 = .ok (.ixor, 1) := by decide +kernel
theorem dX10_turn_49 : decode cX10_turn 49 = .ok (.iand, 1) := by decide +kernel
theorem dX10_turn_50 : decode cX10_turn 50 = .ok (.putfield 275, 3) := by decide +kernel
theorem dX10_turn_53 : decode cX10_turn 53 = .ok (.iload_n 3, 1) := by decide +kernel
theorem dX10_turn_54 : decode cX10_turn 54 = .ok (.iload_n 2, 1) := by decide +kernel
theorem dX10_turn_55 : decode cX10_turn 55 = .ok (.if_icmp .eq 7, 3) := by decide +kernel
theorem dX10_turn_58 : decode cX10_turn 58 = .ok (.iconst 1, 1) := by decide +kernel
theorem dX10_turn_59 : decode cX10_turn 59 = .ok (.goto 4, 3) := by decide +kernel
theorem dX10_turn_62 : decode cX10_turn 62 = .ok (.iconst 0, 1) := by decide +kernel
theorem dX10_turn_63 : decode cX10_turn 63 = .ok (.ireturn, 1) := by decide +kernel
theorem dX10_rulesOn_0 : decode cX10_rulesOn 0 = .ok (.aload_n 0, 1) := by decide +kernel
theorem dX10_rulesOn_1 : decode cX10_rulesOn 1 = .ok (.getfield 275, 3) := by decide +kernel
theorem dX10_rulesOn_4 : decode cX10_rulesOn 4 = .ok (.iconst 1, 1) := by decide +kernel
theorem dX10_rulesOn_5 : decode cX10_rulesOn 5 = .ok (.aload_n 0, 1) := by decide +kernel
theorem dX10_rulesOn_6 : decode cX10_rulesOn 6 = .ok (.getfield 199, 3) := by decide +kernel
theorem dX10_rulesOn_9 : decode cX10_rulesOn 9 = .ok (.ishl, 1) := by decide +kernel
theorem dX10_rulesOn_10 : decode cX10_rulesOn 10 = .ok (.iconst 1, 1) := by decide +kernel
theorem dX10_rulesOn_11 : decode cX10_rulesOn 11 = .ok (.isub, 1) := by decide +kernel
theorem dX10_rulesOn_12 : decode cX10_rulesOn 12 = .ok (.iand, 1) := by decide +kernel
theorem dX10_rulesOn_13 : decode cX10_rulesOn 13 = .ok (.ireturn, 1) := by decide +kernel
theorem dX10_foundAt_0 : decode cX10_foundAt 0 = .ok (.bipush 21, 2) := by decide +kernel
theorem dX10_foundAt_2 : decode cX10_foundAt 2 = .ok (.iconst 5, 1) := by decide +kernel
theorem dX10_foundAt_3 : decode cX10_foundAt 3 = .ok (.iload_n 1, 1) := by decide +kernel
theorem dX10_foundAt_4 : decode cX10_foundAt 4 = .ok (.imul, 1) := by decide +kernel
theorem dX10_foundAt_5 : decode cX10_foundAt 5 = .ok (.iload_n 2, 1) := by decide +kernel
theorem dX10_foundAt_6 : decode cX10_foundAt 6 = .ok (.iadd, 1) := by decide +kernel
theorem dX10_foundAt_7 : decode cX10_foundAt 7 = .ok (.imul, 1) := by decide +kernel
theorem dX10_foundAt_8 : decode cX10_foundAt 8 = .ok (.ireturn, 1) := by decide +kernel
theorem dX10_fills_0 : decode cX10_fills 0 = .ok (.aload_n 0, 1) := by decide +kernel
theorem dX10_fills_1 : decode cX10_fills 1 = .ok (.getfield 178, 3) := by decide +kernel
theorem dX10_fills_4 : decode cX10_fills 4 = .ok (.istore_n 3, 1) := by decide +kernel
theorem dX10_fills_5 : decode cX10_fills 5 = .ok (.aload_n 0, 1) := by decide +kernel
theorem dX10_fills_6 : decode cX10_fills 6 = .ok (.getfield 52, 3) := by decide +kernel
theorem dX10_fills_9 : decode cX10_fills 9 = .ok (.iload_n 1, 1) := by decide +kernel
theorem dX10_fills_10 : decode cX10_fills 10 = .ok (.iaload, 1) := by decide +kernel
theorem dX10_fills_11 : decode cX10_fills 11 = .ok (.sipush 512, 3) := by decide +kernel
theorem dX10_fills_14 : decode cX10_fills 14 = .ok (.if_icmp .ge 73, 3) := by decide +kernel
theorem dX10_fills_17 : decode cX10_fills 17 = .ok (.iconst 1, 1) := by decide +kernel
theorem dX10_fills_18 : decode cX10_fills 18 = .ok (.istore 4, 2) := by decide +kernel
theorem dX10_fills_20 : decode cX10_fills 20 = .ok (.aload_n 0, 1) := by decide +kernel
theorem dX10_fills_21 : decode cX10_fills 21 = .ok (.iload_n 2, 1) := by decide +kernel
theorem dX10_fills_22 : decode cX10_fills 22 = .ok (.aload_n 0, 1) := by decide +kernel
theorem dX10_fills_23 : decode cX10_fills 23 = .ok (.getfield 52, 3) := by decide +kernel
theorem dX10_fills_26 : decode cX10_fills 26 = .ok (.iload_n 1, 1) := by decide +kernel
theorem dX10_fills_27 : decode cX10_fills 27 = .ok (.iaload, 1) := by decide +kernel
theorem dX10_fills_28 : decode cX10_fills 28 = .ok (.invokevirtual 284, 3) := by decide +kernel
theorem dX10_fills_31 : decode cX10_fills 31 = .ok (.istore 5, 2) := by decide +kernel
theorem dX10_fills_33 : decode cX10_fills 33 = .ok (.iload 4, 2) := by decide +kernel
theorem dX10_fills_35 : decode cX10_fills 35 = .ok (.ifCond .le 50, 3) := by decide +kernel
theorem dX10_fills_38 : decode cX10_fills 38 = .ok (.aload_n 0, 1) := by decide +kernel
theorem dX10_fills_39 : decode cX10_fills 39 = .ok (.getfield 52, 3) := by decide +kernel
theorem dX10_fills_42 : decode cX10_fills 42 = .ok (.aload_n 0, 1) := by decide +kernel
theorem dX10_fills_43 : decode cX10_fills 43 = .ok (.getfield 178, 3) := by decide +kernel
theorem dX10_fills_46 : decode cX10_fills 46 = .ok (.aload_n 0, 1) := by decide +kernel
theorem dX10_fills_47 : decode cX10_fills 47 = .ok (.getfield 73, 3) := by decide +kernel
theorem dX10_fills_50 : decode cX10_fills 50 = .ok (.iload 5, 2) := by decide +kernel
theorem dX10_fills_52 : decode cX10_fills 52 = .ok (.iaload, 1) := by decide +kernel
theorem dX10_fills_53 : decode cX10_fills 53 = .ok (.iastore, 1) := by decide +kernel
theorem dX10_fills_54 : decode cX10_fills 54 = .ok (.iload 4, 2) := by decide +kernel
theorem dX10_fills_56 : decode cX10_fills 56 = .ok (.aload_n 0, 1) := by decide +kernel
theorem dX10_fills_57 : decode cX10_fills 57 = .ok (.aload_n 0, 1) := by decide +kernel
theorem dX10_fills_58 : decode cX10_fills 58 = .ok (.getfield 178, 3) := by decide +kernel
theorem dX10_fills_61 : decode cX10_fills 61 = .ok (.invokevirtual 209, 3) := by decide +kernel
theorem dX10_fills_64 : decode cX10_fills 64 = .ok (.iconst 1, 1) := by decide +kernel
theorem dX10_fills_65 : decode cX10_fills 65 = .ok (.isub, 1) := by decide +kernel
theorem dX10_fills_66 : decode cX10_fills 66 = .ok (.iadd, 1) := by decide +kernel
theorem dX10_fills_67 : decode cX10_fills 67 = .ok (.istore 4, 2) := by decide +kernel
theorem dX10_fills_69 : decode cX10_fills 69 = .ok (.aload_n 0, 1) := by decide +kernel
theorem dX10_fills_70 : decode cX10_fills 70 = .ok (.dup, 1) := by decide +kernel
theorem dX10_fills_71 : decode cX10_fills 71 = .ok (.getfield 178, 3) := by decide +kernel
theorem dX10_fills_74 : decode cX10_fills 74 = .ok (.iconst 1, 1) := by decide +kernel
theorem dX10_fills_75 : decode cX10_fills 75 = .ok (.iadd, 1) := by decide +kernel
theorem dX10_fills_76 : decode cX10_fills 76 = .ok (.putfield 178, 3) := by decide +kernel
theorem dX10_fills_79 : decode cX10_fills 79 = .ok (.iinc 5 1, 3) := by decide +kernel
theorem dX10_fills_82 : decode cX10_fills 82 = .ok (.goto (-49), 3) := by decide +kernel
theorem dX10_fills_85 : decode cX10_fills 85 = .ok (.iload_n 3, 1) := by decide +kernel
theorem dX10_fills_86 : decode cX10_fills 86 = .ok (.ireturn, 1) := by decide +kernel
theorem dX10_fills_87 : decode cX10_fills 87 = .ok (.aload_n 0, 1) := by decide +kernel
theorem dX10_fills_88 : decode cX10_fills 88 = .ok (.iload_n 1, 1) := by decide +kernel
theorem dX10_fills_89 : decode cX10_fills 89 = .ok (.invokevirtual 209, 3) := by decide +kernel
theorem dX10_fills_92 : decode cX10_fills 92 = .ok (.istore 4, 2) := by decide +kernel
theorem dX10_fills_94 : decode cX10_fills 94 = .ok (.iload 4, 2) := by decide +kernel
theorem dX10_fills_96 : decode cX10_fills 96 = .ok (.ifCond .ne 30, 3) := by decide +kernel
theorem dX10_fills_99 : decode cX10_fills 99 = .ok (.aload_n 0, 1) := by decide +kernel
theorem dX10_fills_100 : decode cX10_fills 100 = .ok (.getfield 52, 3) := by decide +kernel
theorem dX10_fills_103 : decode cX10_fills 103 = .ok (.aload_n 0, 1) := by decide +kernel
theorem dX10_fills_104 : decode cX10_fills 104 = .ok (.getfield 178, 3) := by decide +kernel
theorem dX10_fills_107 : decode cX10_fills 107 = .ok (.aload_n 0, 1) := by decide +kernel
theorem dX10_fills_108 : decode cX10_fills 108 = .ok (.getfield 52, 3) := by decide +kernel
theorem dX10_fills_111 : decode cX10_fills 111 = .ok (.iload_n 1, 1) := by decide +kernel
theorem dX10_fills_112 : decode cX10_fills 112 = .ok (.iaload, 1) := by decide +kernel
theorem dX10_fills_113 : decode cX10_fills 113 = .ok (.iastore, 1) := by decide +kernel
theorem dX10_fills_114 : decode cX10_fills 114 = .ok (.aload_n 0, 1) := by decide +kernel
theorem dX10_fills_115 : decode cX10_fills 115 = .ok (.dup, 1) := by decide +kernel
theorem dX10_fills_116 : decode cX10_fills 116 = .ok (.getfield 178, 3) := by decide +kernel
theorem dX10_fills_119 : decode cX10_fills 119 = .ok (.iconst 1, 1) := by decide +kernel
theorem dX10_fills_120 : decode cX10_fills 120 = .ok (.iadd, 1) := by decide +kernel
theorem dX10_fills_121 : decode cX10_fills 121 = .ok (.putfield 178, 3) := by decide +kernel
theorem dX10_fills_124 : decode cX10_fills 124 = .ok (.iload_n 3, 1) := by decide +kernel
theorem dX10_fills_125 : decode cX10_fills 125 = .ok (.ireturn, 1) := by decide +kernel
theorem dX10_fills_126 : decode cX10_fills 126 = .ok (.iload_n 1, 1) := by decide +kernel
theorem dX10_fills_127 : decode cX10_fills 127 = .ok (.iconst 1, 1) := by decide +kernel
theorem dX10_fills_128 : decode cX10_fills 128 = .ok (.iadd, 1) := by decide +kernel
theorem dX10_fills_129 : decode cX10_fills 129 = .ok (.istore 5, 2) := by decide +kernel
theorem dX10_fills_131 : decode cX10_fills 131 = .ok (.iconst 0, 1) := by decide +kernel
theorem dX10_fills_132 : decode cX10_fills 132 = .ok (.istore 6, 2) := by decide +kernel
theorem dX10_fills_134 : decode cX10_fills 134 = .ok (.iload 6, 2) := by decide +kernel
theorem dX10_fills_136 : decode cX10_fills 136 = .ok (.iload 4, 2) := by decide +kernel
theorem dX10_fills_138 : decode cX10_fills 138 = .ok (.if_icmp .ge 26, 3) := by decide +kernel
theorem dX10_fills_141 : decode cX10_fills 141 = .ok (.aload_n 0, 1) := by decide +kernel
theorem dX10_fills_142 : decode cX10_fills 142 = .ok (.iload 5, 2) := by decide +kernel
theorem dX10_fills_144 : decode cX10_fills 144 = .ok (.iload_n 2, 1) := by decide +kernel
theorem dX10_fills_145 : decode cX10_fills 145 = .ok (.invokevirtual 336, 3) := by decide +kernel
theorem dX10_fills_148 : decode cX10_fills 148 = .ok (.istore 7, 2) := by decide +kernel
theorem dX10_fills_150 : decode cX10_fills 150 = .ok (.aload_n 0, 1) := by decide +kernel
theorem dX10_fills_151 : decode cX10_fills 151 = .ok (.iload 5, 2) := by decide +kernel
theorem dX10_fills_153 : decode cX10_fills 153 = .ok (.invokevirtual 213, 3) := by decide +kernel
theorem dX10_fills_156 : decode cX10_fills 156 = .ok (.istore 5, 2) := by decide +kernel
theorem dX10_fills_158 : decode cX10_fills 158 = .ok (.iinc 6 1, 3) := by decide +kernel
theorem dX10_fills_161 : decode cX10_fills 161 = .ok (.goto (-27), 3) := by decide +kernel
theorem dX10_fills_164 : decode cX10_fills 164 = .ok (.aload_n 0, 1) := by decide +kernel
theorem dX10_fills_165 : decode cX10_fills 165 = .ok (.aload_n 0, 1) := by decide +kernel
theorem dX10_fills_166 : decode cX10_fills 166 = .ok (.iload_n 1, 1) := by decide +kernel
theorem dX10_fills_167 : decode cX10_fills 167 = .ok (.invokevirtual 220, 3) := by decide +kernel
theorem dX10_fills_170 : decode cX10_fills 170 = .ok (.iload_n 3, 1) := by decide +kernel
theorem dX10_fills_171 : decode cX10_fills 171 = .ok (.invokevirtual 239, 3) := by decide +kernel
theorem dX10_fills_174 : decode cX10_fills 174 = .ok (.ireturn, 1) := by decide +kernel
theorem dX10_rebuilds_0 : decode cX10_rebuilds 0 = .ok (.aload_n 0, 1) := by decide +kernel
theorem dX10_rebuilds_1 : decode cX10_rebuilds 1 = .ok (.getfield 178, 3) := by decide +kernel
theorem dX10_rebuilds_4 : decode cX10_rebuilds 4 = .ok (.istore 4, 2) := by decide +kernel
theorem dX10_rebuilds_6 : decode cX10_rebuilds 6 = .ok (.iload_n 1, 1) := by decide +kernel
theorem dX10_rebuilds_7 : decode cX10_rebuilds 7 = .ok (.iload_n 2, 1) := by decide +kernel
theorem dX10_rebuilds_8 : decode cX10_rebuilds 8 = .ok (.if_icmp .ne 9, 3) := by decide +kernel
theorem dX10_rebuilds_11 : decode cX10_rebuilds 11 = .ok (.aload_n 0, 1) := by decide +kernel
theorem dX10_rebuilds_12 : decode cX10_rebuilds 12 = .ok (.iload_n 3, 1) := by decide +kernel
theorem dX10_rebuilds_13 : decode cX10_rebuilds 13 = .ok (.invokevirtual 230, 3) := by decide +kernel
theorem dX10_rebuilds_16 : decode cX10_rebuilds 16 = .ok (.ireturn, 1) := by decide +kernel
theorem dX10_rebuilds_17 : decode cX10_rebuilds 17 = .ok (.aload_n 0, 1) := by decide +kernel
theorem dX10_rebuilds_18 : decode cX10_rebuilds 18 = .ok (.iload_n 1, 1) := by decide +kernel
theorem dX10_rebuilds_19 : decode cX10_rebuilds 19 = .ok (.invokevirtual 209, 3) := by decide +kernel
theorem dX10_rebuilds_22 : decode cX10_rebuilds 22 = .ok (.istore 5, 2) := by decide +kernel
theorem dX10_rebuilds_24 : decode cX10_rebuilds 24 = .ok (.iload 5, 2) := by decide +kernel
theorem dX10_rebuilds_26 : decode cX10_rebuilds 26 = .ok (.ifCond .ne 9, 3) := by decide +kernel
theorem dX10_rebuilds_29 : decode cX10_rebuilds 29 = .ok (.aload_n 0, 1) := by decide +kernel
theorem dX10_rebuilds_30 : decode cX10_rebuilds 30 = .ok (.iload_n 1, 1) := by decide +kernel
theorem dX10_rebuilds_31 : decode cX10_rebuilds 31 = .ok (.invokevirtual 230, 3) := by decide +kernel
theorem dX10_rebuilds_34 : decode cX10_rebuilds 34 = .ok (.ireturn, 1) := by decide +kernel
theorem dX10_rebuilds_35 : decode cX10_rebuilds 35 = .ok (.iload_n 1, 1) := by decide +kernel
theorem dX10_rebuilds_36 : decode cX10_rebuilds 36 = .ok (.iconst 1, 1) := by decide +kernel
theorem dX10_rebuilds_37 : decode cX10_rebuilds 37 = .ok (.iadd, 1) := by decide +kernel
theorem dX10_rebuilds_38 : decode cX10_rebuilds 38 = .ok (.istore 6, 2) := by decide +kernel
theorem dX10_rebuilds_40 : decode cX10_rebuilds 40 = .ok (.iconst 0, 1) := by decide +kernel
theorem dX10_rebuilds_41 : decode cX10_rebuilds 41 = .ok (.istore 7, 2) := by decide +kernel
theorem dX10_rebuilds_43 : decode cX10_rebuilds 43 = .ok (.iload 7, 2) := by decide +kernel
theorem dX10_rebuilds_45 : decode cX10_rebuilds 45 = .ok (.iload 5, 2) := by decide +kernel
theorem dX10_rebuilds_47 : decode cX10_rebuilds 47 = .ok (.if_icmp .ge 27, 3) := by decide +kernel
theorem dX10_rebuilds_50 : decode cX10_rebuilds 50 = .ok (.aload_n 0, 1) := by decide +kernel
theorem dX10_rebuilds_51 : decode cX10_rebuilds 51 = .ok (.iload 6, 2) := by decide +kernel
theorem dX10_rebuilds_53 : decode cX10_rebuilds 53 = .ok (.iload_n 2, 1) := by decide +kernel
theorem dX10_rebuilds_54 : decode cX10_rebuilds 54 = .ok (.iload_n 3, 1) := by decide +kernel
theorem dX10_rebuilds_55 : decode cX10_rebuilds 55 = .ok (.invokevirtual 339, 3) := by decide +kernel
theorem dX10_rebuilds_58 : decode cX10_rebuilds 58 = .ok (.istore 8, 2) := by decide +kernel
theorem dX10_rebuilds_60 : decode cX10_rebuilds 60 = .ok (.aload_n 0, 1) := by decide +kernel
theorem dX10_rebuilds_61 : decode cX10_rebuilds 61 = .ok (.iload 6, 2) := by decide +kernel
theorem dX10_rebuilds_63 : decode cX10_rebuilds 63 = .ok (.invokevirtual 213, 3) := by decide +kernel
theorem dX10_rebuilds_66 : decode cX10_rebuilds 66 = .ok (.istore 6, 2) := by decide +kernel
theorem dX10_rebuilds_68 : decode cX10_rebuilds 68 = .ok (.iinc 7 1, 3) := by decide +kernel
theorem dX10_rebuilds_71 : decode cX10_rebuilds 71 = .ok (.goto (-28), 3) := by decide +kernel
theorem dX10_rebuilds_74 : decode cX10_rebuilds 74 = .ok (.aload_n 0, 1) := by decide +kernel
theorem dX10_rebuilds_75 : decode cX10_rebuilds 75 = .ok (.aload_n 0, 1) := by decide +kernel
theorem dX10_rebuilds_76 : decode cX10_rebuilds 76 = .ok (.iload_n 1, 1) := by decide +kernel
theorem dX10_rebuilds_77 : decode cX10_rebuilds 77 = .ok (.invokevirtual 220, 3) := by decide +kernel
theorem dX10_rebuilds_80 : decode cX10_rebuilds 80 = .ok (.iload 4, 2) := by decide +kernel
theorem dX10_rebuilds_82 : decode cX10_rebuilds 82 = .ok (.invokevirtual 239, 3) := by decide +kernel
theorem dX10_rebuilds_85 : decode cX10_rebuilds 85 = .ok (.ireturn, 1) := by decide +kernel
theorem dX10_sumOf_0 : decode cX10_sumOf 0 = .ok (.aload_n 0, 1) := by decide +kernel
theorem dX10_sumOf_1 : decode cX10_sumOf 1 = .ok (.iload_n 1, 1) := by decide +kernel
theorem dX10_sumOf_2 : decode cX10_sumOf 2 = .ok (.invokevirtual 209, 3) := by decide +kernel
theorem dX10_sumOf_5 : decode cX10_sumOf 5 = .ok (.istore 4, 2) := by decide +kernel
theorem dX10_sumOf_7 : decode cX10_sumOf 7 = .ok (.iload_n 1, 1) := by decide +kernel
theorem dX10_sumOf_8 : decode cX10_sumOf 8 = .ok (.iconst 1, 1) := by decide +kernel
theorem dX10_sumOf_9 : decode cX10_sumOf 9 = .ok (.iadd, 1) := by decide +kernel
theorem dX10_sumOf_10 : decode cX10_sumOf 10 = .ok (.istore 5, 2) := by decide +kernel
theorem dX10_sumOf_12 : decode cX10_sumOf 12 = .ok (.iconst 0, 1) := by decide +kernel
theorem dX10_sumOf_13 : decode cX10_sumOf 13 = .ok (.istore 6, 2) := by decide +kernel
theorem dX10_sumOf_15 : decode cX10_sumOf 15 = .ok (.iload 6, 2) := by decide +kernel
theorem dX10_sumOf_17 : decode cX10_sumOf 17 = .ok (.iload 4, 2) := by decide +kernel
theorem dX10_sumOf_19 : decode cX10_sumOf 19 = .ok (.if_icmp .ge 39, 3) := by decide +kernel
theorem dX10_sumOf_22 : decode cX10_sumOf 22 = .ok (.aload_n 0, 1) := by decide +kernel
theorem dX10_sumOf_23 : decode cX10_sumOf 23 = .ok (.iload 5, 2) := by decide +kernel
theorem dX10_sumOf_25 : decode cX10_sumOf 25 = .ok (.invokevirtual 213, 3) := by decide +kernel
theorem dX10_sumOf_28 : decode cX10_sumOf 28 = .ok (.istore 7, 2) := by decide +kernel
theorem dX10_sumOf_30 : decode cX10_sumOf 30 = .ok (.iload_n 2, 1) := by decide +kernel
theorem dX10_sumOf_31 : decode cX10_sumOf 31 = .ok (.iload 6, 2) := by decide +kernel
theorem dX10_sumOf_33 : decode cX10_sumOf 33 = .ok (.invokestatic 281, 3) := by decide +kernel
theorem dX10_sumOf_36 : decode cX10_sumOf 36 = .ok (.iload_n 3, 1) := by decide +kernel
theorem dX10_sumOf_37 : decode cX10_sumOf 37 = .ok (.if_icmp .eq 11, 3) := by decide +kernel
theorem dX10_sumOf_40 : decode cX10_sumOf 40 = .ok (.aload_n 0, 1) := by decide +kernel
theorem dX10_sumOf_41 : decode cX10_sumOf 41 = .ok (.iload 5, 2) := by decide +kernel
theorem dX10_sumOf_43 : decode cX10_sumOf 43 = .ok (.invokevirtual 230, 3) := by decide +kernel
theorem dX10_sumOf_46 : decode cX10_sumOf 46 = .ok (.istore 8, 2) := by decide +kernel
theorem dX10_sumOf_48 : decode cX10_sumOf 48 = .ok (.iload 7, 2) := by decide +kernel
theorem dX10_sumOf_50 : decode cX10_sumOf 50 = .ok (.istore 5, 2) := by decide +kernel
theorem dX10_sumOf_52 : decode cX10_sumOf 52 = .ok (.iinc 6 1, 3) := by decide +kernel
theorem dX10_sumOf_55 : decode cX10_sumOf 55 = .ok (.goto (-40), 3) := by decide +kernel
theorem dX10_sumOf_58 : decode cX10_sumOf 58 = .ok (.return_, 1) := by decide +kernel
theorem dX10_tooMuch_0 : decode cX10_tooMuch 0 = .ok (.aload_n 0, 1) := by decide +kernel
theorem dX10_tooMuch_1 : decode cX10_tooMuch 1 = .ok (.aload_n 0, 1) := by decide +kernel
theorem dX10_tooMuch_2 : decode cX10_tooMuch 2 = .ok (.getfield 296, 3) := by decide +kernel
theorem dX10_tooMuch_5 : decode cX10_tooMuch 5 = .ok (.iload_n 1, 1) := by decide +kernel
theorem dX10_tooMuch_6 : decode cX10_tooMuch 6 = .ok (.invokevirtual 264, 3) := by decide +kernel
theorem dX10_tooMuch_9 : decode cX10_tooMuch 9 = .ok (.ireturn, 1) := by decide +kernel
theorem dX10_termAt_0 : decode cX10_termAt 0 = .ok (.aload_n 0, 1) := by decide +kernel
theorem dX10_termAt_1 : decode cX10_termAt 1 = .ok (.iconst 0, 1) := by decide +kernel
theorem dX10_termAt_2 : decode cX10_termAt 2 = .ok (.putfield 178, 3) := by decide +kernel
theorem dX10_termAt_5 : decode cX10_termAt 5 = .ok (.aload_n 0, 1) := by decide +kernel
theorem dX10_termAt_6 : decode cX10_termAt 6 = .ok (.iconst 0, 1) := by decide +kernel
theorem dX10_termAt_7 : decode cX10_termAt 7 = .ok (.putfield 296, 3) := by decide +kernel
theorem dX10_termAt_10 : decode cX10_termAt 10 = .ok (.aload_n 0, 1) := by decide +kernel
theorem dX10_termAt_11 : decode cX10_termAt 11 = .ok (.aload_n 0, 1) := by decide +kernel
theorem dX10_termAt_12 : decode cX10_termAt 12 = .ok (.iload_n 1, 1) := by decide +kernel
theorem dX10_termAt_13 : decode cX10_termAt 13 = .ok (.invokevirtual 242, 3) := by decide +kernel
theorem dX10_termAt_16 : decode cX10_termAt 16 = .ok (.invokevirtual 245, 3) := by decide +kernel
theorem dX10_termAt_19 : decode cX10_termAt 19 = .ok (.ireturn, 1) := by decide +kernel
theorem dX10_says_0 : decode cX10_says 0 = .ok (.aload_n 0, 1) := by decide +kernel
theorem dX10_says_1 : decode cX10_says 1 = .ok (.getfield 88, 3) := by decide +kernel
theorem dX10_says_4 : decode cX10_says 4 = .ok (.aload_n 0, 1) := by decide +kernel
theorem dX10_says_5 : decode cX10_says 5 = .ok (.getfield 206, 3) := by decide +kernel
theorem dX10_says_8 : decode cX10_says 8 = .ok (.iload_n 1, 1) := by decide +kernel
theorem dX10_says_9 : decode cX10_says 9 = .ok (.i2b, 1) := by decide +kernel
theorem dX10_says_10 : decode cX10_says 10 = .ok (.bastore, 1) := by decide +kernel
theorem dX10_says_11 : decode cX10_says 11 = .ok (.aload_n 0, 1) := by decide +kernel
theorem dX10_says_12 : decode cX10_says 12 = .ok (.dup, 1) := by decide +kernel
theorem dX10_says_13 : decode cX10_says 13 = .ok (.getfield 206, 3) := by decide +kernel
theorem dX10_says_16 : decode cX10_says 16 = .ok (.iconst 1, 1) := by decide +kernel
theorem dX10_says_17 : decode cX10_says 17 = .ok (.iadd, 1) := by decide +kernel
theorem dX10_says_18 : decode cX10_says 18 = .ok (.putfield 206, 3) := by decide +kernel
theorem dX10_says_21 : decode cX10_says 21 = .ok (.return_, 1) := by decide +kernel
theorem dX10_saysAt_0 : decode cX10_saysAt 0 = .ok (.aload_n 0, 1) := by decide +kernel
theorem dX10_saysAt_1 : decode cX10_saysAt 1 = .ok (.getfield 52, 3) := by decide +kernel
theorem dX10_saysAt_4 : decode cX10_saysAt 4 = .ok (.iload_n 1, 1) := by decide +kernel
theorem dX10_saysAt_5 : decode cX10_saysAt 5 = .ok (.iaload, 1) := by decide +kernel
theorem dX10_saysAt_6 : decode cX10_saysAt 6 = .ok (.sipush 512, 3) := by decide +kernel
theorem dX10_saysAt_9 : decode cX10_saysAt 9 = .ok (.if_icmp .ge 15, 3) := by decide +kernel
theorem dX10_saysAt_12 : decode cX10_saysAt 12 = .ok (.bipush 10, 2) := by decide +kernel
theorem dX10_saysAt_14 : decode cX10_saysAt 14 = .ok (.aload_n 0, 1) := by decide +kernel
theorem dX10_saysAt_15 : decode cX10_saysAt 15 = .ok (.getfield 52, 3) := by decide +kernel
theorem dX10_saysAt_18 : decode cX10_saysAt 18 = .ok (.iload_n 1, 1) := by decide +kernel
theorem dX10_saysAt_19 : decode cX10_saysAt 19 = .ok (.iaload, 1) := by decide +kernel
theorem dX10_saysAt_20 : decode cX10_saysAt 20 = .ok (.iadd, 1) := by decide +kernel
theorem dX10_saysAt_21 : decode cX10_saysAt 21 = .ok (.goto 8, 3) := by decide +kernel
theorem dX10_saysAt_24 : decode cX10_saysAt 24 = .ok (.aload_n 0, 1) := by decide +kernel
theorem dX10_saysAt_25 : decode cX10_saysAt 25 = .ok (.iload_n 1, 1) := by decide +kernel
theorem dX10_saysAt_26 : decode cX10_saysAt 26 = .ok (.invokevirtual 220, 3) := by decide +kernel
theorem dX10_saysAt_29 : decode cX10_saysAt 29 = .ok (.istore_n 2, 1) := by decide +kernel
theorem dX10_saysAt_30 : decode cX10_saysAt 30 = .ok (.iconst 0, 1) := by decide +kernel
theorem dX10_saysAt_31 : decode cX10_saysAt 31 = .ok (.istore_n 3, 1) := by decide +kernel
theorem dX10_saysAt_32 : decode cX10_saysAt 32 = .ok (.iload_n 3, 1) := by decide +kernel
theorem dX10_saysAt_33 : decode cX10_saysAt 33 = .ok (.aload_n 0, 1) := by decide +kernel
theorem dX10_saysAt_34 : decode cX10_saysAt 34 = .ok (.getfield 27, 3) := by decide +kernel
theorem dX10_saysAt_37 : decode cX10_saysAt 37 = .ok (.iload_n 2, 1) := by decide +kernel
theorem dX10_saysAt_38 : decode cX10_saysAt 38 = .ok (.iaload, 1) := by decide +kernel
theorem dX10_saysAt_39 : decode cX10_saysAt 39 = .ok (.if_icmp .ge 24, 3) := by decide +kernel
theorem dX10_saysAt_42 : decode cX10_saysAt 42 = .ok (.aload_n 0, 1) := by decide +kernel
theorem dX10_saysAt_43 : decode cX10_saysAt 43 = .ok (.aload_n 0, 1) := by decide +kernel
theorem dX10_saysAt_44 : decode cX10_saysAt 44 = .ok (.getfield 21, 3) := by decide +kernel
theorem dX10_saysAt_47 : decode cX10_saysAt 47 = .ok (.bipush 6, 2) := by decide +kernel
theorem dX10_saysAt_49 : decode cX10_saysAt 49 = .ok (.iload_n 2, 1) := by decide +kernel
theorem dX10_saysAt_50 : decode cX10_saysAt 50 = .ok (.imul, 1) := by decide +kernel
theorem dX10_saysAt_51 : decode cX10_saysAt 51 = .ok (.iload_n 3, 1) := by decide +kernel
theorem dX10_saysAt_52 : decode cX10_saysAt 52 = .ok (.iadd, 1) := by decide +kernel
theorem dX10_saysAt_53 : decode cX10_saysAt 53 = .ok (.baload, 1) := by decide +kernel
theorem dX10_saysAt_54 : decode cX10_saysAt 54 = .ok (.invokevirtual 365, 3) := by decide +kernel
theorem dX10_saysAt_57 : decode cX10_saysAt 57 = .ok (.iinc 3 1, 3) := by decide +kernel
theorem dX10_saysAt_60 : decode cX10_saysAt 60 = .ok (.goto (-28), 3) := by decide +kernel
theorem dX10_saysAt_63 : decode cX10_saysAt 63 = .ok (.aload_n 0, 1) := by decide +kernel
theorem dX10_saysAt_64 : decode cX10_saysAt 64 = .ok (.iload_n 1, 1) := by decide +kernel
theorem dX10_saysAt_65 : decode cX10_saysAt 65 = .ok (.invokevirtual 209, 3) := by decide +kernel
theorem dX10_saysAt_68 : decode cX10_saysAt 68 = .ok (.istore_n 3, 1) := by decide +kernel
theorem dX10_saysAt_69 : decode cX10_saysAt 69 = .ok (.iload_n 1, 1) := by decide +kernel
theorem dX10_saysAt_70 : decode cX10_saysAt 70 = .ok (.iconst 1, 1) := by decide +kernel
theorem dX10_saysAt_71 : decode cX10_saysAt 71 = .ok (.iadd, 1) := by decide +kernel
theorem dX10_saysAt_72 : decode cX10_saysAt 72 = .ok (.istore 4, 2) := by decide +kernel
theorem dX10_saysAt_74 : decode cX10_saysAt 74 = .ok (.iconst 0, 1) := by decide +kernel
theorem dX10_saysAt_75 : decode cX10_saysAt 75 = .ok (.istore 5, 2) := by decide +kernel
theorem dX10_saysAt_77 : decode cX10_saysAt 77 = .ok (.iload 5, 2) := by decide +kernel
theorem dX10_saysAt_79 : decode cX10_saysAt 79 = .ok (.iload_n 3, 1) := by decide +kernel
theorem dX10_saysAt_80 : decode cX10_saysAt 80 = .ok (.if_icmp .ge 33, 3) := by decide +kernel
theorem dX10_saysAt_83 : decode cX10_saysAt 83 = .ok (.aload_n 0, 1) := by decide +kernel
theorem dX10_saysAt_84 : decode cX10_saysAt 84 = .ok (.iload 5, 2) := by decide +kernel
theorem dX10_saysAt_86 : decode cX10_saysAt 86 = .ok (.ifCond .ne 8, 3) := by decide +kernel
theorem dX10_saysAt_89 : decode cX10_saysAt 89 = .ok (.bipush 40, 2) := by decide +kernel
theorem dX10_saysAt_91 : decode cX10_saysAt 91 = .ok (.goto 5, 3) := by decide +kernel
theorem dX10_saysAt_94 : decode cX10_saysAt 94 = .ok (.bipush 44, 2) := by decide +kernel
theorem dX10_saysAt_96 : decode cX10_saysAt 96 = .ok (.invokevirtual 365, 3) := by decide +kernel
theorem dX10_saysAt_99 : decode cX10_saysAt 99 = .ok (.aload_n 0, 1) := by decide +kernel
theorem dX10_saysAt_100 : decode cX10_saysAt 100 = .ok (.iload 4, 2) := by decide +kernel
theorem dX10_saysAt_102 : decode cX10_saysAt 102 = .ok (.invokevirtual 368, 3) := by decide +kernel
theorem dX10_saysAt_105 : decode cX10_saysAt 105 = .ok (.istore 4, 2) := by decide +kernel
theorem dX10_saysAt_107 : decode cX10_saysAt 107 = .ok (.iinc 5 1, 3) := by decide +kernel
theorem dX10_saysAt_110 : decode cX10_saysAt 110 = .ok (.goto (-33), 3) := by decide +kernel
theorem dX10_saysAt_113 : decode cX10_saysAt 113 = .ok (.iload_n 3, 1) := by decide +kernel
theorem dX10_saysAt_114 : decode cX10_saysAt 114 = .ok (.ifCond .le 9, 3) := by decide +kernel
theorem dX10_saysAt_117 : decode cX10_saysAt 117 = .ok (.aload_n 0, 1) := by decide +kernel
theorem dX10_saysAt_118 : decode cX10_saysAt 118 = .ok (.bipush 41, 2) := by decide +kernel
theorem dX10_saysAt_120 : decode cX10_saysAt 120 = .ok (.invokevirtual 365, 3) := by decide +kernel
theorem dX10_saysAt_123 : decode cX10_saysAt 123 = .ok (.iload 4, 2) := by decide +kernel
theorem dX10_saysAt_125 : decode cX10_saysAt 125 = .ok (.ireturn, 1) := by decide +kernel
theorem dX10_shows_0 : decode cX10_shows 0 = .ok (.aload_n 0, 1) := by decide +kernel
theorem dX10_shows_1 : decode cX10_shows 1 = .ok (.iconst 0, 1) := by decide +kernel
theorem dX10_shows_2 : decode cX10_shows 2 = .ok (.putfield 206, 3) := by decide +kernel
theorem dX10_shows_5 : decode cX10_shows 5 = .ok (.aload_n 0, 1) := by decide +kernel
theorem dX10_shows_6 : decode cX10_shows 6 = .ok (.iconst 1, 1) := by decide +kernel
theorem dX10_shows_7 : decode cX10_shows 7 = .ok (.putfield 202, 3) := by decide +kernel
theorem dX10_shows_10 : decode cX10_shows 10 = .ok (.aload_n 0, 1) := by decide +kernel
theorem dX10_shows_11 : decode cX10_shows 11 = .ok (.iload_n 1, 1) := by decide +kernel
theorem dX10_shows_12 : decode cX10_shows 12 = .ok (.invokevirtual 368, 3) := by decide +kernel
theorem dX10_shows_15 : decode cX10_shows 15 = .ok (.istore_n 2, 1) := by decide +kernel
theorem dX10_shows_16 : decode cX10_shows 16 = .ok (.iload_n 1, 1) := by decide +kernel
theorem dX10_shows_17 : decode cX10_shows 17 = .ok (.istore_n 3, 1) := by decide +kernel
theorem dX10_shows_18 : decode cX10_shows 18 = .ok (.iload_n 3, 1) := by decide +kernel
theorem dX10_shows_19 : decode cX10_shows 19 = .ok (.iload_n 2, 1) := by decide +kernel
theorem dX10_shows_20 : decode cX10_shows 20 = .ok (.if_icmp .ge 23, 3) := by decide +kernel
theorem dX10_shows_23 : decode cX10_shows 23 = .ok (.aload_n 0, 1) := by decide +kernel
theorem dX10_shows_24 : decode cX10_shows 24 = .ok (.getfield 85, 3) := by decide +kernel
theorem dX10_shows_27 : decode cX10_shows 27 = .ok (.iload_n 3, 1) := by decide +kernel
theorem dX10_shows_28 : decode cX10_shows 28 = .ok (.iload_n 1, 1) := by decide +kernel
theorem dX10_shows_29 : decode cX10_shows 29 = .ok (.isub, 1) := by decide +kernel
theorem dX10_shows_30 : decode cX10_shows 30 = .ok (.aload_n 0, 1) := by decide +kernel
theorem dX10_shows_31 : decode cX10_shows 31 = .ok (.getfield 52, 3) := by decide +kernel
theorem dX10_shows_34 : decode cX10_shows 34 = .ok (.iload_n 3, 1) := by decide +kernel
theorem dX10_shows_35 : decode cX10_shows 35 = .ok (.iaload, 1) := by decide +kernel
theorem dX10_shows_36 : decode cX10_shows 36 = .ok (.iastore, 1) := by decide +kernel
theorem dX10_shows_37 : decode cX10_shows 37 = .ok (.iinc 3 1, 3) := by decide +kernel
theorem dX10_shows_40 : decode cX10_shows 40 = .ok (.goto (-22), 3) := by decide +kernel
theorem dX10_shows_43 : decode cX10_shows 43 = .ok (.aload_n 0, 1) := by decide +kernel
theorem dX10_shows_44 : decode cX10_shows 44 = .ok (.getfield 206, 3) := by decide +kernel
theorem dX10_shows_47 : decode cX10_shows 47 = .ok (.ireturn, 1) := by decide +kernel
theorem dX10_show_0 : decode cX10_show 0 = .ok (.aload_n 0, 1) := by decide +kernel
theorem dX10_show_1 : decode cX10_show 1 = .ok (.iconst 0, 1) := by decide +kernel
theorem dX10_show_2 : decode cX10_show 2 = .ok (.putfield 100, 3) := by decide +kernel
theorem dX10_show_5 : decode cX10_show 5 = .ok (.aload_n 0, 1) := by decide +kernel
theorem dX10_show_6 : decode cX10_show 6 = .ok (.iload_n 1, 1) := by decide +kernel
theorem dX10_show_7 : decode cX10_show 7 = .ok (.invokevirtual 371, 3) := by decide +kernel
theorem dX10_show_10 : decode cX10_show 10 = .ok (.ifCond .eq 7, 3) := by decide +kernel
theorem dX10_show_13 : decode cX10_show 13 = .ok (.iconst 0, 1) := by decide +kernel
theorem dX10_show_14 : decode cX10_show 14 = .ok (.goto 12, 3) := by decide +kernel
theorem dX10_show_17 : decode cX10_show 17 = .ok (.aload_n 0, 1) := by decide +kernel
theorem dX10_show_18 : decode cX10_show 18 = .ok (.aload_n 0, 1) := by decide +kernel
theorem dX10_show_19 : decode cX10_show 19 = .ok (.iload_n 1, 1) := by decide +kernel
theorem dX10_show_20 : decode cX10_show 20 = .ok (.invokevirtual 374, 3) := by decide +kernel
theorem dX10_show_23 : decode cX10_show 23 = .ok (.invokevirtual 377, 3) := by decide +kernel
theorem dX10_show_26 : decode cX10_show 26 = .ok (.ireturn, 1) := by decide +kernel
theorem dX10_place_0 : decode cX10_place 0 = .ok (.aload_n 0, 1) := by decide +kernel
theorem dX10_place_1 : decode cX10_place 1 = .ok (.iconst 0, 1) := by decide +kernel
theorem dX10_place_2 : decode cX10_place 2 = .ok (.putfield 100, 3) := by decide +kernel
theorem dX10_place_5 : decode cX10_place 5 = .ok (.aload_n 0, 1) := by decide +kernel
theorem dX10_place_6 : decode cX10_place 6 = .ok (.iload_n 1, 1) := by decide +kernel
theorem dX10_place_7 : decode cX10_place 7 = .ok (.invokevirtual 371, 3) := by decide +kernel
theorem dX10_place_10 : decode cX10_place 10 = .ok (.ifCond .eq 5, 3) := by decide +kernel
theorem dX10_place_13 : decode cX10_place 13 = .ok (.iconst 0, 1) := by decide +kernel
theorem dX10_place_14 : decode cX10_place 14 = .ok (.ireturn, 1) := by decide +kernel
theorem dX10_place_15 : decode cX10_place 15 = .ok (.aload_n 0, 1) := by decide +kernel
theorem dX10_place_16 : decode cX10_place 16 = .ok (.iload_n 1, 1) := by decide +kernel
theorem dX10_place_17 : decode cX10_place 17 = .ok (.invokevirtual 374, 3) := by decide +kernel
theorem dX10_place_20 : decode cX10_place 20 = .ok (.istore_n 3, 1) := by decide +kernel
theorem dX10_place_21 : decode cX10_place 21 = .ok (.aload_n 0, 1) := by decide +kernel
theorem dX10_place_22 : decode cX10_place 22 = .ok (.iload_n 2, 1) := by decide +kernel
theorem dX10_place_23 : decode cX10_place 23 = .ok (.iconst 0, 1) := by decide +kernel
theorem dX10_place_24 : decode cX10_place 24 = .ok (.aload_n 0, 1) := by decide +kernel
theorem dX10_place_25 : decode cX10_place 25 = .ok (.iload_n 3, 1) := by decide +kernel
theorem dX10_place_26 : decode cX10_place 26 = .ok (.invokevirtual 213, 3) := by decide +kernel
theorem dX10_place_29 : decode cX10_place 29 = .ok (.iconst 1, 1) := by decide +kernel
theorem dX10_place_30 : decode cX10_place 30 = .ok (.isub, 1) := by decide +kernel
theorem dX10_place_31 : decode cX10_place 31 = .ok (.invokestatic 132, 3) := by decide +kernel
theorem dX10_place_34 : decode cX10_place 34 = .ok (.ifCond .ne 7, 3) := by decide +kernel
theorem dX10_place_37 : decode cX10_place 37 = .ok (.iconst 1, 1) := by decide +kernel
theorem dX10_place_38 : decode cX10_place 38 = .ok (.goto 4, 3) := by decide +kernel
theorem dX10_place_41 : decode cX10_place 41 = .ok (.iconst 0, 1) := by decide +kernel
theorem dX10_place_42 : decode cX10_place 42 = .ok (.iconst 2, 1) := by decide +kernel
theorem dX10_place_43 : decode cX10_place 43 = .ok (.invokevirtual 264, 3) := by decide +kernel
theorem dX10_place_46 : decode cX10_place 46 = .ok (.ifCond .eq 7, 3) := by decide +kernel
theorem dX10_place_49 : decode cX10_place 49 = .ok (.iconst 0, 1) := by decide +kernel
theorem dX10_place_50 : decode cX10_place 50 = .ok (.goto 10, 3) := by decide +kernel
theorem dX10_place_53 : decode cX10_place 53 = .ok (.aload_n 0, 1) := by decide +kernel
theorem dX10_place_54 : decode cX10_place 54 = .ok (.iload_n 3, 1) := by decide +kernel
theorem dX10_place_55 : decode cX10_place 55 = .ok (.iload_n 2, 1) := by decide +kernel
theorem dX10_place_56 : decode cX10_place 56 = .ok (.iadd, 1) := by decide +kernel
theorem dX10_place_57 : decode cX10_place 57 = .ok (.invokevirtual 377, 3) := by decide +kernel
theorem dX10_place_60 : decode cX10_place 60 = .ok (.ireturn, 1) := by decide +kernel
theorem dX10_side_0 : decode cX10_side 0 = .ok (.aload_n 0, 1) := by decide +kernel
theorem dX10_side_1 : decode cX10_side 1 = .ok (.iconst 0, 1) := by decide +kernel
theorem dX10_side_2 : decode cX10_side 2 = .ok (.putfield 100, 3) := by decide +kernel
theorem dX10_side_5 : decode cX10_side 5 = .ok (.aload_n 0, 1) := by decide +kernel
theorem dX10_side_6 : decode cX10_side 6 = .ok (.iload_n 1, 1) := by decide +kernel
theorem dX10_side_7 : decode cX10_side 7 = .ok (.invokevirtual 278, 3) := by decide +kernel
theorem dX10_side_10 : decode cX10_side 10 = .ok (.ifCond .eq 5, 3) := by decide +kernel
theorem dX10_side_13 : decode cX10_side 13 = .ok (.iconst 0, 1) := by decide +kernel
theorem dX10_side_14 : decode cX10_side 14 = .ok (.ireturn, 1) := by decide +kernel
theorem dX10_side_15 : decode cX10_side 15 = .ok (.aload_n 0, 1) := by decide +kernel
theorem dX10_side_16 : decode cX10_side 16 = .ok (.iconst 0, 1) := by decide +kernel
theorem dX10_side_17 : decode cX10_side 17 = .ok (.putfield 178, 3) := by decide +kernel
theorem dX10_side_20 : decode cX10_side 20 = .ok (.aload_n 0, 1) := by decide +kernel
theorem dX10_side_21 : decode cX10_side 21 = .ok (.aload_n 0, 1) := by decide +kernel
theorem dX10_side_22 : decode cX10_side 22 = .ok (.aload_n 0, 1) := by decide +kernel
theorem dX10_side_23 : decode cX10_side 23 = .ok (.iload_n 1, 1) := by decide +kernel
theorem dX10_side_24 : decode cX10_side 24 = .ok (.iload_n 2, 1) := by decide +kernel
theorem dX10_side_25 : decode cX10_side 25 = .ok (.invokevirtual 271, 3) := by decide +kernel
theorem dX10_side_28 : decode cX10_side 28 = .ok (.invokevirtual 245, 3) := by decide +kernel
theorem dX10_side_31 : decode cX10_side 31 = .ok (.invokevirtual 377, 3) := by decide +kernel
theorem dX10_side_34 : decode cX10_side 34 = .ok (.ireturn, 1) := by decide +kernel
theorem dX10_octet_0 : decode cX10_octet 0 = .ok (.aload_n 0, 1) := by decide +kernel
theorem dX10_octet_1 : decode cX10_octet 1 = .ok (.iconst 0, 1) := by decide +kernel
theorem dX10_octet_2 : decode cX10_octet 2 = .ok (.putfield 100, 3) := by decide +kernel
theorem dX10_octet_5 : decode cX10_octet 5 = .ok (.iload_n 1, 1) := by decide +kernel
theorem dX10_octet_6 : decode cX10_octet 6 = .ok (.iconst 0, 1) := by decide +kernel
theorem dX10_octet_7 : decode cX10_octet 7 = .ok (.aload_n 0, 1) := by decide +kernel
theorem dX10_octet_8 : decode cX10_octet 8 = .ok (.getfield 206, 3) := by decide +kernel
theorem dX10_octet_11 : decode cX10_octet 11 = .ok (.iconst 1, 1) := by decide +kernel
theorem dX10_octet_12 : decode cX10_octet 12 = .ok (.isub, 1) := by decide +kernel
theorem dX10_octet_13 : decode cX10_octet 13 = .ok (.invokestatic 132, 3) := by decide +kernel
theorem dX10_octet_16 : decode cX10_octet 16 = .ok (.ifCond .eq 12, 3) := by decide +kernel
theorem dX10_octet_19 : decode cX10_octet 19 = .ok (.aload_n 0, 1) := by decide +kernel
theorem dX10_octet_20 : decode cX10_octet 20 = .ok (.getfield 88, 3) := by decide +kernel
theorem dX10_octet_23 : decode cX10_octet 23 = .ok (.iload_n 1, 1) := by decide +kernel
theorem dX10_octet_24 : decode cX10_octet 24 = .ok (.baload, 1) := by decide +kernel
theorem dX10_octet_25 : decode cX10_octet 25 = .ok (.goto 4, 3) := by decide +kernel
theorem dX10_octet_28 : decode cX10_octet 28 = .ok (.iconst (-1), 1) := by decide +kernel
theorem dX10_octet_29 : decode cX10_octet 29 = .ok (.ireturn, 1) := by decide +kernel
theorem dX10_keep_0 : decode cX10_keep 0 = .ok (.aload_n 0, 1) := by decide +kernel
theorem dX10_keep_1 : decode cX10_keep 1 = .ok (.iconst 0, 1) := by decide +kernel
theorem dX10_keep_2 : decode cX10_keep 2 = .ok (.putfield 100, 3) := by decide +kernel
theorem dX10_keep_5 : decode cX10_keep 5 = .ok (.aload_n 0, 1) := by decide +kernel
theorem dX10_keep_6 : decode cX10_keep 6 = .ok (.aload_n 0, 1) := by decide +kernel
theorem dX10_keep_7 : decode cX10_keep 7 = .ok (.getfield 202, 3) := by decide +kernel
theorem dX10_keep_10 : decode cX10_keep 10 = .ok (.ifCond .ne 7, 3) := by decide +kernel
theorem dX10_keep_13 : decode cX10_keep 13 = .ok (.iconst 1, 1) := by decide +kernel
theorem dX10_keep_14 : decode cX10_keep 14 = .ok (.goto 4, 3) := by decide +kernel
theorem dX10_keep_17 : decode cX10_keep 17 = .ok (.iconst 0, 1) := by decide +kernel
theorem dX10_keep_18 : decode cX10_keep 18 = .ok (.iconst 1, 1) := by decide +kernel
theorem dX10_keep_19 : decode cX10_keep 19 = .ok (.invokevirtual 264, 3) := by decide +kernel
theorem dX10_keep_22 : decode cX10_keep 22 = .ok (.ifCond .eq 5, 3) := by decide +kernel
theorem dX10_keep_25 : decode cX10_keep 25 = .ok (.iconst 0, 1) := by decide +kernel
theorem dX10_keep_26 : decode cX10_keep 26 = .ok (.ireturn, 1) := by decide +kernel
theorem dX10_keep_27 : decode cX10_keep 27 = .ok (.iconst 1, 1) := by decide +kernel
theorem dX10_keep_28 : decode cX10_keep 28 = .ok (.istore_n 1, 1) := by decide +kernel
theorem dX10_keep_29 : decode cX10_keep 29 = .ok (.aload_n 0, 1) := by decide +kernel
theorem dX10_keep_30 : decode cX10_keep 30 = .ok (.iconst 0, 1) := by decide +kernel
theorem dX10_keep_31 : decode cX10_keep 31 = .ok (.putfield 178, 3) := by decide +kernel
theorem dX10_keep_34 : decode cX10_keep 34 = .ok (.iconst 0, 1) := by decide +kernel
theorem dX10_keep_35 : decode cX10_keep 35 = .ok (.istore_n 2, 1) := by decide +kernel
theorem dX10_keep_36 : decode cX10_keep 36 = .ok (.iload_n 1, 1) := by decide +kernel
theorem dX10_keep_37 : decode cX10_keep 37 = .ok (.ifCond .le 47, 3) := by decide +kernel
theorem dX10_keep_40 : decode cX10_keep 40 = .ok (.aload_n 0, 1) := by decide +kernel
theorem dX10_keep_41 : decode cX10_keep 41 = .ok (.getfield 52, 3) := by decide +kernel
theorem dX10_keep_44 : decode cX10_keep 44 = .ok (.aload_n 0, 1) := by decide +kernel
theorem dX10_keep_45 : decode cX10_keep 45 = .ok (.getfield 178, 3) := by decide +kernel
theorem dX10_keep_48 : decode cX10_keep 48 = .ok (.aload_n 0, 1) := by decide +kernel
theorem dX10_keep_49 : decode cX10_keep 49 = .ok (.getfield 85, 3) := by decide +kernel
theorem dX10_keep_52 : decode cX10_keep 52 = .ok (.iload_n 2, 1) := by decide +kernel
theorem dX10_keep_53 : decode cX10_keep 53 = .ok (.iaload, 1) := by decide +kernel
theorem dX10_keep_54 : decode cX10_keep 54 = .ok (.iastore, 1) := by decide +kernel
theorem dX10_keep_55 : decode cX10_keep 55 = .ok (.iload_n 1, 1) := by decide +kernel
theorem dX10_keep_56 : decode cX10_keep 56 = .ok (.aload_n 0, 1) := by decide +kernel
theorem dX10_keep_57 : decode cX10_keep 57 = .ok (.aload_n 0, 1) := by decide +kernel
theorem dX10_keep_58 : decode cX10_keep 58 = .ok (.getfield 178, 3) := by decide +kernel
theorem dX10_keep_61 : decode cX10_keep 61 = .ok (.invokevirtual 209, 3) := by decide +kernel
theorem dX10_keep_64 : decode cX10_keep 64 = .ok (.iconst 1, 1) := by decide +kernel
theorem dX10_keep_65 : decode cX10_keep 65 = .ok (.isub, 1) := by decide +kernel
theorem dX10_keep_66 : decode cX10_keep 66 = .ok (.iadd, 1) := by decide +kernel
theorem dX10_keep_67 : decode cX10_keep 67 = .ok (.istore_n 1, 1) := by decide +kernel
theorem dX10_keep_68 : decode cX10_keep 68 = .ok (.aload_n 0, 1) := by decide +kernel
theorem dX10_keep_69 : decode cX10_keep 69 = .ok (.dup, 1) := by decide +kernel
theorem dX10_keep_70 : decode cX10_keep 70 = .ok (.getfield 178, 3) := by decide +kernel
theorem dX10_keep_73 : decode cX10_keep 73 = .ok (.iconst 1, 1) := by decide +kernel
theorem dX10_keep_74 : decode cX10_keep 74 = .ok (.iadd, 1) := by decide +kernel
theorem dX10_keep_75 : decode cX10_keep 75 = .ok (.putfield 178, 3) := by decide +kernel
theorem dX10_keep_78 : decode cX10_keep 78 = .ok (.iinc 2 1, 3) := by decide +kernel
theorem dX10_keep_81 : decode cX10_keep 81 = .ok (.goto (-45), 3) := by decide +kernel
theorem dX10_keep_84 : decode cX10_keep 84 = .ok (.aload_n 0, 1) := by decide +kernel
theorem dX10_keep_85 : decode cX10_keep 85 = .ok (.iconst 0, 1) := by decide +kernel
theorem dX10_keep_86 : decode cX10_keep 86 = .ok (.invokevirtual 261, 3) := by decide +kernel
theorem dX10_keep_89 : decode cX10_keep 89 = .ok (.istore_n 2, 1) := by decide +kernel
theorem dX10_keep_90 : decode cX10_keep 90 = .ok (.aload_n 0, 1) := by decide +kernel
theorem dX10_keep_91 : decode cX10_keep 91 = .ok (.iload_n 2, 1) := by decide +kernel
theorem dX10_keep_92 : decode cX10_keep 92 = .ok (.iconst (-1), 1) := by decide +kernel
theorem dX10_keep_93 : decode cX10_keep 93 = .ok (.if_icmp .ne 7, 3) := by decide +kernel
theorem dX10_keep_96 : decode cX10_keep 96 = .ok (.iconst 1, 1) := by decide +kernel
theorem dX10_keep_97 : decode cX10_keep 97 = .ok (.goto 4, 3) := by decide +kernel
theorem dX10_keep_100 : decode cX10_keep 100 = .ok (.iconst 0, 1) := by decide +kernel
theorem dX10_keep_101 : decode cX10_keep 101 = .ok (.iconst 1, 1) := by decide +kernel
theorem dX10_keep_102 : decode cX10_keep 102 = .ok (.invokevirtual 264, 3) := by decide +kernel
theorem dX10_keep_105 : decode cX10_keep 105 = .ok (.ifCond .eq 7, 3) := by decide +kernel
theorem dX10_keep_108 : decode cX10_keep 108 = .ok (.iconst 0, 1) := by decide +kernel
theorem dX10_keep_109 : decode cX10_keep 109 = .ok (.goto 4, 3) := by decide +kernel
theorem dX10_keep_112 : decode cX10_keep 112 = .ok (.iload_n 2, 1) := by decide +kernel
theorem dX10_keep_113 : decode cX10_keep 113 = .ok (.ireturn, 1) := by decide +kernel
theorem dX10_noVariable_0 : decode cX10_noVariable 0 = .ok (.aload_n 0, 1) := by decide +kernel
theorem dX10_noVariable_1 : decode cX10_noVariable 1 = .ok (.iload_n 1, 1) := by decide +kernel
theorem dX10_noVariable_2 : decode cX10_noVariable 2 = .ok (.iconst 0, 1) := by decide +kernel
theorem dX10_noVariable_3 : decode cX10_noVariable 3 = .ok (.aload_n 0, 1) := by decide +kernel
theorem dX10_noVariable_4 : decode cX10_noVariable 4 = .ok (.getfield 193, 3) := by decide +kernel
theorem dX10_noVariable_7 : decode cX10_noVariable 7 = .ok (.iconst 1, 1) := by decide +kernel
theorem dX10_noVariable_8 : decode cX10_noVariable 8 = .ok (.isub, 1) := by decide +kernel
theorem dX10_noVariable_9 : decode cX10_noVariable 9 = .ok (.invokestatic 132, 3) := by decide +kernel
theorem dX10_noVariable_12 : decode cX10_noVariable 12 = .ok (.ifCond .ne 7, 3) := by decide +kernel
theorem dX10_noVariable_15 : decode cX10_noVariable 15 = .ok (.iconst 1, 1) := by decide +kernel
theorem dX10_noVariable_16 : decode cX10_noVariable 16 = .ok (.goto 4, 3) := by decide +kernel
theorem dX10_noVariable_19 : decode cX10_noVariable 19 = .ok (.iconst 0, 1) := by decide +kernel
theorem dX10_noVariable_20 : decode cX10_noVariable 20 = .ok (.iconst 1, 1) := by decide +kernel
theorem dX10_noVariable_21 : decode cX10_noVariable 21 = .ok (.invokevirtual 264, 3) := by decide +kernel
theorem dX10_noVariable_24 : decode cX10_noVariable 24 = .ok (.ireturn, 1) := by decide +kernel
theorem dX10_fill_0 : decode cX10_fill 0 = .ok (.aload_n 0, 1) := by decide +kernel
theorem dX10_fill_1 : decode cX10_fill 1 = .ok (.iconst 0, 1) := by decide +kernel
theorem dX10_fill_2 : decode cX10_fill 2 = .ok (.putfield 100, 3) := by decide +kernel
theorem dX10_fill_5 : decode cX10_fill 5 = .ok (.aload_n 0, 1) := by decide +kernel
theorem dX10_fill_6 : decode cX10_fill 6 = .ok (.iload_n 1, 1) := by decide +kernel
theorem dX10_fill_7 : decode cX10_fill 7 = .ok (.invokevirtual 371, 3) := by decide +kernel
theorem dX10_fill_10 : decode cX10_fill 10 = .ok (.ifCond .ne 19, 3) := by decide +kernel
theorem dX10_fill_13 : decode cX10_fill 13 = .ok (.aload_n 0, 1) := by decide +kernel
theorem dX10_fill_14 : decode cX10_fill 14 = .ok (.iload_n 2, 1) := by decide +kernel
theorem dX10_fill_15 : decode cX10_fill 15 = .ok (.invokevirtual 383, 3) := by decide +kernel
theorem dX10_fill_18 : decode cX10_fill 18 = .ok (.ifCond .ne 11, 3) := by decide +kernel
theorem dX10_fill_21 : decode cX10_fill 21 = .ok (.aload_n 0, 1) := by decide +kernel
theorem dX10_fill_22 : decode cX10_fill 22 = .ok (.iload_n 3, 1) := by decide +kernel
theorem dX10_fill_23 : decode cX10_fill 23 = .ok (.invokevirtual 371, 3) := by decide +kernel
theorem dX10_fill_26 : decode cX10_fill 26 = .ok (.ifCond .eq 5, 3) := by decide +kernel
theorem dX10_fill_29 : decode cX10_fill 29 = .ok (.iconst 0, 1) := by decide +kernel
theorem dX10_fill_30 : decode cX10_fill 30 = .ok (.ireturn, 1) := by decide +kernel
theorem dX10_fill_31 : decode cX10_fill 31 = .ok (.aload_n 0, 1) := by decide +kernel
theorem dX10_fill_32 : decode cX10_fill 32 = .ok (.iload_n 1, 1) := by decide +kernel
theorem dX10_fill_33 : decode cX10_fill 33 = .ok (.invokevirtual 374, 3) := by decide +kernel
theorem dX10_fill_36 : decode cX10_fill 36 = .ok (.istore 4, 2) := by decide +kernel
theorem dX10_fill_38 : decode cX10_fill 38 = .ok (.aload_n 0, 1) := by decide +kernel
theorem dX10_fill_39 : decode cX10_fill 39 = .ok (.aload_n 0, 1) := by decide +kernel
theorem dX10_fill_40 : decode cX10_fill 40 = .ok (.iload_n 3, 1) := by decide +kernel
theorem dX10_fill_41 : decode cX10_fill 41 = .ok (.invokevirtual 242, 3) := by decide +kernel
theorem dX10_fill_44 : decode cX10_fill 44 = .ok (.invokevirtual 245, 3) := by decide +kernel
theorem dX10_fill_47 : decode cX10_fill 47 = .ok (.istore 5, 2) := by decide +kernel
theorem dX10_fill_49 : decode cX10_fill 49 = .ok (.aload_n 0, 1) := by decide +kernel
theorem dX10_fill_50 : decode cX10_fill 50 = .ok (.iconst 1, 1) := by decide +kernel
theorem dX10_fill_51 : decode cX10_fill 51 = .ok (.putfield 287, 3) := by decide +kernel
theorem dX10_fill_54 : decode cX10_fill 54 = .ok (.iconst 0, 1) := by decide +kernel
theorem dX10_fill_55 : decode cX10_fill 55 = .ok (.istore 6, 2) := by decide +kernel
theorem dX10_fill_57 : decode cX10_fill 57 = .ok (.iload 6, 2) := by decide +kernel
theorem dX10_fill_59 : decode cX10_fill 59 = .ok (.iconst 5, 1) := by decide +kernel
theorem dX10_fill_60 : decode cX10_fill 60 = .ok (.if_icmp .ge 23, 3) := by decide +kernel
theorem dX10_fill_63 : decode cX10_fill 63 = .ok (.aload_n 0, 1) := by decide +kernel
theorem dX10_fill_64 : decode cX10_fill 64 = .ok (.getfield 73, 3) := by decide +kernel
theorem dX10_fill_67 : decode cX10_fill 67 = .ok (.aload_n 0, 1) := by decide +kernel
theorem dX10_fill_68 : decode cX10_fill 68 = .ok (.iconst 0, 1) := by decide +kernel
theorem dX10_fill_69 : decode cX10_fill 69 = .ok (.iload 6, 2) := by decide +kernel
theorem dX10_fill_71 : decode cX10_fill 71 = .ok (.invokevirtual 284, 3) := by decide +kernel
theorem dX10_fill_74 : decode cX10_fill 74 = .ok (.iload 6, 2) := by decide +kernel
theorem dX10_fill_76 : decode cX10_fill 76 = .ok (.iastore, 1) := by decide +kernel
theorem dX10_fill_77 : decode cX10_fill 77 = .ok (.iinc 6 1, 3) := by decide +kernel
theorem dX10_fill_80 : decode cX10_fill 80 = .ok (.goto (-23), 3) := by decide +kernel
theorem dX10_fill_83 : decode cX10_fill 83 = .ok (.aload_n 0, 1) := by decide +kernel
theorem dX10_fill_84 : decode cX10_fill 84 = .ok (.iload 5, 2) := by decide +kernel
theorem dX10_fill_86 : decode cX10_fill 86 = .ok (.invokevirtual 213, 3) := by decide +kernel
theorem dX10_fill_89 : decode cX10_fill 89 = .ok (.istore 6, 2) := by decide +kernel
theorem dX10_fill_91 : decode cX10_fill 91 = .ok (.iload 5, 2) := by decide +kernel
theorem dX10_fill_93 : decode cX10_fill 93 = .ok (.istore 7, 2) := by decide +kernel
theorem dX10_fill_95 : decode cX10_fill 95 = .ok (.iload 7, 2) := by decide +kernel
theorem dX10_fill_97 : decode cX10_fill 97 = .ok (.iload 6, 2) := by decide +kernel
theorem dX10_fill_99 : decode cX10_fill 99 = .ok (.if_icmp .ge 33, 3) := by decide +kernel
theorem dX10_fill_102 : decode cX10_fill 102 = .ok (.aload_n 0, 1) := by decide +kernel
theorem dX10_fill_103 : decode cX10_fill 103 = .ok (.getfield 73, 3) := by decide +kernel
theorem dX10_fill_106 : decode cX10_fill 106 = .ok (.aload_n 0, 1) := by decide +kernel
theorem dX10_fill_107 : decode cX10_fill 107 = .ok (.iconst 0, 1) := by decide +kernel
theorem dX10_fill_108 : decode cX10_fill 108 = .ok (.iload_n 2, 1) := by decide +kernel
theorem dX10_fill_109 : decode cX10_fill 109 = .ok (.invokevirtual 284, 3) := by decide +kernel
theorem dX10_fill_112 : decode cX10_fill 112 = .ok (.iload 7, 2) := by decide +kernel
theorem dX10_fill_114 : decode cX10_fill 114 = .ok (.iadd, 1) := by decide +kernel
theorem dX10_fill_115 : decode cX10_fill 115 = .ok (.iload 5, 2) := by decide +kernel
theorem dX10_fill_117 : decode cX10_fill 117 = .ok (.isub, 1) := by decide +kernel
theorem dX10_fill_118 : decode cX10_fill 118 = .ok (.aload_n 0, 1) := by decide +kernel
theorem dX10_fill_119 : decode cX10_fill 119 = .ok (.getfield 52, 3) := by decide +kernel
theorem dX10_fill_122 : decode cX10_fill 122 = .ok (.iload 7, 2) := by decide +kernel
theorem dX10_fill_124 : decode cX10_fill 124 = .ok (.iaload, 1) := by decide +kernel
theorem dX10_fill_125 : decode cX10_fill 125 = .ok (.iastore, 1) := by decide +kernel
theorem dX10_fill_126 : decode cX10_fill 126 = .ok (.iinc 7 1, 3) := by decide +kernel
theorem dX10_fill_129 : decode cX10_fill 129 = .ok (.goto (-34), 3) := by decide +kernel
theorem dX10_fill_132 : decode cX10_fill 132 = .ok (.aload_n 0, 1) := by decide +kernel
theorem dX10_fill_133 : decode cX10_fill 133 = .ok (.iload 4, 2) := by decide +kernel
theorem dX10_fill_135 : decode cX10_fill 135 = .ok (.iconst 0, 1) := by decide +kernel
theorem dX10_fill_136 : decode cX10_fill 136 = .ok (.invokevirtual 336, 3) := by decide +kernel
theorem dX10_fill_139 : decode cX10_fill 139 = .ok (.istore 7, 2) := by decide +kernel
theorem dX10_fill_141 : decode cX10_fill 141 = .ok (.aload_n 0, 1) := by decide +kernel
theorem dX10_fill_142 : decode cX10_fill 142 = .ok (.aload_n 0, 1) := by decide +kernel
theorem dX10_fill_143 : decode cX10_fill 143 = .ok (.iload 7, 2) := by decide +kernel
theorem dX10_fill_145 : decode cX10_fill 145 = .ok (.invokevirtual 258, 3) := by decide +kernel
theorem dX10_fill_148 : decode cX10_fill 148 = .ok (.iconst 2, 1) := by decide +kernel
theorem dX10_fill_149 : decode cX10_fill 149 = .ok (.invokevirtual 264, 3) := by decide +kernel
theorem dX10_fill_152 : decode cX10_fill 152 = .ok (.ifCond .eq 7, 3) := by decide +kernel
theorem dX10_fill_155 : decode cX10_fill 155 = .ok (.iconst 0, 1) := by decide +kernel
theorem dX10_fill_156 : decode cX10_fill 156 = .ok (.goto 9, 3) := by decide +kernel
theorem dX10_fill_159 : decode cX10_fill 159 = .ok (.aload_n 0, 1) := by decide +kernel
theorem dX10_fill_160 : decode cX10_fill 160 = .ok (.iload 7, 2) := by decide +kernel
theorem dX10_fill_162 : decode cX10_fill 162 = .ok (.invokevirtual 377, 3) := by decide +kernel
theorem dX10_fill_165 : decode cX10_fill 165 = .ok (.ireturn, 1) := by decide +kernel
theorem dX10_noOperator_0 : decode cX10_noOperator 0 = .ok (.aload_n 0, 1) := by decide +kernel
theorem dX10_noOperator_1 : decode cX10_noOperator 1 = .ok (.iload_n 1, 1) := by decide +kernel
theorem dX10_noOperator_2 : decode cX10_noOperator 2 = .ok (.iconst 0, 1) := by decide +kernel
theorem dX10_noOperator_3 : decode cX10_noOperator 3 = .ok (.aload_n 0, 1) := by decide +kernel
theorem dX10_noOperator_4 : decode cX10_noOperator 4 = .ok (.getfield 190, 3) := by decide +kernel
theorem dX10_noOperator_7 : decode cX10_noOperator 7 = .ok (.iconst 1, 1) := by decide +kernel
theorem dX10_noOperator_8 : decode cX10_noOperator 8 = .ok (.isub, 1) := by decide +kernel
theorem dX10_noOperator_9 : decode cX10_noOperator 9 = .ok (.invokestatic 132, 3) := by decide +kernel
theorem dX10_noOperator_12 : decode cX10_noOperator 12 = .ok (.ifCond .ne 7, 3) := by decide +kernel
theorem dX10_noOperator_15 : decode cX10_noOperator 15 = .ok (.iconst 1, 1) := by decide +kernel
theorem dX10_noOperator_16 : decode cX10_noOperator 16 = .ok (.goto 4, 3) := by decide +kernel
theorem dX10_noOperator_19 : decode cX10_noOperator 19 = .ok (.iconst 0, 1) := by decide +kernel
theorem dX10_noOperator_20 : decode cX10_noOperator 20 = .ok (.iconst 1, 1) := by decide +kernel
theorem dX10_noOperator_21 : decode cX10_noOperator 21 = .ok (.invokevirtual 264, 3) := by decide +kernel
theorem dX10_noOperator_24 : decode cX10_noOperator 24 = .ok (.ireturn, 1) := by decide +kernel
theorem dX10_join_0 : decode cX10_join 0 = .ok (.aload_n 0, 1) := by decide +kernel
theorem dX10_join_1 : decode cX10_join 1 = .ok (.iconst 0, 1) := by decide +kernel
theorem dX10_join_2 : decode cX10_join 2 = .ok (.putfield 100, 3) := by decide +kernel
theorem dX10_join_5 : decode cX10_join 5 = .ok (.aload_n 0, 1) := by decide +kernel
theorem dX10_join_6 : decode cX10_join 6 = .ok (.iload_n 1, 1) := by decide +kernel
theorem dX10_join_7 : decode cX10_join 7 = .ok (.invokevirtual 386, 3) := by decide +kernel
theorem dX10_join_10 : decode cX10_join 10 = .ok (.ifCond .ne 42, 3) := by decide +kernel
theorem dX10_join_13 : decode cX10_join 13 = .ok (.aload_n 0, 1) := by decide +kernel
theorem dX10_join_14 : decode cX10_join 14 = .ok (.iload_n 2, 1) := by decide +kernel
theorem dX10_join_15 : decode cX10_join 15 = .ok (.invokevirtual 371, 3) := by decide +kernel
theorem dX10_join_18 : decode cX10_join 18 = .ok (.ifCond .ne 34, 3) := by decide +kernel
theorem dX10_join_21 : decode cX10_join 21 = .ok (.aload_n 0, 1) := by decide +kernel
theorem dX10_join_22 : decode cX10_join 22 = .ok (.iload_n 3, 1) := by decide +kernel
theorem dX10_join_23 : decode cX10_join 23 = .ok (.invokevirtual 371, 3) := by decide +kernel
theorem dX10_join_26 : decode cX10_join 26 = .ok (.ifCond .ne 26, 3) := by decide +kernel
theorem dX10_join_29 : decode cX10_join 29 = .ok (.aload_n 0, 1) := by decide +kernel
theorem dX10_join_30 : decode cX10_join 30 = .ok (.aload_n 0, 1) := by decide +kernel
theorem dX10_join_31 : decode cX10_join 31 = .ok (.getfield 33, 3) := by decide +kernel
theorem dX10_join_34 : decode cX10_join 34 = .ok (.iload_n 1, 1) := by decide +kernel
theorem dX10_join_35 : decode cX10_join 35 = .ok (.iaload, 1) := by decide +kernel
theorem dX10_join_36 : decode cX10_join 36 = .ok (.iconst 2, 1) := by decide +kernel
theorem dX10_join_37 : decode cX10_join 37 = .ok (.if_icmp .eq 7, 3) := by decide +kernel
theorem dX10_join_40 : decode cX10_join 40 = .ok (.iconst 1, 1) := by decide +kernel
theorem dX10_join_41 : decode cX10_join 41 = .ok (.goto 4, 3) := by decide +kernel
theorem dX10_join_44 : decode cX10_join 44 = .ok (.iconst 0, 1) := by decide +kernel
theorem dX10_join_45 : decode cX10_join 45 = .ok (.iconst 2, 1) := by decide +kernel
theorem dX10_join_46 : decode cX10_join 46 = .ok (.invokevirtual 264, 3) := by decide +kernel
theorem dX10_join_49 : decode cX10_join 49 = .ok (.ifCond .eq 5, 3) := by decide +kernel
theorem dX10_join_52 : decode cX10_join 52 = .ok (.iconst 0, 1) := by decide +kernel
theorem dX10_join_53 : decode cX10_join 53 = .ok (.ireturn, 1) := by decide +kernel
theorem dX10_join_54 : decode cX10_join 54 = .ok (.aload_n 0, 1) := by decide +kernel
theorem dX10_join_55 : decode cX10_join 55 = .ok (.iload_n 2, 1) := by decide +kernel
theorem dX10_join_56 : decode cX10_join 56 = .ok (.invokevirtual 374, 3) := by decide +kernel
theorem dX10_join_59 : decode cX10_join 59 = .ok (.istore 4, 2) := by decide +kernel
theorem dX10_join_61 : decode cX10_join 61 = .ok (.aload_n 0, 1) := by decide +kernel
theorem dX10_join_62 : decode cX10_join 62 = .ok (.aload_n 0, 1) := by decide +kernel
theorem dX10_join_63 : decode cX10_join 63 = .ok (.iload_n 3, 1) := by decide +kernel
theorem dX10_join_64 : decode cX10_join 64 = .ok (.invokevirtual 242, 3) := by decide +kernel
theorem dX10_join_67 : decode cX10_join 67 = .ok (.invokevirtual 245, 3) := by decide +kernel
theorem dX10_join_70 : decode cX10_join 70 = .ok (.istore 5, 2) := by decide +kernel
theorem dX10_join_72 : decode cX10_join 72 = .ok (.aload_n 0, 1) := by decide +kernel
theorem dX10_join_73 : decode cX10_join 73 = .ok (.iload_n 1, 1) := by decide +kernel
theorem dX10_join_74 : decode cX10_join 74 = .ok (.iload 4, 2) := by decide +kernel
theorem dX10_join_76 : decode cX10_join 76 = .ok (.invokevirtual 239, 3) := by decide +kernel
theorem dX10_join_79 : decode cX10_join 79 = .ok (.istore 6, 2) := by decide +kernel
theorem dX10_join_81 : decode cX10_join 81 = .ok (.aload_n 0, 1) := by decide +kernel
theorem dX10_join_82 : decode cX10_join 82 = .ok (.aload_n 0, 1) := by decide +kernel
theorem dX10_join_83 : decode cX10_join 83 = .ok (.iload 6, 2) := by decide +kernel
theorem dX10_join_85 : decode cX10_join 85 = .ok (.invokevirtual 258, 3) := by decide +kernel
theorem dX10_join_88 : decode cX10_join 88 = .ok (.iconst 3, 1) := by decide +kernel
theorem dX10_join_89 : decode cX10_join 89 = .ok (.invokevirtual 264, 3) := by decide +kernel
theorem dX10_join_92 : decode cX10_join 92 = .ok (.ifCond .eq 7, 3) := by decide +kernel
theorem dX10_join_95 : decode cX10_join 95 = .ok (.iconst 0, 1) := by decide +kernel
theorem dX10_join_96 : decode cX10_join 96 = .ok (.goto 9, 3) := by decide +kernel
theorem dX10_join_99 : decode cX10_join 99 = .ok (.aload_n 0, 1) := by decide +kernel
theorem dX10_join_100 : decode cX10_join 100 = .ok (.iload 6, 2) := by decide +kernel
theorem dX10_join_102 : decode cX10_join 102 = .ok (.invokevirtual 377, 3) := by decide +kernel
theorem dX10_join_105 : decode cX10_join 105 = .ok (.ireturn, 1) := by decide +kernel
