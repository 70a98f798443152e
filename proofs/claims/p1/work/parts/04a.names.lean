theorem dX10_init_0 : decode cX10_init 0 = .ok (.aload_n 0, 1) := by decide +kernel
theorem dX10_init_1 : decode cX10_init 1 = .ok (.invokespecial 3, 3) := by decide +kernel
theorem dX10_init_4 : decode cX10_init 4 = .ok (.aload_n 0, 1) := by decide +kernel
theorem dX10_init_5 : decode cX10_init 5 = .ok (.sipush 400, 3) := by decide +kernel
theorem dX10_init_8 : decode cX10_init 8 = .ok (.newarray .byte, 2) := by decide +kernel
theorem dX10_init_10 : decode cX10_init 10 = .ok (.putfield 9, 3) := by decide +kernel
theorem dX10_init_13 : decode cX10_init 13 = .ok (.aload_n 0, 1) := by decide +kernel
theorem dX10_init_14 : decode cX10_init 14 = .ok (.iconst 5, 1) := by decide +kernel
theorem dX10_init_15 : decode cX10_init 15 = .ok (.newarray .int, 2) := by decide +kernel
theorem dX10_init_17 : decode cX10_init 17 = .ok (.putfield 13, 3) := by decide +kernel
theorem dX10_init_20 : decode cX10_init 20 = .ok (.aload_n 0, 1) := by decide +kernel
theorem dX10_init_21 : decode cX10_init 21 = .ok (.iconst (-1), 1) := by decide +kernel
theorem dX10_init_22 : decode cX10_init 22 = .ok (.putfield 17, 3) := by decide +kernel
theorem dX10_init_25 : decode cX10_init 25 = .ok (.aload_n 0, 1) := by decide +kernel
theorem dX10_init_26 : decode cX10_init 26 = .ok (.bipush 90, 2) := by decide +kernel
theorem dX10_init_28 : decode cX10_init 28 = .ok (.newarray .byte, 2) := by decide +kernel
theorem dX10_init_30 : decode cX10_init 30 = .ok (.putfield 21, 3) := by decide +kernel
theorem dX10_init_33 : decode cX10_init 33 = .ok (.aload_n 0, 1) := by decide +kernel
theorem dX10_init_34 : decode cX10_init 34 = .ok (.bipush 90, 2) := by decide +kernel
theorem dX10_init_36 : decode cX10_init 36 = .ok (.newarray .byte, 2) := by decide +kernel
theorem dX10_init_38 : decode cX10_init 38 = .ok (.putfield 24, 3) := by decide +kernel
theorem dX10_init_41 : decode cX10_init 41 = .ok (.aload_n 0, 1) := by decide +kernel
theorem dX10_init_42 : decode cX10_init 42 = .ok (.bipush 15, 2) := by decide +kernel
theorem dX10_init_44 : decode cX10_init 44 = .ok (.newarray .int, 2) := by decide +kernel
theorem dX10_init_46 : decode cX10_init 46 = .ok (.putfield 27, 3) := by decide +kernel
theorem dX10_init_49 : decode cX10_init 49 = .ok (.aload_n 0, 1) := by decide +kernel
theorem dX10_init_50 : decode cX10_init 50 = .ok (.bipush 15, 2) := by decide +kernel
theorem dX10_init_52 : decode cX10_init 52 = .ok (.newarray .int, 2) := by decide +kernel
theorem dX10_init_54 : decode cX10_init 54 = .ok (.putfield 30, 3) := by decide +kernel
theorem dX10_init_57 : decode cX10_init 57 = .ok (.aload_n 0, 1) := by decide +kernel
theorem dX10_init_58 : decode cX10_init 58 = .ok (.bipush 10, 2) := by decide +kernel
theorem dX10_init_60 : decode cX10_init 60 = .ok (.newarray .int, 2) := by decide +kernel
theorem dX10_init_62 : decode cX10_init 62 = .ok (.putfield 33, 3) := by decide +kernel
theorem dX10_init_65 : decode cX10_init 65 = .ok (.aload_n 0, 1) := by decide +kernel
theorem dX10_init_66 : decode cX10_init 66 = .ok (.bipush 10, 2) := by decide +kernel
theorem dX10_init_68 : decode cX10_init 68 = .ok (.newarray .int, 2) := by decide +kernel
theorem dX10_init_70 : decode cX10_init 70 = .ok (.putfield 36, 3) := by decide +kernel
theorem dX10_init_73 : decode cX10_init 73 = .ok (.aload_n 0, 1) := by decide +kernel
theorem dX10_init_74 : decode cX10_init 74 = .ok (.bipush 10, 2) := by decide +kernel
theorem dX10_init_76 : decode cX10_init 76 = .ok (.newarray .int, 2) := by decide +kernel
theorem dX10_init_78 : decode cX10_init 78 = .ok (.putfield 39, 3) := by decide +kernel
theorem dX10_init_81 : decode cX10_init 81 = .ok (.aload_n 0, 1) := by decide +kernel
theorem dX10_init_82 : decode cX10_init 82 = .ok (.bipush 10, 2) := by decide +kernel
theorem dX10_init_84 : decode cX10_init 84 = .ok (.newarray .int, 2) := by decide +kernel
theorem dX10_init_86 : decode cX10_init 86 = .ok (.putfield 42, 3) := by decide +kernel
theorem dX10_init_89 : decode cX10_init 89 = .ok (.aload_n 0, 1) := by decide +kernel
theorem dX10_init_90 : decode cX10_init 90 = .ok (.bipush 10, 2) := by decide +kernel
theorem dX10_init_92 : decode cX10_init 92 = .ok (.newarray .int, 2) := by decide +kernel
theorem dX10_init_94 : decode cX10_init 94 = .ok (.putfield 45, 3) := by decide +kernel
theorem dX10_init_97 : decode cX10_init 97 = .ok (.aload_n 0, 1) := by decide +kernel
theorem dX10_init_98 : decode cX10_init 98 = .ok (.bipush 10, 2) := by decide +kernel
theorem dX10_init_100 : decode cX10_init 100 = .ok (.newarray .int, 2) := by decide +kernel
theorem dX10_init_102 : decode cX10_init 102 = .ok (.putfield 48, 3) := by decide +kernel
theorem dX10_init_105 : decode cX10_init 105 = .ok (.aload_n 0, 1) := by decide +kernel
theorem dX10_init_106 : decode cX10_init 106 = .ok (.ldc 51, 2) := by decide +kernel
theorem dX10_init_108 : decode cX10_init 108 = .ok (.newarray .int, 2) := by decide +kernel
theorem dX10_init_110 : decode cX10_init 110 = .ok (.putfield 52, 3) := by decide +kernel
theorem dX10_init_113 : decode cX10_init 113 = .ok (.aload_n 0, 1) := by decide +kernel
theorem dX10_init_114 : decode cX10_init 114 = .ok (.sipush 512, 3) := by decide +kernel
theorem dX10_init_117 : decode cX10_init 117 = .ok (.newarray .int, 2) := by decide +kernel
theorem dX10_init_119 : decode cX10_init 119 = .ok (.putfield 55, 3) := by decide +kernel
theorem dX10_init_122 : decode cX10_init 122 = .ok (.aload_n 0, 1) := by decide +kernel
theorem dX10_init_123 : decode cX10_init 123 = .ok (.sipush 966, 3) := by decide +kernel
theorem dX10_init_126 : decode cX10_init 126 = .ok (.newarray .int, 2) := by decide +kernel
theorem dX10_init_128 : decode cX10_init 128 = .ok (.putfield 58, 3) := by decide +kernel
theorem dX10_init_131 : decode cX10_init 131 = .ok (.aload_n 0, 1) := by decide +kernel
theorem dX10_init_132 : decode cX10_init 132 = .ok (.sipush 512, 3) := by decide +kernel
theorem dX10_init_135 : decode cX10_init 135 = .ok (.newarray .int, 2) := by decide +kernel
theorem dX10_init_137 : decode cX10_init 137 = .ok (.putfield 61, 3) := by decide +kernel
theorem dX10_init_140 : decode cX10_init 140 = .ok (.aload_n 0, 1) := by decide +kernel
theorem dX10_init_141 : decode cX10_init 141 = .ok (.sipush 512, 3) := by decide +kernel
theorem dX10_init_144 : decode cX10_init 144 = .ok (.newarray .int, 2) := by decide +kernel
theorem dX10_init_146 : decode cX10_init 146 = .ok (.putfield 64, 3) := by decide +kernel
theorem dX10_init_149 : decode cX10_init 149 = .ok (.aload_n 0, 1) := by decide +kernel
theorem dX10_init_150 : decode cX10_init 150 = .ok (.iconst 5, 1) := by decide +kernel
theorem dX10_init_151 : decode cX10_init 151 = .ok (.newarray .int, 2) := by decide +kernel
theorem dX10_init_153 : decode cX10_init 153 = .ok (.putfield 67, 3) := by decide +kernel
theorem dX10_init_156 : decode cX10_init 156 = .ok (.aload_n 0, 1) := by decide +kernel
theorem dX10_init_157 : decode cX10_init 157 = .ok (.sipush 4096, 3) := by decide +kernel
theorem dX10_init_160 : decode cX10_init 160 = .ok (.newarray .int, 2) := by decide +kernel
theorem dX10_init_162 : decode cX10_init 162 = .ok (.putfield 70, 3) := by decide +kernel
theorem dX10_init_165 : decode cX10_init 165 = .ok (.aload_n 0, 1) := by decide +kernel
theorem dX10_init_166 : decode cX10_init 166 = .ok (.sipush 31710, 3) := by decide +kernel
theorem dX10_init_169 : decode cX10_init 169 = .ok (.newarray .int, 2) := by decide +kernel
theorem dX10_init_171 : decode cX10_init 171 = .ok (.putfield 73, 3) := by decide +kernel
theorem dX10_init_174 : decode cX10_init 174 = .ok (.aload_n 0, 1) := by decide +kernel
theorem dX10_init_175 : decode cX10_init 175 = .ok (.sipush 201, 3) := by decide +kernel
theorem dX10_init_178 : decode cX10_init 178 = .ok (.newarray .int, 2) := by decide +kernel
theorem dX10_init_180 : decode cX10_init 180 = .ok (.putfield 76, 3) := by decide +kernel
theorem dX10_init_183 : decode cX10_init 183 = .ok (.aload_n 0, 1) := by decide +kernel
theorem dX10_init_184 : decode cX10_init 184 = .ok (.sipush 201, 3) := by decide +kernel
theorem dX10_init_187 : decode cX10_init 187 = .ok (.newarray .int, 2) := by decide +kernel
theorem dX10_init_189 : decode cX10_init 189 = .ok (.putfield 79, 3) := by decide +kernel
theorem dX10_init_192 : decode cX10_init 192 = .ok (.aload_n 0, 1) := by decide +kernel
theorem dX10_init_193 : decode cX10_init 193 = .ok (.sipush 4221, 3) := by decide +kernel
theorem dX10_init_196 : decode cX10_init 196 = .ok (.newarray .int, 2) := by decide +kernel
theorem dX10_init_198 : decode cX10_init 198 = .ok (.putfield 82, 3) := by decide +kernel
theorem dX10_init_201 : decode cX10_init 201 = .ok (.aload_n 0, 1) := by decide +kernel
theorem dX10_init_202 : decode cX10_init 202 = .ok (.bipush 21, 2) := by decide +kernel
theorem dX10_init_204 : decode cX10_init 204 = .ok (.newarray .int, 2) := by decide +kernel
theorem dX10_init_206 : decode cX10_init 206 = .ok (.putfield 85, 3) := by decide +kernel
theorem dX10_init_209 : decode cX10_init 209 = .ok (.aload_n 0, 1) := by decide +kernel
theorem dX10_init_210 : decode cX10_init 210 = .ok (.sipush 336, 3) := by decide +kernel
theorem dX10_init_213 : decode cX10_init 213 = .ok (.newarray .byte, 2) := by decide +kernel
theorem dX10_init_215 : decode cX10_init 215 = .ok (.putfield 88, 3) := by decide +kernel
theorem dX10_init_218 : decode cX10_init 218 = .ok (.aload_n 0, 1) := by decide +kernel
theorem dX10_init_219 : decode cX10_init 219 = .ok (.sipush 2142, 3) := by decide +kernel
theorem dX10_init_222 : decode cX10_init 222 = .ok (.newarray .int, 2) := by decide +kernel
theorem dX10_init_224 : decode cX10_init 224 = .ok (.putfield 91, 3) := by decide +kernel
theorem dX10_init_227 : decode cX10_init 227 = .ok (.aload_n 0, 1) := by decide +kernel
theorem dX10_init_228 : decode cX10_init 228 = .ok (.iconst 2, 1) := by decide +kernel
theorem dX10_init_229 : decode cX10_init 229 = .ok (.newarray .int, 2) := by decide +kernel
theorem dX10_init_231 : decode cX10_init 231 = .ok (.putfield 94, 3) := by decide +kernel
theorem dX10_init_234 : decode cX10_init 234 = .ok (.aload_n 0, 1) := by decide +kernel
theorem dX10_init_235 : decode cX10_init 235 = .ok (.iconst 2, 1) := by decide +kernel
theorem dX10_init_236 : decode cX10_init 236 = .ok (.newarray .int, 2) := by decide +kernel
theorem dX10_init_238 : decode cX10_init 238 = .ok (.putfield 97, 3) := by decide +kernel
theorem dX10_init_241 : decode cX10_init 241 = .ok (.return_, 1) := by decide +kernel
theorem dX10_thrown_0 : decode cX10_thrown 0 = .ok (.aload_n 0, 1) := by decide +kernel
theorem dX10_thrown_1 : decode cX10_thrown 1 = .ok (.getfield 100, 3) := by decide +kernel
theorem dX10_thrown_4 : decode cX10_thrown 4 = .ok (.ireturn, 1) := by decide +kernel
theorem dX10_throwsIf_0 : decode cX10_throwsIf 0 = .ok (.iload_n 1, 1) := by decide +kernel
theorem dX10_throwsIf_1 : decode cX10_throwsIf 1 = .ok (.ifCond .eq 8, 3) := by decide +kernel
theorem dX10_throwsIf_4 : decode cX10_throwsIf 4 = .ok (.aload_n 0, 1) := by decide +kernel
theorem dX10_throwsIf_5 : decode cX10_throwsIf 5 = .ok (.iload_n 2, 1) := by decide +kernel
theorem dX10_throwsIf_6 : decode cX10_throwsIf 6 = .ok (.putfield 100, 3) := by decide +kernel
theorem dX10_throwsIf_9 : decode cX10_throwsIf 9 = .ok (.iload_n 1, 1) := by decide +kernel
theorem dX10_throwsIf_10 : decode cX10_throwsIf 10 = .ok (.ireturn, 1) := by decide +kernel
theorem dX10_in_0 : decode cX10_in 0 = .ok (.iload_n 0, 1) := by decide +kernel
theorem dX10_in_1 : decode cX10_in 1 = .ok (.iload_n 1, 1) := by decide +kernel
theorem dX10_in_2 : decode cX10_in 2 = .ok (.if_icmp .lt 12, 3) := by decide +kernel
theorem dX10_in_5 : decode cX10_in 5 = .ok (.iload_n 0, 1) := by decide +kernel
theorem dX10_in_6 : decode cX10_in 6 = .ok (.iload_n 2, 1) := by decide +kernel
theorem dX10_in_7 : decode cX10_in 7 = .ok (.if_icmp .gt 7, 3) := by decide +kernel
theorem dX10_in_10 : decode cX10_in 10 = .ok (.iconst 1, 1) := by decide +kernel
theorem dX10_in_11 : decode cX10_in 11 = .ok (.goto 4, 3) := by decide +kernel
theorem dX10_in_14 : decode cX10_in 14 = .ok (.iconst 0, 1) := by decide +kernel
theorem dX10_in_15 : decode cX10_in 15 = .ok (.ireturn, 1) := by decide +kernel
theorem dX10_holds_0 : decode cX10_holds 0 = .ok (.iload_n 0, 1) := by decide +kernel
theorem dX10_holds_1 : decode cX10_holds 1 = .ok (.iload_n 1, 1) := by decide +kernel
theorem dX10_holds_2 : decode cX10_holds 2 = .ok (.ishr, 1) := by decide +kernel
theorem dX10_holds_3 : decode cX10_holds 3 = .ok (.iconst 1, 1) := by decide +kernel
theorem dX10_holds_4 : decode cX10_holds 4 = .ok (.iand, 1) := by decide +kernel
theorem dX10_holds_5 : decode cX10_holds 5 = .ok (.iconst 1, 1) := by decide +kernel
theorem dX10_holds_6 : decode cX10_holds 6 = .ok (.if_icmp .ne 7, 3) := by decide +kernel
theorem dX10_holds_9 : decode cX10_holds 9 = .ok (.iconst 1, 1) := by decide +kernel
theorem dX10_holds_10 : decode cX10_holds 10 = .ok (.goto 4, 3) := by decide +kernel
theorem dX10_holds_13 : decode cX10_holds 13 = .ok (.iconst 0, 1) := by decide +kernel
theorem dX10_holds_14 : decode cX10_holds 14 = .ok (.ireturn, 1) := by decide +kernel
theorem dX10_feed_0 : decode cX10_feed 0 = .ok (.aload_n 0, 1) := by decide +kernel
theorem dX10_feed_1 : decode cX10_feed 1 = .ok (.iconst 0, 1) := by decide +kernel
theorem dX10_feed_2 : decode cX10_feed 2 = .ok (.putfield 100, 3) := by decide +kernel
theorem dX10_feed_5 : decode cX10_feed 5 = .ok (.aload_n 0, 1) := by decide +kernel
theorem dX10_feed_6 : decode cX10_feed 6 = .ok (.getfield 103, 3) := by decide +kernel
theorem dX10_feed_9 : decode cX10_feed 9 = .ok (.bipush 20, 2) := by decide +kernel
theorem dX10_feed_11 : decode cX10_feed 11 = .ok (.iadd, 1) := by decide +kernel
theorem dX10_feed_12 : decode cX10_feed 12 = .ok (.sipush 400, 3) := by decide +kernel
theorem dX10_feed_15 : decode cX10_feed 15 = .ok (.if_icmp .le 5, 3) := by decide +kernel
theorem dX10_feed_18 : decode cX10_feed 18 = .ok (.iconst (-1), 1) := by decide +kernel
theorem dX10_feed_19 : decode cX10_feed 19 = .ok (.ireturn, 1) := by decide +kernel
theorem dX10_feed_20 : decode cX10_feed 20 = .ok (.aload_n 0, 1) := by decide +kernel
theorem dX10_feed_21 : decode cX10_feed 21 = .ok (.getfield 13, 3) := by decide +kernel
theorem dX10_feed_24 : decode cX10_feed 24 = .ok (.iconst 0, 1) := by decide +kernel
theorem dX10_feed_25 : decode cX10_feed 25 = .ok (.iload_n 1, 1) := by decide +kernel
theorem dX10_feed_26 : decode cX10_feed 26 = .ok (.iastore, 1) := by decide +kernel
theorem dX10_feed_27 : decode cX10_feed 27 = .ok (.aload_n 0, 1) := by decide +kernel
theorem dX10_feed_28 : decode cX10_feed 28 = .ok (.getfield 13, 3) := by decide +kernel
theorem dX10_feed_31 : decode cX10_feed 31 = .ok (.iconst 1, 1) := by decide +kernel
theorem dX10_feed_32 : decode cX10_feed 32 = .ok (.iload_n 2, 1) := by decide +kernel
theorem dX10_feed_33 : decode cX10_feed 33 = .ok (.iastore, 1) := by decide +kernel
theorem dX10_feed_34 : decode cX10_feed 34 = .ok (.aload_n 0, 1) := by decide +kernel
theorem dX10_feed_35 : decode cX10_feed 35 = .ok (.getfield 13, 3) := by decide +kernel
theorem dX10_feed_38 : decode cX10_feed 38 = .ok (.iconst 2, 1) := by decide +kernel
theorem dX10_feed_39 : decode cX10_feed 39 = .ok (.iload_n 3, 1) := by decide +kernel
theorem dX10_feed_40 : decode cX10_feed 40 = .ok (.iastore, 1) := by decide +kernel
theorem dX10_feed_41 : decode cX10_feed 41 = .ok (.aload_n 0, 1) := by decide +kernel
theorem dX10_feed_42 : decode cX10_feed 42 = .ok (.getfield 13, 3) := by decide +kernel
theorem dX10_feed_45 : decode cX10_feed 45 = .ok (.iconst 3, 1) := by decide +kernel
theorem dX10_feed_46 : decode cX10_feed 46 = .ok (.iload 4, 2) := by decide +kernel
theorem dX10_feed_48 : decode cX10_feed 48 = .ok (.iastore, 1) := by decide +kernel
theorem dX10_feed_49 : decode cX10_feed 49 = .ok (.aload_n 0, 1) := by decide +kernel
theorem dX10_feed_50 : decode cX10_feed 50 = .ok (.getfield 13, 3) := by decide +kernel
theorem dX10_feed_53 : decode cX10_feed 53 = .ok (.iconst 4, 1) := by decide +kernel
theorem dX10_feed_54 : decode cX10_feed 54 = .ok (.iload 5, 2) := by decide +kernel
theorem dX10_feed_56 : decode cX10_feed 56 = .ok (.iastore, 1) := by decide +kernel
theorem dX10_feed_57 : decode cX10_feed 57 = .ok (.iconst 0, 1) := by decide +kernel
theorem dX10_feed_58 : decode cX10_feed 58 = .ok (.istore 6, 2) := by decide +kernel
theorem dX10_feed_60 : decode cX10_feed 60 = .ok (.iload 6, 2) := by decide +kernel
theorem dX10_feed_62 : decode cX10_feed 62 = .ok (.bipush 20, 2) := by decide +kernel
theorem dX10_feed_64 : decode cX10_feed 64 = .ok (.if_icmp .ge 42, 3) := by decide +kernel
theorem dX10_feed_67 : decode cX10_feed 67 = .ok (.aload_n 0, 1) := by decide +kernel
theorem dX10_feed_68 : decode cX10_feed 68 = .ok (.getfield 9, 3) := by decide +kernel
theorem dX10_feed_71 : decode cX10_feed 71 = .ok (.aload_n 0, 1) := by decide +kernel
theorem dX10_feed_72 : decode cX10_feed 72 = .ok (.getfield 103, 3) := by decide +kernel
theorem dX10_feed_75 : decode cX10_feed 75 = .ok (.iload 6, 2) := by decide +kernel
theorem dX10_feed_77 : decode cX10_feed 77 = .ok (.iadd, 1) := by decide +kernel
theorem dX10_feed_78 : decode cX10_feed 78 = .ok (.aload_n 0, 1) := by decide +kernel
theorem dX10_feed_79 : decode cX10_feed 79 = .ok (.getfield 13, 3) := by decide +kernel
theorem dX10_feed_82 : decode cX10_feed 82 = .ok (.iload 6, 2) := by decide +kernel
theorem dX10_feed_84 : decode cX10_feed 84 = .ok (.iconst 4, 1) := by decide +kernel
theorem dX10_feed_85 : decode cX10_feed 85 = .ok (.idiv, 1) := by decide +kernel
theorem dX10_feed_86 : decode cX10_feed 86 = .ok (.iaload, 1) := by decide +kernel
theorem dX10_feed_87 : decode cX10_feed 87 = .ok (.bipush 24, 2) := by decide +kernel
theorem dX10_feed_89 : decode cX10_feed 89 = .ok (.bipush 8, 2) := by decide +kernel
theorem dX10_feed_91 : decode cX10_feed 91 = .ok (.iload 6, 2) := by decide +kernel
theorem dX10_feed_93 : decode cX10_feed 93 = .ok (.iconst 4, 1) := by decide +kernel
theorem dX10_feed_94 : decode cX10_feed 94 = .ok (.irem, 1) := by decide +kernel
theorem dX10_feed_95 : decode cX10_feed 95 = .ok (.imul, 1) := by decide +kernel
theorem dX10_feed_96 : decode cX10_feed 96 = .ok (.isub, 1) := by decide +kernel
theorem dX10_feed_97 : decode cX10_feed 97 = .ok (.ishr, 1) := by decide +kernel
theorem dX10_feed_98 : decode cX10_feed 98 = .ok (.i2b, 1) := by decide +kernel
theorem dX10_feed_99 : decode cX10_feed 99 = .ok (.bastore, 1) := by decide +kernel
theorem dX10_feed_100 : decode cX10_feed 100 = .ok (.iinc 6 1, 3) := by decide +kernel
theorem dX10_feed_103 : decode cX10_feed 103 = .ok (.goto (-43), 3) := by decide +kernel
theorem dX10_feed_106 : decode cX10_feed 106 = .ok (.aload_n 0, 1) := by decide +kernel
theorem dX10_feed_107 : decode cX10_feed 107 = .ok (.dup, 1) := by decide +kernel
theorem dX10_feed_108 : decode cX10_feed 108 = .ok (.getfield 103, 3) := by decide +kernel
theorem dX10_feed_111 : decode cX10_feed 111 = .ok (.bipush 20, 2) := by decide +kernel
theorem dX10_feed_113 : decode cX10_feed 113 = .ok (.iadd, 1) := by decide +kernel
theorem dX10_feed_114 : decode cX10_feed 114 = .ok (.putfield 103, 3) := by decide +kernel
theorem dX10_feed_117 : decode cX10_feed 117 = .ok (.aload_n 0, 1) := by decide +kernel
theorem dX10_feed_118 : decode cX10_feed 118 = .ok (.getfield 103, 3) := by decide +kernel
theorem dX10_feed_121 : decode cX10_feed 121 = .ok (.ireturn, 1) := by decide +kernel
theorem dX10_end_0 : decode cX10_end 0 = .ok (.aload_n 0, 1) := by decide +kernel
theorem dX10_end_1 : decode cX10_end 1 = .ok (.iconst 0, 1) := by decide +kernel
theorem dX10_end_2 : decode cX10_end 2 = .ok (.putfield 100, 3) := by decide +kernel
theorem dX10_end_5 : decode cX10_end 5 = .ok (.iload_n 1, 1) := by decide +kernel
theorem dX10_end_6 : decode cX10_end 6 = .ok (.ifCond .lt 11, 3) := by decide +kernel
theorem dX10_end_9 : decode cX10_end 9 = .ok (.iload_n 1, 1) := by decide +kernel
theorem dX10_end_10 : decode cX10_end 10 = .ok (.aload_n 0, 1) := by decide +kernel
theorem dX10_end_11 : decode cX10_end 11 = .ok (.getfield 103, 3) := by decide +kernel
theorem dX10_end_14 : decode cX10_end 14 = .ok (.if_icmp .le 5, 3) := by decide +kernel
theorem dX10_end_17 : decode cX10_end 17 = .ok (.iconst 0, 1) := by decide +kernel
theorem dX10_end_18 : decode cX10_end 18 = .ok (.ireturn, 1) := by decide +kernel
theorem dX10_end_19 : decode cX10_end 19 = .ok (.aload_n 0, 1) := by decide +kernel
theorem dX10_end_20 : decode cX10_end 20 = .ok (.iload_n 1, 1) := by decide +kernel
theorem dX10_end_21 : decode cX10_end 21 = .ok (.putfield 103, 3) := by decide +kernel
theorem dX10_end_24 : decode cX10_end 24 = .ok (.iconst 1, 1) := by decide +kernel
theorem dX10_end_25 : decode cX10_end 25 = .ok (.ireturn, 1) := by decide +kernel
theorem dX10_isAt_0 : decode cX10_isAt 0 = .ok (.aload_n 0, 1) := by decide +kernel
theorem dX10_isAt_1 : decode cX10_isAt 1 = .ok (.getfield 106, 3) := by decide +kernel
theorem dX10_isAt_4 : decode cX10_isAt 4 = .ok (.aload_n 0, 1) := by decide +kernel
theorem dX10_isAt_5 : decode cX10_isAt 5 = .ok (.getfield 109, 3) := by decide +kernel
theorem dX10_isAt_8 : decode cX10_isAt 8 = .ok (.if_icmp .ge 33, 3) := by decide +kernel
theorem dX10_isAt_11 : decode cX10_isAt 11 = .ok (.aload_n 0, 1) := by decide +kernel
theorem dX10_isAt_12 : decode cX10_isAt 12 = .ok (.getfield 9, 3) := by decide +kernel
theorem dX10_isAt_15 : decode cX10_isAt 15 = .ok (.aload_n 0, 1) := by decide +kernel
theorem dX10_isAt_16 : decode cX10_isAt 16 = .ok (.getfield 106, 3) := by decide +kernel
theorem dX10_isAt_19 : decode cX10_isAt 19 = .ok (.baload, 1) := by decide +kernel
theorem dX10_isAt_20 : decode cX10_isAt 20 = .ok (.iload_n 1, 1) := by decide +kernel
theorem dX10_isAt_21 : decode cX10_isAt 21 = .ok (.if_icmp .lt 20, 3) := by decide +kernel
theorem dX10_isAt_24 : decode cX10_isAt 24 = .ok (.aload_n 0, 1) := by decide +kernel
theorem dX10_isAt_25 : decode cX10_isAt 25 = .ok (.getfield 9, 3) := by decide +kernel
theorem dX10_isAt_28 : decode cX10_isAt 28 = .ok (.aload_n 0, 1) := by decide +kernel
theorem dX10_isAt_29 : decode cX10_isAt 29 = .ok (.getfield 106, 3) := by decide +kernel
theorem dX10_isAt_32 : decode cX10_isAt 32 = .ok (.baload, 1) := by decide +kernel
theorem dX10_isAt_33 : decode cX10_isAt 33 = .ok (.iload_n 2, 1) := by decide +kernel
theorem dX10_isAt_34 : decode cX10_isAt 34 = .ok (.if_icmp .gt 7, 3) := by decide +kernel
theorem dX10_isAt_37 : decode cX10_isAt 37 = .ok (.iconst 1, 1) := by decide +kernel
theorem dX10_isAt_38 : decode cX10_isAt 38 = .ok (.goto 4, 3) := by decide +kernel
theorem dX10_isAt_41 : decode cX10_isAt 41 = .ok (.iconst 0, 1) := by decide +kernel
theorem dX10_isAt_42 : decode cX10_isAt 42 = .ok (.ireturn, 1) := by decide +kernel
set_option maxRecDepth 20000 in
theorem ggX10_blanks_X10_isAt : GoodIn wsX10_blanks wsX10_isAt := goodIn_r _ [7, 1, 8, 9, 10, 11, 12, 13, 14, 15, 16, 17, 18, 19, 20, 21, 22, 23, 24, 25, 26, 27, 28, 29, 30, 31, 32, 33, 34, 35, 36, 37, 38, 39, 40, 41, 42, 43, 44, 45, 46, 47, 48, 49, 50, 51, 52, 53, 54, 55, 56, 57, 58, 59] rfl (by decide +kernel)
set_option maxRecDepth 20000 in
theorem gX10_blanks_X10_isAt : GoodIn wsX10_blanks (wsV RX10 112 RX10 yX10_isAt wsX10_isAt) := goodIn_app (goodIn_of _ (by decide +kernel)) ggX10_blanks_X10_isAt
theorem dX10_blanks_0 : decode cX10_blanks 0 = .ok (.aload_n 0, 1) := by decide +kernel
theorem dX10_blanks_1 : decode cX10_blanks 1 = .ok (.bipush 9, 2) := by decide +kernel
theorem dX10_blanks_3 : decode cX10_blanks 3 = .ok (.bipush 10, 2) := by decide +kernel
theorem dX10_blanks_5 : decode cX10_blanks 5 = .ok (.invokevirtual 112, 3) := by decide +kernel
theorem dX10_blanks_8 : decode cX10_blanks 8 = .ok (.ifCond .ne 14, 3) := by decide +kernel
theorem dX10_blanks_11 : decode cX10_blanks 11 = .ok (.aload_n 0, 1) := by decide +kernel
theorem dX10_blanks_12 : decode cX10_blanks 12 = .ok (.bipush 32, 2) := by decide +kernel
theorem dX10_blanks_14 : decode cX10_blanks 14 = .ok (.bipush 32, 2) := by decide +kernel
theorem dX10_blanks_16 : decode cX10_blanks 16 = .ok (.invokevirtual 112, 3) := by decide +kernel
theorem dX10_blanks_19 : decode cX10_blanks 19 = .ok (.ifCond .eq 16, 3) := by decide +kernel
theorem dX10_blanks_22 : decode cX10_blanks 22 = .ok (.aload_n 0, 1) := by decide +kernel
theorem dX10_blanks_23 : decode cX10_blanks 23 = .ok (.dup, 1) := by decide +kernel
theorem dX10_blanks_24 : decode cX10_blanks 24 = .ok (.getfield 106, 3) := by decide +kernel
theorem dX10_blanks_27 : decode cX10_blanks 27 = .ok (.iconst 1, 1) := by decide +kernel
theorem dX10_blanks_28 : decode cX10_blanks 28 = .ok (.iadd, 1) := by decide +kernel
theorem dX10_blanks_29 : decode cX10_blanks 29 = .ok (.putfield 106, 3) := by decide +kernel
theorem dX10_blanks_32 : decode cX10_blanks 32 = .ok (.goto (-32), 3) := by decide +kernel
theorem dX10_blanks_35 : decode cX10_blanks 35 = .ok (.aload_n 0, 1) := by decide +kernel
theorem dX10_blanks_36 : decode cX10_blanks 36 = .ok (.aload_n 0, 1) := by decide +kernel
theorem dX10_blanks_37 : decode cX10_blanks 37 = .ok (.getfield 106, 3) := by decide +kernel
theorem dX10_blanks_40 : decode cX10_blanks 40 = .ok (.putfield 116, 3) := by decide +kernel
theorem dX10_blanks_43 : decode cX10_blanks 43 = .ok (.return_, 1) := by decide +kernel
set_option maxRecDepth 20000 in
theorem ggX10_word_X10_blanks : GoodIn wsX10_word wsX10_blanks := goodIn_r _ [7, 1, 2, 8, 9, 10, 6, 11, 12, 13, 14, 15, 16, 17, 18, 19, 20, 21, 22, 23, 24, 25, 26, 27, 28, 29, 30, 31, 32, 33, 34, 35, 36, 37, 38, 39, 40, 41, 42, 43, 44, 45, 46, 47, 48, 49, 50, 51, 52, 53, 54, 55, 56, 57, 58, 59, 60, 61, 62, 63] rfl (by decide +kernel)
set_option maxRecDepth 20000 in
theorem gX10_word_X10_blanks : GoodIn wsX10_word (wsV RX10 119 RX10 yX10_blanks wsX10_blanks) := goodIn_app (goodIn_of _ (by decide +kernel)) ggX10_word_X10_blanks
set_option maxRecDepth 20000 in
theorem ggX10_word_X10_isAt : GoodIn wsX10_word wsX10_isAt := goodIn_r _ [11, 1, 12, 13, 14, 15, 16, 17, 18, 19, 20, 21, 22, 23, 24, 25, 26, 27, 28, 29, 30, 31, 32, 33, 34, 35, 36, 37, 38, 39, 40, 41, 42, 43, 44, 45, 46, 47, 48, 49, 50, 51, 52, 53, 54, 55, 56, 57, 58, 59, 60, 61, 62, 63] rfl (by decide +kernel)
set_option maxRecDepth 20000 in
theorem gX10_word_X10_isAt : GoodIn wsX10_word (wsV RX10 112 RX10 yX10_isAt wsX10_isAt) := goodIn_app (goodIn_of _ (by decide +kernel)) ggX10_word_X10_isAt
theorem dX10_word_0 : decode cX10_word 0 = .ok (.aload_n 0, 1) := by decide +kernel
theorem dX10_word_1 : decode cX10_word 1 = .ok (.invokevirtual 119, 3) := by decide +kernel
theorem dX10_word_4 : decode cX10_word 4 = .ok (.aload_n 0, 1) := by decide +kernel
theorem dX10_word_5 : decode cX10_word 5 = .ok (.bipush 97, 2) := by decide +kernel
theorem dX10_word_7 : decode cX10_word 7 = .ok (.bipush 122, 2) := by decide +kernel
theorem dX10_word_9 : decode cX10_word 9 = .ok (.invokevirtual 112, 3) := by decide +kernel
theorem dX10_word_12 : decode cX10_word 12 = .ok (.ifCond .eq 16, 3) := by decide +kernel
theorem dX10_word_15 : decode cX10_word 15 = .ok (.aload_n 0, 1) := by decide +kernel
theorem dX10_word_16 : decode cX10_word 16 = .ok (.dup, 1) := by decide +kernel
theorem dX10_word_17 : decode cX10_word 17 = .ok (.getfield 106, 3) := by decide +kernel
theorem dX10_word_20 : decode cX10_word 20 = .ok (.iconst 1, 1) := by decide +kernel
theorem dX10_word_21 : decode cX10_word 21 = .ok (.iadd, 1) := by decide +kernel
theorem dX10_word_22 : decode cX10_word 22 = .ok (.putfield 106, 3) := by decide +kernel
theorem dX10_word_25 : decode cX10_word 25 = .ok (.goto (-21), 3) := by decide +kernel
theorem dX10_word_28 : decode cX10_word 28 = .ok (.aload_n 0, 1) := by decide +kernel
theorem dX10_word_29 : decode cX10_word 29 = .ok (.getfield 106, 3) := by decide +kernel
theorem dX10_word_32 : decode cX10_word 32 = .ok (.aload_n 0, 1) := by decide +kernel
theorem dX10_word_33 : decode cX10_word 33 = .ok (.getfield 116, 3) := by decide +kernel
theorem dX10_word_36 : decode cX10_word 36 = .ok (.if_icmp .le 7, 3) := by decide +kernel
theorem dX10_word_39 : decode cX10_word 39 = .ok (.iconst 1, 1) := by decide +kernel
theorem dX10_word_40 : decode cX10_word 40 = .ok (.goto 4, 3) := by decide +kernel
theorem dX10_word_43 : decode cX10_word 43 = .ok (.iconst 0, 1) := by decide +kernel
theorem dX10_word_44 : decode cX10_word 44 = .ok (.ireturn, 1) := by decide +kernel
set_option maxRecDepth 20000 in
theorem ggX10_isWord_J0_length_8abf5 : GoodIn wsX10_isWord wsJ0_length_8abf5 := goodIn_r _ [8, 9, 10, 11, 12, 7, 13, 14, 15] rfl (by decide +kernel)
set_option maxRecDepth 20000 in
theorem gX10_isWord_J0_length_8abf5 : GoodIn wsX10_isWord (wsV RX10 122 RJ0 yJ0_length_8abf5 wsJ0_length_8abf5) := goodIn_app (goodIn_of _ (by decide +kernel)) ggX10_isWord_J0_length_8abf5
set_option maxRecDepth 20000 in
theorem ggX10_isWord_J0_charAt_5068e : GoodIn wsX10_isWord wsJ0_charAt_5068e := goodIn_r _ [19, 9, 20, 21, 22, 7, 23, 14, 15, 24, 25, 26, 27, 28, 29, 30, 31, 32, 33, 34, 35, 36, 37, 38, 39, 40, 41, 42, 43, 44, 45, 46, 47, 48, 49, 50, 51, 52] rfl (by decide +kernel)
set_option maxRecDepth 20000 in
theorem gX10_isWord_J0_charAt_5068e : GoodIn wsX10_isWord (wsV RX10 128 RJ0 yJ0_charAt_5068e wsJ0_charAt_5068e) := goodIn_app (goodIn_of _ (by decide +kernel)) ggX10_isWord_J0_charAt_5068e
theorem dX10_isWord_0 : decode cX10_isWord 0 = .ok (.aload_n 0, 1) := by decide +kernel
theorem dX10_isWord_1 : decode cX10_isWord 1 = .ok (.getfield 106, 3) := by decide +kernel
theorem dX10_isWord_4 : decode cX10_isWord 4 = .ok (.aload_n 0, 1) := by decide +kernel
theorem dX10_isWord_5 : decode cX10_isWord 5 = .ok (.getfield 116, 3) := by decide +kernel
theorem dX10_isWord_8 : decode cX10_isWord 8 = .ok (.isub, 1) := by decide +kernel
theorem dX10_isWord_9 : decode cX10_isWord 9 = .ok (.aload_n 1, 1) := by decide +kernel
theorem dX10_isWord_10 : decode cX10_isWord 10 = .ok (.invokevirtual 122, 3) := by decide +kernel
theorem dX10_isWord_13 : decode cX10_isWord 13 = .ok (.if_icmp .ne 7, 3) := by decide +kernel
theorem dX10_isWord_16 : decode cX10_isWord 16 = .ok (.iconst 1, 1) := by decide +kernel
theorem dX10_isWord_17 : decode cX10_isWord 17 = .ok (.goto 4, 3) := by decide +kernel
theorem dX10_isWord_20 : decode cX10_isWord 20 = .ok (.iconst 0, 1) := by decide +kernel
theorem dX10_isWord_21 : decode cX10_isWord 21 = .ok (.istore_n 2, 1) := by decide +kernel
theorem dX10_isWord_22 : decode cX10_isWord 22 = .ok (.iconst 0, 1) := by decide +kernel
theorem dX10_isWord_23 : decode cX10_isWord 23 = .ok (.istore_n 3, 1) := by decide +kernel
theorem dX10_isWord_24 : decode cX10_isWord 24 = .ok (.iload_n 2, 1) := by decide +kernel
theorem dX10_isWord_25 : decode cX10_isWord 25 = .ok (.ifCond .eq 42, 3) := by decide +kernel
theorem dX10_isWord_28 : decode cX10_isWord 28 = .ok (.iload_n 3, 1) := by decide +kernel
theorem dX10_isWord_29 : decode cX10_isWord 29 = .ok (.aload_n 1, 1) := by decide +kernel
theorem dX10_isWord_30 : decode cX10_isWord 30 = .ok (.invokevirtual 122, 3) := by decide +kernel
theorem dX10_isWord_33 : decode cX10_isWord 33 = .ok (.if_icmp .ge 34, 3) := by decide +kernel
theorem dX10_isWord_36 : decode cX10_isWord 36 = .ok (.aload_n 0, 1) := by decide +kernel
theorem dX10_isWord_37 : decode cX10_isWord 37 = .ok (.getfield 9, 3) := by decide +kernel
theorem dX10_isWord_40 : decode cX10_isWord 40 = .ok (.aload_n 0, 1) := by decide +kernel
theorem dX10_isWord_41 : decode cX10_isWord 41 = .ok (.getfield 116, 3) := by decide +kernel
theorem dX10_isWord_44 : decode cX10_isWord 44 = .ok (.iload_n 3, 1) := by decide +kernel
theorem dX10_isWord_45 : decode cX10_isWord 45 = .ok (.iadd, 1) := by decide +kernel
theorem dX10_isWord_46 : decode cX10_isWord 46 = .ok (.baload, 1) := by decide +kernel
theorem dX10_isWord_47 : decode cX10_isWord 47 = .ok (.aload_n 1, 1) := by decide +kernel
theorem dX10_isWord_48 : decode cX10_isWord 48 = .ok (.iload_n 3, 1) := by decide +kernel
theorem dX10_isWord_49 : decode cX10_isWord 49 = .ok (.invokevirtual 128, 3) := by decide +kernel
theorem dX10_isWord_52 : decode cX10_isWord 52 = .ok (.if_icmp .ne 7, 3) := by decide +kernel
theorem dX10_isWord_55 : decode cX10_isWord 55 = .ok (.iconst 1, 1) := by decide +kernel
theorem dX10_isWord_56 : decode cX10_isWord 56 = .ok (.goto 4, 3) := by decide +kernel
theorem dX10_isWord_59 : decode cX10_isWord 59 = .ok (.iconst 0, 1) := by decide +kernel
theorem dX10_isWord_60 : decode cX10_isWord 60 = .ok (.istore_n 2, 1) := by decide +kernel
theorem dX10_isWord_61 : decode cX10_isWord 61 = .ok (.iinc 3 1, 3) := by decide +kernel
theorem dX10_isWord_64 : decode cX10_isWord 64 = .ok (.goto (-40), 3) := by decide +kernel
theorem dX10_isWord_67 : decode cX10_isWord 67 = .ok (.iload_n 2, 1) := by decide +kernel
theorem dX10_isWord_68 : decode cX10_isWord 68 = .ok (.ireturn, 1) := by decide +kernel
set_option maxRecDepth 20000 in
theorem ggX10_takes_X10_blanks : GoodIn wsX10_takes wsX10_blanks := goodIn_r _ [6, 1, 7, 8, 9, 10, 5, 11, 12, 13, 14, 15, 16, 17, 18, 19, 20, 21, 22, 23, 24, 25, 26, 27, 28, 29, 30, 31, 32, 33, 34, 35, 36, 37, 38, 39, 40, 41, 42, 43, 44, 45, 46, 47, 48, 49, 50, 51, 52, 53, 54, 55, 56, 57, 58, 59, 60, 61, 62, 63] rfl (by decide +kernel)
set_option maxRecDepth 20000 in
theorem gX10_takes_X10_blanks : GoodIn wsX10_takes (wsV RX10 119 RX10 yX10_blanks wsX10_blanks) := goodIn_app (goodIn_of _ (by decide +kernel)) ggX10_takes_X10_blanks
set_option maxRecDepth 20000 in
theorem ggX10_takes_X10_isAt : GoodIn wsX10_takes wsX10_isAt := goodIn_r _ [11, 1, 12, 13, 14, 15, 16, 17, 18, 19, 20, 21, 22, 23, 24, 25, 26, 27, 28, 29, 30, 31, 32, 33, 34, 35, 36, 37, 38, 39, 40, 41, 42, 43, 44, 45, 46, 47, 48, 49, 50, 51, 52, 53, 54, 55, 56, 57, 58, 59, 60, 61, 62, 63] rfl (by decide +kernel)
set_option maxRecDepth 20000 in
theorem gX10_takes_X10_isAt : GoodIn wsX10_takes (wsV RX10 112 RX10 yX10_isAt wsX10_isAt) := goodIn_app (goodIn_of _ (by decide +kernel)) ggX10_takes_X10_isAt
theorem dX10_takes_0 : decode cX10_takes 0 = .ok (.aload_n 0, 1) := by decide +kernel
theorem dX10_takes_1 : decode cX10_takes 1 = .ok (.invokevirtual 119, 3) := by decide +kernel
theorem dX10_takes_4 : decode cX10_takes 4 = .ok (.aload_n 0, 1) := by decide +kernel
theorem dX10_takes_5 : decode cX10_takes 5 = .ok (.iload_n 1, 1) := by decide +kernel
theorem dX10_takes_6 : decode cX10_takes 6 = .ok (.iload_n 1, 1) := by decide +kernel
theorem dX10_takes_7 : decode cX10_takes 7 = .ok (.invokevirtual 112, 3) := by decide +kernel
theorem dX10_takes_10 : decode cX10_takes 10 = .ok (.ifCond .ne 5, 3) := by decide +kernel
theorem dX10_takes_13 : decode cX10_takes 13 = .ok (.iconst 0, 1) := by decide +kernel
theorem dX10_takes_14 : decode cX10_takes 14 = .ok (.ireturn, 1) := by decide +kernel
theorem dX10_takes_15 : decode cX10_takes 15 = .ok (.aload_n 0, 1) := by decide +kernel
theorem dX10_takes_16 : decode cX10_takes 16 = .ok (.dup, 1) := by decide +kernel
theorem dX10_takes_17 : decode cX10_takes 17 = .ok (.getfield 106, 3) := by decide +kernel
theorem dX10_takes_20 : decode cX10_takes 20 = .ok (.iconst 1, 1) := by decide +kernel
theorem dX10_takes_21 : decode cX10_takes 21 = .ok (.iadd, 1) := by decide +kernel
theorem dX10_takes_22 : decode cX10_takes 22 = .ok (.putfield 106, 3) := by decide +kernel
theorem dX10_takes_25 : decode cX10_takes 25 = .ok (.iconst 1, 1) := by decide +kernel
theorem dX10_takes_26 : decode cX10_takes 26 = .ok (.ireturn, 1) := by decide +kernel
set_option maxRecDepth 20000 in
theorem ggX10_isName_X10_in : GoodIn wsX10_isName wsX10_in := goodIn_r _ [6] rfl (by decide +kernel)
set_option maxRecDepth 20000 in
theorem gX10_isName_X10_in : GoodIn wsX10_isName (va_wsS RX10 132 yX10_in wsX10_in) := goodIn_app (goodIn_of _ (by decide +kernel)) ggX10_isName_X10_in
set_option maxRecDepth 20000 in
theorem ggX10_isName_X10_isWord : GoodIn wsX10_isName wsX10_isWord := goodIn_r _ [10, 1, 2, 11, 12, 13, 14, 15, 16, 17, 18, 19, 20, 21, 22, 23, 24, 25, 26, 27, 28, 29, 30, 31, 32, 33, 34, 35, 36, 37, 38, 39, 40, 41, 42, 43, 44, 45, 46, 47, 48, 49, 50, 51, 52, 53, 54, 55, 56, 57, 58, 59, 60, 61, 62, 63, 64, 65, 66, 67, 68, 69, 70, 71, 72, 73, 74, 75, 76, 77, 78, 79, 80, 81, 82, 83, 84, 85, 86, 87, 88, 89, 90, 91, 92, 93, 94, 95, 96, 97, 98, 99, 100, 101, 102, 103, 104, 105, 106, 107, 108, 109, 110] rfl (by decide +kernel)
set_option maxRecDepth 20000 in
theorem gX10_isName_X10_isWord : GoodIn wsX10_isName (wsV RX10 138 RX10 yX10_isWord wsX10_isWord) := goodIn_app (goodIn_of _ (by decide +kernel)) ggX10_isName_X10_isWord
theorem dX10_isName_0 : decode cX10_isName 0 = .ok (.aload_n 0, 1) := by decide +kernel
theorem dX10_isName_1 : decode cX10_isName 1 = .ok (.getfield 106, 3) := by decide +kernel
theorem dX10_isName_4 : decode cX10_isName 4 = .ok (.aload_n 0, 1) := by decide +kernel
theorem dX10_isName_5 : decode cX10_isName 5 = .ok (.getfield 116, 3) := by decide +kernel
theorem dX10_isName_8 : decode cX10_isName 8 = .ok (.isub, 1) := by decide +kernel
theorem dX10_isName_9 : decode cX10_isName 9 = .ok (.iconst 1, 1) := by decide +kernel
theorem dX10_isName_10 : decode cX10_isName 10 = .ok (.bipush 6, 2) := by decide +kernel
theorem dX10_isName_12 : decode cX10_isName 12 = .ok (.invokestatic 132, 3) := by decide +kernel
theorem dX10_isName_15 : decode cX10_isName 15 = .ok (.ifCond .eq 52, 3) := by decide +kernel
theorem dX10_isName_18 : decode cX10_isName 18 = .ok (.aload_n 0, 1) := by decide +kernel
theorem dX10_isName_19 : decode cX10_isName 19 = .ok (.ldc 136, 2) := by decide +kernel
theorem dX10_isName_21 : decode cX10_isName 21 = .ok (.invokevirtual 138, 3) := by decide +kernel
theorem dX10_isName_24 : decode cX10_isName 24 = .ok (.ifCond .ne 43, 3) := by decide +kernel
theorem dX10_isName_27 : decode cX10_isName 27 = .ok (.aload_n 0, 1) := by decide +kernel
theorem dX10_isName_28 : decode cX10_isName 28 = .ok (.ldc 142, 2) := by decide +kernel
theorem dX10_isName_30 : decode cX10_isName 30 = .ok (.invokevirtual 138, 3) := by decide +kernel
theorem dX10_isName_33 : decode cX10_isName 33 = .ok (.ifCond .ne 34, 3) := by decide +kernel
theorem dX10_isName_36 : decode cX10_isName 36 = .ok (.aload_n 0, 1) := by decide +kernel
theorem dX10_isName_37 : decode cX10_isName 37 = .ok (.ldc 144, 2) := by decide +kernel
theorem dX10_isName_39 : decode cX10_isName 39 = .ok (.invokevirtual 138, 3) := by decide +kernel
theorem dX10_isName_42 : decode cX10_isName 42 = .ok (.ifCond .ne 25, 3) := by decide +kernel
theorem dX10_isName_45 : decode cX10_isName 45 = .ok (.aload_n 0, 1) := by decide +kernel
theorem dX10_isName_46 : decode cX10_isName 46 = .ok (.ldc 146, 2) := by decide +kernel
theorem dX10_isName_48 : decode cX10_isName 48 = .ok (.invokevirtual 138, 3) := by decide +kernel
theorem dX10_isName_51 : decode cX10_isName 51 = .ok (.ifCond .ne 16, 3) := by decide +kernel
theorem dX10_isName_54 : decode cX10_isName 54 = .ok (.aload_n 0, 1) := by decide +kernel
theorem dX10_isName_55 : decode cX10_isName 55 = .ok (.ldc 147, 2) := by decide +kernel
theorem dX10_isName_57 : decode cX10_isName 57 = .ok (.invokevirtual 138, 3) := by decide +kernel
theorem dX10_isName_60 : decode cX10_isName 60 = .ok (.ifCond .ne 7, 3) := by decide +kernel
theorem dX10_isName_63 : decode cX10_isName 63 = .ok (.iconst 1, 1) := by decide +kernel
theorem dX10_isName_64 : decode cX10_isName 64 = .ok (.goto 4, 3) := by decide +kernel
theorem dX10_isName_67 : decode cX10_isName 67 = .ok (.iconst 0, 1) := by decide +kernel
theorem dX10_isName_68 : decode cX10_isName 68 = .ok (.ireturn, 1) := by decide +kernel
theorem dX10_newNamed_0 : decode cX10_newNamed 0 = .ok (.iconst 0, 1) := by decide +kernel
theorem dX10_newNamed_1 : decode cX10_newNamed 1 = .ok (.istore_n 1, 1) := by decide +kernel
theorem dX10_newNamed_2 : decode cX10_newNamed 2 = .ok (.iload_n 1, 1) := by decide +kernel
theorem dX10_newNamed_3 : decode cX10_newNamed 3 = .ok (.bipush 15, 2) := by decide +kernel
theorem dX10_newNamed_5 : decode cX10_newNamed 5 = .ok (.if_icmp .ge 123, 3) := by decide +kernel
theorem dX10_newNamed_8 : decode cX10_newNamed 8 = .ok (.iload_n 1, 1) := by decide +kernel
theorem dX10_newNamed_9 : decode cX10_newNamed 9 = .ok (.bipush 10, 2) := by decide +kernel
theorem dX10_newNamed_11 : decode cX10_newNamed 11 = .ok (.if_icmp .ge 14, 3) := by decide +kernel
theorem dX10_newNamed_14 : decode cX10_newNamed 14 = .ok (.iload_n 1, 1) := by decide +kernel
theorem dX10_newNamed_15 : decode cX10_newNamed 15 = .ok (.aload_n 0, 1) := by decide +kernel
theorem dX10_newNamed_16 : decode cX10_newNamed 16 = .ok (.getfield 149, 3) := by decide +kernel
theorem dX10_newNamed_19 : decode cX10_newNamed 19 = .ok (.if_icmp .lt 20, 3) := by decide +kernel
theorem dX10_newNamed_22 : decode cX10_newNamed 22 = .ok (.goto 100, 3) := by decide +kernel
theorem dX10_newNamed_25 : decode cX10_newNamed 25 = .ok (.iload_n 1, 1) := by decide +kernel
theorem dX10_newNamed_26 : decode cX10_newNamed 26 = .ok (.bipush 10, 2) := by decide +kernel
theorem dX10_newNamed_28 : decode cX10_newNamed 28 = .ok (.isub, 1) := by decide +kernel
theorem dX10_newNamed_29 : decode cX10_newNamed 29 = .ok (.aload_n 0, 1) := by decide +kernel
theorem dX10_newNamed_30 : decode cX10_newNamed 30 = .ok (.getfield 152, 3) := by decide +kernel
theorem dX10_newNamed_33 : decode cX10_newNamed 33 = .ok (.if_icmp .lt 6, 3) := by decide +kernel
theorem dX10_newNamed_36 : decode cX10_newNamed 36 = .ok (.goto 86, 3) := by decide +kernel
theorem dX10_newNamed_39 : decode cX10_newNamed 39 = .ok (.aload_n 0, 1) := by decide +kernel
theorem dX10_newNamed_40 : decode cX10_newNamed 40 = .ok (.getfield 106, 3) := by decide +kernel
theorem dX10_newNamed_43 : decode cX10_newNamed 43 = .ok (.aload_n 0, 1) := by decide +kernel
theorem dX10_newNamed_44 : decode cX10_newNamed 44 = .ok (.getfield 116, 3) := by decide +kernel
theorem dX10_newNamed_47 : decode cX10_newNamed 47 = .ok (.isub, 1) := by decide +kernel
theorem dX10_newNamed_48 : decode cX10_newNamed 48 = .ok (.aload_n 0, 1) := by decide +kernel
theorem dX10_newNamed_49 : decode cX10_newNamed 49 = .ok (.getfield 30, 3) := by decide +kernel
theorem dX10_newNamed_52 : decode cX10_newNamed 52 = .ok (.iload_n 1, 1) := by decide +kernel
theorem dX10_newNamed_53 : decode cX10_newNamed 53 = .ok (.iaload, 1) := by decide +kernel
theorem dX10_newNamed_54 : decode cX10_newNamed 54 = .ok (.if_icmp .ne 7, 3) := by decide +kernel
theorem dX10_newNamed_57 : decode cX10_newNamed 57 = .ok (.iconst 1, 1) := by decide +kernel
theorem dX10_newNamed_58 : decode cX10_newNamed 58 = .ok (.goto 4, 3) := by decide +kernel
theorem dX10_newNamed_61 : decode cX10_newNamed 61 = .ok (.iconst 0, 1) := by decide +kernel
theorem dX10_newNamed_62 : decode cX10_newNamed 62 = .ok (.istore_n 2, 1) := by decide +kernel
theorem dX10_newNamed_63 : decode cX10_newNamed 63 = .ok (.iconst 0, 1) := by decide +kernel
theorem dX10_newNamed_64 : decode cX10_newNamed 64 = .ok (.istore_n 3, 1) := by decide +kernel
theorem dX10_newNamed_65 : decode cX10_newNamed 65 = .ok (.iload_n 2, 1) := by decide +kernel
theorem dX10_newNamed_66 : decode cX10_newNamed 66 = .ok (.ifCond .eq 50, 3) := by decide +kernel
theorem dX10_newNamed_69 : decode cX10_newNamed 69 = .ok (.iload_n 3, 1) := by decide +kernel
theorem dX10_newNamed_70 : decode cX10_newNamed 70 = .ok (.aload_n 0, 1) := by decide +kernel
theorem dX10_newNamed_71 : decode cX10_newNamed 71 = .ok (.getfield 30, 3) := by decide +kernel
theorem dX10_newNamed_74 : decode cX10_newNamed 74 = .ok (.iload_n 1, 1) := by decide +kernel
theorem dX10_newNamed_75 : decode cX10_newNamed 75 = .ok (.iaload, 1) := by decide +kernel
theorem dX10_newNamed_76 : decode cX10_newNamed 76 = .ok (.if_icmp .ge 40, 3) := by decide +kernel
theorem dX10_newNamed_79 : decode cX10_newNamed 79 = .ok (.aload_n 0, 1) := by decide +kernel
theorem dX10_newNamed_80 : decode cX10_newNamed 80 = .ok (.getfield 9, 3) := by decide +kernel
theorem dX10_newNamed_83 : decode cX10_newNamed 83 = .ok (.aload_n 0, 1) := by decide +kernel
theorem dX10_newNamed_84 : decode cX10_newNamed 84 = .ok (.getfield 116, 3) := by decide +kernel
theorem dX10_newNamed_87 : decode cX10_newNamed 87 = .ok (.iload_n 3, 1) := by decide +kernel
theorem dX10_newNamed_88 : decode cX10_newNamed 88 = .ok (.iadd, 1) := by decide +kernel
theorem dX10_newNamed_89 : decode cX10_newNamed 89 = .ok (.baload, 1) := by decide +kernel
theorem dX10_newNamed_90 : decode cX10_newNamed 90 = .ok (.aload_n 0, 1) := by decide +kernel
theorem dX10_newNamed_91 : decode cX10_newNamed 91 = .ok (.getfield 24, 3) := by decide +kernel
theorem dX10_newNamed_94 : decode cX10_newNamed 94 = .ok (.bipush 6, 2) := by decide +kernel
theorem dX10_newNamed_96 : decode cX10_newNamed 96 = .ok (.iload_n 1, 1) := by decide +kernel
theorem dX10_newNamed_97 : decode cX10_newNamed 97 = .ok (.imul, 1) := by decide +kernel
theorem dX10_newNamed_98 : decode cX10_newNamed 98 = .ok (.iload_n 3, 1) := by decide +kernel
theorem dX10_newNamed_99 : decode cX10_newNamed 99 = .ok (.iadd, 1) := by decide +kernel
theorem dX10_newNamed_100 : decode cX10_newNamed 100 = .ok (.baload, 1) := by decide +kernel
theorem dX10_newNamed_101 : decode cX10_newNamed 101 = .ok (.if_icmp .ne 7, 3) := by decide +kernel
theorem dX10_newNamed_104 : decode cX10_newNamed 104 = .ok (.iconst 1, 1) := by decide +kernel
theorem dX10_newNamed_105 : decode cX10_newNamed 105 = .ok (.goto 4, 3) := by decide +kernel
theorem dX10_newNamed_108 : decode cX10_newNamed 108 = .ok (.iconst 0, 1) := by decide +kernel
theorem dX10_newNamed_109 : decode cX10_newNamed 109 = .ok (.istore_n 2, 1) := by decide +kernel
theorem dX10_newNamed_110 : decode cX10_newNamed 110 = .ok (.iinc 3 1, 3) := by decide +kernel
theorem dX10_newNamed_113 : decode cX10_newNamed 113 = .ok (.goto (-48), 3) := by decide +kernel
theorem dX10_newNamed_116 : decode cX10_newNamed 116 = .ok (.iload_n 2, 1) := by decide +kernel
theorem dX10_newNamed_117 : decode cX10_newNamed 117 = .ok (.ifCond .eq 5, 3) := by decide +kernel
theorem dX10_newNamed_120 : decode cX10_newNamed 120 = .ok (.iload_n 1, 1) := by decide +kernel
theorem dX10_newNamed_121 : decode cX10_newNamed 121 = .ok (.ireturn, 1) := by decide +kernel
theorem dX10_newNamed_122 : decode cX10_newNamed 122 = .ok (.iinc 1 1, 3) := by decide +kernel
theorem dX10_newNamed_125 : decode cX10_newNamed 125 = .ok (.goto (-123), 3) := by decide +kernel
theorem dX10_newNamed_128 : decode cX10_newNamed 128 = .ok (.iconst (-1), 1) := by decide +kernel
theorem dX10_newNamed_129 : decode cX10_newNamed 129 = .ok (.ireturn, 1) := by decide +kernel
set_option maxRecDepth 20000 in
theorem ggX10_readsName_X10_word : GoodIn wsX10_readsName wsX10_word := goodIn_r _ [10, 2, 3, 11, 12, 13, 9, 14, 15, 16, 17, 18, 19, 5, 86, 87, 88, 89, 90, 91, 92, 93, 94, 95, 96, 97, 98, 99, 100, 101, 102, 103, 104, 105, 106, 107, 108, 109, 110, 111, 112, 113, 114, 115, 116, 117, 118, 119, 120, 121, 122, 123, 124, 125, 126, 127, 128, 129, 130, 131, 132, 133, 134, 135] rfl (by decide +kernel)
set_option maxRecDepth 20000 in
theorem gX10_readsName_X10_word : GoodIn wsX10_readsName (wsV RX10 155 RX10 yX10_word wsX10_word) := goodIn_app (goodIn_of _ (by decide +kernel)) ggX10_readsName_X10_word
set_option maxRecDepth 20000 in
theorem ggX10_readsName_X10_isName : GoodIn wsX10_readsName wsX10_isName := goodIn_r _ [23, 2, 3, 24, 25, 9, 26, 27, 28, 29, 30, 5, 31, 32, 33, 34, 35, 36, 37, 38, 39, 40, 41, 42, 43, 44, 45, 46, 47, 48, 49, 50, 51, 52, 53, 54, 55, 56, 57, 58, 59, 60, 61, 62, 63, 64, 65, 66, 67, 68, 69, 70, 71, 72, 73, 74, 75, 76, 77, 78, 79, 86, 87, 88, 89, 90, 91, 92, 93, 94, 95, 96, 97, 98, 99, 100, 101, 102, 103, 104, 105, 106, 107, 108, 109, 110, 111, 112, 113, 114, 115, 116, 117, 118, 119, 120, 121, 122, 123, 124, 125, 126, 127, 128, 129, 130, 131, 132, 133, 134, 135] rfl (by decide +kernel)
set_option maxRecDepth 20000 in
theorem gX10_readsName_X10_isName : GoodIn wsX10_readsName (wsV RX10 159 RX10 yX10_isName wsX10_isName) := goodIn_app (goodIn_of _ (by decide +kernel)) ggX10_readsName_X10_isName
set_option maxRecDepth 20000 in
theorem ggX10_readsName_X10_newNamed : GoodIn wsX10_readsName wsX10_newNamed := goodIn_r _ [83, 84, 85, 2, 3, 1, 5, 4, 86, 87, 88, 89, 90, 91, 92, 93, 94, 95, 96, 97, 98, 99, 100, 101, 102, 103, 104, 105, 106, 107, 108, 109, 110, 111, 112, 113, 114, 115, 116, 117, 118, 119, 120, 121, 122, 123, 124, 125, 126, 127, 128, 129, 130, 131, 132, 133, 134, 135] rfl (by decide +kernel)
set_option maxRecDepth 20000 in
theorem gX10_readsName_X10_newNamed : GoodIn wsX10_readsName (wsV RX10 162 RX10 yX10_newNamed wsX10_newNamed) := goodIn_app (goodIn_of _ (by decide +kernel)) ggX10_readsName_X10_newNamed
theorem dX10_readsName_0 : decode cX10_readsName 0 = .ok (.aload_n 0, 1) := by decide +kernel
theorem dX10_readsName_1 : decode cX10_readsName 1 = .ok (.invokevirtual 155, 3) := by decide +kernel
theorem dX10_readsName_4 : decode cX10_readsName 4 = .ok (.ifCond .eq 18, 3) := by decide +kernel
theorem dX10_readsName_7 : decode cX10_readsName 7 = .ok (.aload_n 0, 1) := by decide +kernel
theorem dX10_readsName_8 : decode cX10_readsName 8 = .ok (.invokevirtual 159, 3) := by decide +kernel
theorem dX10_readsName_11 : decode cX10_readsName 11 = .ok (.ifCond .eq 11, 3) := by decide +kernel
theorem dX10_readsName_14 : decode cX10_readsName 14 = .ok (.aload_n 0, 1) := by decide +kernel
theorem dX10_readsName_15 : decode cX10_readsName 15 = .ok (.invokevirtual 162, 3) := by decide +kernel
theorem dX10_readsName_18 : decode cX10_readsName 18 = .ok (.iconst (-1), 1) := by decide +kernel
theorem dX10_readsName_19 : decode cX10_readsName 19 = .ok (.if_icmp .eq 5, 3) := by decide +kernel
theorem dX10_readsName_22 : decode cX10_readsName 22 = .ok (.iconst 0, 1) := by decide +kernel
theorem dX10_readsName_23 : decode cX10_readsName 23 = .ok (.ireturn, 1) := by decide +kernel
theorem dX10_readsName_24 : decode cX10_readsName 24 = .ok (.aload_n 0, 1) := by decide +kernel
theorem dX10_readsName_25 : decode cX10_readsName 25 = .ok (.getfield 30, 3) := by decide +kernel
theorem dX10_readsName_28 : decode cX10_readsName 28 = .ok (.iload_n 1, 1) := by decide +kernel
theorem dX10_readsName_29 : decode cX10_readsName 29 = .ok (.aload_n 0, 1) := by decide +kernel
theorem dX10_readsName_30 : decode cX10_readsName 30 = .ok (.getfield 106, 3) := by decide +kernel
theorem dX10_readsName_33 : decode cX10_readsName 33 = .ok (.aload_n 0, 1) := by decide +kernel
theorem dX10_readsName_34 : decode cX10_readsName 34 = .ok (.getfield 116, 3) := by decide +kernel
theorem dX10_readsName_37 : decode cX10_readsName 37 = .ok (.isub, 1) := by decide +kernel
theorem dX10_readsName_38 : decode cX10_readsName 38 = .ok (.iastore, 1) := by decide +kernel
theorem dX10_readsName_39 : decode cX10_readsName 39 = .ok (.iconst 0, 1) := by decide +kernel
theorem dX10_readsName_40 : decode cX10_readsName 40 = .ok (.istore_n 2, 1) := by decide +kernel
theorem dX10_readsName_41 : decode cX10_readsName 41 = .ok (.iload_n 2, 1) := by decide +kernel
theorem dX10_readsName_42 : decode cX10_readsName 42 = .ok (.aload_n 0, 1) := by decide +kernel
theorem dX10_readsName_43 : decode cX10_readsName 43 = .ok (.getfield 30, 3) := by decide +kernel
theorem dX10_readsName_46 : decode cX10_readsName 46 = .ok (.iload_n 1, 1) := by decide +kernel
theorem dX10_readsName_47 : decode cX10_readsName 47 = .ok (.iaload, 1) := by decide +kernel
theorem dX10_readsName_48 : decode cX10_readsName 48 = .ok (.if_icmp .ge 31, 3) := by decide +kernel
theorem dX10_readsName_51 : decode cX10_readsName 51 = .ok (.aload_n 0, 1) := by decide +kernel
theorem dX10_readsName_52 : decode cX10_readsName 52 = .ok (.getfield 24, 3) := by decide +kernel
theorem dX10_readsName_55 : decode cX10_readsName 55 = .ok (.bipush 6, 2) := by decide +kernel
theorem dX10_readsName_57 : decode cX10_readsName 57 = .ok (.iload_n 1, 1) := by decide +kernel
theorem dX10_readsName_58 : decode cX10_readsName 58 = .ok (.imul, 1) := by decide +kernel
theorem dX10_readsName_59 : decode cX10_readsName 59 = .ok (.iload_n 2, 1) := by decide +kernel
theorem dX10_readsName_60 : decode cX10_readsName 60 = .ok (.iadd, 1) := by decide +kernel
theorem dX10_readsName_61 : decode cX10_readsName 61 = .ok (.aload_n 0, 1) := by decide +kernel
theorem dX10_readsName_62 : decode cX10_readsName 62 = .ok (.getfield 9, 3) := by decide +kernel
theorem dX10_readsName_65 : decode cX10_readsName 65 = .ok (.aload_n 0, 1) := by decide +kernel
theorem dX10_readsName_66 : decode cX10_readsName 66 = .ok (.getfield 116, 3) := by decide +kernel
theorem dX10_readsName_69 : decode cX10_readsName 69 = .ok (.iload_n 2, 1) := by decide +kernel
theorem dX10_readsName_70 : decode cX10_readsName 70 = .ok (.iadd, 1) := by decide +kernel
theorem dX10_readsName_71 : decode cX10_readsName 71 = .ok (.baload, 1) := by decide +kernel
theorem dX10_readsName_72 : decode cX10_readsName 72 = .ok (.bastore, 1) := by decide +kernel
theorem dX10_readsName_73 : decode cX10_readsName 73 = .ok (.iinc 2 1, 3) := by decide +kernel
theorem dX10_readsName_76 : decode cX10_readsName 76 = .ok (.goto (-35), 3) := by decide +kernel
theorem dX10_readsName_79 : decode cX10_readsName 79 = .ok (.iconst 1, 1) := by decide +kernel
theorem dX10_readsName_80 : decode cX10_readsName 80 = .ok (.ireturn, 1) := by decide +kernel
set_option maxRecDepth 20000 in
theorem ggX10_readsNumber_X10_blanks : GoodIn wsX10_readsNumber wsX10_blanks := goodIn_r _ [10, 2, 5, 11, 12, 13, 9, 14, 15, 1, 16, 17, 18, 19, 20, 21, 22, 23, 24, 25, 26, 27, 28, 29, 30, 31, 32, 33, 34, 35, 36, 37, 38, 39, 40, 41, 42, 43, 44, 45, 46, 47, 48, 49, 50, 51, 52, 53, 54, 55, 56, 57, 58, 59, 60, 61, 62, 63, 64, 65] rfl (by decide +kernel)
set_option maxRecDepth 20000 in
theorem gX10_readsNumber_X10_blanks : GoodIn wsX10_readsNumber (wsV RX10 119 RX10 yX10_blanks wsX10_blanks) := goodIn_app (goodIn_of _ (by decide +kernel)) ggX10_readsNumber_X10_blanks
set_option maxRecDepth 20000 in
theorem ggX10_readsNumber_X10_isAt : GoodIn wsX10_readsNumber wsX10_isAt := goodIn_r _ [14, 2, 15, 1, 16, 17, 18, 19, 20, 21, 22, 23, 24, 25, 26, 27, 28, 29, 30, 31, 32, 33, 34, 35, 36, 37, 38, 39, 40, 41, 42, 43, 44, 45, 46, 47, 48, 49, 50, 51, 52, 53, 54, 55, 56, 57, 58, 59, 60, 61, 62, 63, 64, 65] rfl (by decide +kernel)
set_option maxRecDepth 20000 in
theorem gX10_readsNumber_X10_isAt : GoodIn wsX10_readsNumber (wsV RX10 112 RX10 yX10_isAt wsX10_isAt) := goodIn_app (goodIn_of _ (by decide +kernel)) ggX10_readsNumber_X10_isAt
theorem dX10_readsNumber_0 : decode cX10_readsNumber 0 = .ok (.aload_n 0, 1) := by decide +kernel
theorem dX10_readsNumber_1 : decode cX10_readsNumber 1 = .ok (.invokevirtual 119, 3) := by decide +kernel
theorem dX10_readsNumber_4 : decode cX10_readsNumber 4 = .ok (.iconst 0, 1) := by decide +kernel
theorem dX10_readsNumber_5 : decode cX10_readsNumber 5 = .ok (.istore_n 1, 1) := by decide +kernel
theorem dX10_readsNumber_6 : decode cX10_readsNumber 6 = .ok (.aload_n 0, 1) := by decide +kernel
theorem dX10_readsNumber_7 : decode cX10_readsNumber 7 = .ok (.bipush 48, 2) := by decide +kernel
theorem dX10_readsNumber_9 : decode cX10_readsNumber 9 = .ok (.bipush 57, 2) := by decide +kernel
theorem dX10_readsNumber_11 : decode cX10_readsNumber 11 = .ok (.invokevirtual 112, 3) := by decide +kernel
theorem dX10_readsNumber_14 : decode cX10_readsNumber 14 = .ok (.ifCond .eq 29, 3) := by decide +kernel
theorem dX10_readsNumber_17 : decode cX10_readsNumber 17 = .ok (.aload_n 0, 1) := by decide +kernel
theorem dX10_readsNumber_18 : decode cX10_readsNumber 18 = .ok (.getfield 9, 3) := by decide +kernel
theorem dX10_readsNumber_21 : decode cX10_readsNumber 21 = .ok (.aload_n 0, 1) := by decide +kernel
theorem dX10_readsNumber_22 : decode cX10_readsNumber 22 = .ok (.getfield 106, 3) := by decide +kernel
theorem dX10_readsNumber_25 : decode cX10_readsNumber 25 = .ok (.baload, 1) := by decide +kernel
theorem dX10_readsNumber_26 : decode cX10_readsNumber 26 = .ok (.bipush 48, 2) := by decide +kernel
theorem dX10_readsNumber_28 : decode cX10_readsNumber 28 = .ok (.isub, 1) := by decide +kernel
theorem dX10_readsNumber_29 : decode cX10_readsNumber 29 = .ok (.istore_n 1, 1) := by decide +kernel
theorem dX10_readsNumber_30 : decode cX10_readsNumber 30 = .ok (.aload_n 0, 1) := by decide +kernel
theorem dX10_readsNumber_31 : decode cX10_readsNumber 31 = .ok (.dup, 1) := by decide +kernel
theorem dX10_readsNumber_32 : decode cX10_readsNumber 32 = .ok (.getfield 106, 3) := by decide +kernel
theorem dX10_readsNumber_35 : decode cX10_readsNumber 35 = .ok (.iconst 1, 1) := by decide +kernel
theorem dX10_readsNumber_36 : decode cX10_readsNumber 36 = .ok (.iadd, 1) := by decide +kernel
theorem dX10_readsNumber_37 : decode cX10_readsNumber 37 = .ok (.putfield 106, 3) := by decide +kernel
theorem dX10_readsNumber_40 : decode cX10_readsNumber 40 = .ok (.goto (-34), 3) := by decide +kernel
theorem dX10_readsNumber_43 : decode cX10_readsNumber 43 = .ok (.aload_n 0, 1) := by decide +kernel
theorem dX10_readsNumber_44 : decode cX10_readsNumber 44 = .ok (.getfield 45, 3) := by decide +kernel
theorem dX10_readsNumber_47 : decode cX10_readsNumber 47 = .ok (.aload_n 0, 1) := by decide +kernel
theorem dX10_readsNumber_48 : decode cX10_readsNumber 48 = .ok (.getfield 149, 3) := by decide +kernel
theorem dX10_readsNumber_51 : decode cX10_readsNumber 51 = .ok (.iload_n 1, 1) := by decide +kernel
theorem dX10_readsNumber_52 : decode cX10_readsNumber 52 = .ok (.iastore, 1) := by decide +kernel
theorem dX10_readsNumber_53 : decode cX10_readsNumber 53 = .ok (.aload_n 0, 1) := by decide +kernel
theorem dX10_readsNumber_54 : decode cX10_readsNumber 54 = .ok (.getfield 106, 3) := by decide +kernel
theorem dX10_readsNumber_57 : decode cX10_readsNumber 57 = .ok (.aload_n 0, 1) := by decide +kernel
theorem dX10_readsNumber_58 : decode cX10_readsNumber 58 = .ok (.getfield 116, 3) := by decide +kernel
theorem dX10_readsNumber_61 : decode cX10_readsNumber 61 = .ok (.isub, 1) := by decide +kernel
theorem dX10_readsNumber_62 : decode cX10_readsNumber 62 = .ok (.iconst 1, 1) := by decide +kernel
theorem dX10_readsNumber_63 : decode cX10_readsNumber 63 = .ok (.if_icmp .ne 12, 3) := by decide +kernel
theorem dX10_readsNumber_66 : decode cX10_readsNumber 66 = .ok (.iload_n 1, 1) := by decide +kernel
theorem dX10_readsNumber_67 : decode cX10_readsNumber 67 = .ok (.iconst 3, 1) := by decide +kernel
theorem dX10_readsNumber_68 : decode cX10_readsNumber 68 = .ok (.if_icmp .gt 7, 3) := by decide +kernel
theorem dX10_readsNumber_71 : decode cX10_readsNumber 71 = .ok (.iconst 1, 1) := by decide +kernel
theorem dX10_readsNumber_72 : decode cX10_readsNumber 72 = .ok (.goto 4, 3) := by decide +kernel
theorem dX10_readsNumber_75 : decode cX10_readsNumber 75 = .ok (.iconst 0, 1) := by decide +kernel
theorem dX10_readsNumber_76 : decode cX10_readsNumber 76 = .ok (.ireturn, 1) := by decide +kernel
set_option maxRecDepth 20000 in
theorem ggX10_readsUnit_X10_word : GoodIn wsX10_readsUnit wsX10_word := goodIn_r _ [9, 10, 11, 12, 13, 14, 8, 15, 16, 17, 18, 19, 20, 21, 82, 83, 84, 85, 86, 87, 88, 89, 90, 91, 92, 93, 94, 95, 96, 97, 98, 99, 100, 101, 102, 103, 104, 105, 106, 107, 108, 109, 110, 111, 112, 113, 114, 115, 116, 117, 118, 119, 120, 121, 122, 123, 124, 125, 126, 127, 128, 129, 130, 131] rfl (by decide +kernel)
set_option maxRecDepth 20000 in
theorem gX10_readsUnit_X10_word : GoodIn wsX10_readsUnit (wsV RX10 155 RX10 yX10_word wsX10_word) := goodIn_app (goodIn_of _ (by decide +kernel)) ggX10_readsUnit_X10_word
set_option maxRecDepth 20000 in
theorem ggX10_readsUnit_X10_isWord : GoodIn wsX10_readsUnit wsX10_isWord := goodIn_r _ [25, 10, 11, 21, 26, 27, 28, 29, 30, 31, 32, 33, 34, 35, 36, 37, 38, 39, 40, 41, 42, 43, 44, 45, 46, 47, 48, 49, 50, 51, 52, 53, 54, 55, 56, 57, 58, 59, 60, 61, 62, 63, 64, 65, 66, 67, 68, 69, 70, 71, 72, 73, 74, 82, 83, 84, 85, 86, 87, 88, 89, 90, 91, 92, 93, 94, 95, 96, 97, 98, 99, 100, 101, 102, 103, 104, 105, 106, 107, 108, 109, 110, 111, 112, 113, 114, 115, 116, 117, 118, 119, 120, 121, 122, 123, 124, 125, 126, 127, 128, 129, 130, 131] rfl (by decide +kernel)
set_option maxRecDepth 20000 in
theorem gX10_readsUnit_X10_isWord : GoodIn wsX10_readsUnit (wsV RX10 138 RX10 yX10_isWord wsX10_isWord) := goodIn_app (goodIn_of _ (by decide +kernel)) ggX10_readsUnit_X10_isWord
set_option maxRecDepth 20000 in
theorem ggX10_readsUnit_X10_newNamed : GoodIn wsX10_readsUnit wsX10_newNamed := goodIn_r _ [78, 2, 79, 10, 11, 80, 21, 81, 82, 83, 84, 85, 86, 87, 88, 89, 90, 91, 92, 93, 94, 95, 96, 97, 98, 99, 100, 101, 102, 103, 104, 105, 106, 107, 108, 109, 110, 111, 112, 113, 114, 115, 116, 117, 118, 119, 120, 121, 122, 123, 124, 125, 126, 127, 128, 129, 130, 131] rfl (by decide +kernel)
set_option maxRecDepth 20000 in
theorem gX10_readsUnit_X10_newNamed : GoodIn wsX10_readsUnit (wsV RX10 162 RX10 yX10_newNamed wsX10_newNamed) := goodIn_app (goodIn_of _ (by decide +kernel)) ggX10_readsUnit_X10_newNamed
theorem dX10_readsUnit_0 : decode cX10_readsUnit 0 = .ok (.aload_n 0, 1) := by decide +kernel
theorem dX10_readsUnit_1 : decode cX10_readsUnit 1 = .ok (.getfield 48, 3) := by decide +kernel
theorem dX10_readsUnit_4 : decode cX10_readsUnit 4 = .ok (.aload_n 0, 1) := by decide +kernel
theorem dX10_readsUnit_5 : decode cX10_readsUnit 5 = .ok (.getfield 149, 3) := by decide +kernel
theorem dX10_readsUnit_8 : decode cX10_readsUnit 8 = .ok (.iconst (-1), 1) := by decide +kernel
theorem dX10_readsUnit_9 : decode cX10_readsUnit 9 = .ok (.iastore, 1) := by decide +kernel
theorem dX10_readsUnit_10 : decode cX10_readsUnit 10 = .ok (.aload_n 0, 1) := by decide +kernel
theorem dX10_readsUnit_11 : decode cX10_readsUnit 11 = .ok (.invokevirtual 155, 3) := by decide +kernel
theorem dX10_readsUnit_14 : decode cX10_readsUnit 14 = .ok (.ifCond .ne 5, 3) := by decide +kernel
theorem dX10_readsUnit_17 : decode cX10_readsUnit 17 = .ok (.iconst 1, 1) := by decide +kernel
theorem dX10_readsUnit_18 : decode cX10_readsUnit 18 = .ok (.ireturn, 1) := by decide +kernel
theorem dX10_readsUnit_19 : decode cX10_readsUnit 19 = .ok (.aload_n 0, 1) := by decide +kernel
theorem dX10_readsUnit_20 : decode cX10_readsUnit 20 = .ok (.ldc 146, 2) := by decide +kernel
theorem dX10_readsUnit_22 : decode cX10_readsUnit 22 = .ok (.invokevirtual 138, 3) := by decide +kernel
theorem dX10_readsUnit_25 : decode cX10_readsUnit 25 = .ok (.ifCond .ne 5, 3) := by decide +kernel
theorem dX10_readsUnit_28 : decode cX10_readsUnit 28 = .ok (.iconst 0, 1) := by decide +kernel
theorem dX10_readsUnit_29 : decode cX10_readsUnit 29 = .ok (.ireturn, 1) := by decide +kernel
theorem dX10_readsUnit_30 : decode cX10_readsUnit 30 = .ok (.aload_n 0, 1) := by decide +kernel
theorem dX10_readsUnit_31 : decode cX10_readsUnit 31 = .ok (.invokevirtual 155, 3) := by decide +kernel
theorem dX10_readsUnit_34 : decode cX10_readsUnit 34 = .ok (.ifCond .ne 5, 3) := by decide +kernel
theorem dX10_readsUnit_37 : decode cX10_readsUnit 37 = .ok (.iconst 0, 1) := by decide +kernel
theorem dX10_readsUnit_38 : decode cX10_readsUnit 38 = .ok (.ireturn, 1) := by decide +kernel
theorem dX10_readsUnit_39 : decode cX10_readsUnit 39 = .ok (.aload_n 0, 1) := by decide +kernel
theorem dX10_readsUnit_40 : decode cX10_readsUnit 40 = .ok (.invokevirtual 162, 3) := by decide +kernel
theorem dX10_readsUnit_43 : decode cX10_readsUnit 43 = .ok (.istore_n 1, 1) := by decide +kernel
theorem dX10_readsUnit_44 : decode cX10_readsUnit 44 = .ok (.iload_n 1, 1) := by decide +kernel
theorem dX10_readsUnit_45 : decode cX10_readsUnit 45 = .ok (.iconst (-1), 1) := by decide +kernel
theorem dX10_readsUnit_46 : decode cX10_readsUnit 46 = .ok (.if_icmp .eq 35, 3) := by decide +kernel
theorem dX10_readsUnit_49 : decode cX10_readsUnit 49 = .ok (.iload_n 1, 1) := by decide +kernel
theorem dX10_readsUnit_50 : decode cX10_readsUnit 50 = .ok (.bipush 10, 2) := by decide +kernel
theorem dX10_readsUnit_52 : decode cX10_readsUnit 52 = .ok (.if_icmp .ge 29, 3) := by decide +kernel
theorem dX10_readsUnit_55 : decode cX10_readsUnit 55 = .ok (.iload_n 1, 1) := by decide +kernel
theorem dX10_readsUnit_56 : decode cX10_readsUnit 56 = .ok (.aload_n 0, 1) := by decide +kernel
theorem dX10_readsUnit_57 : decode cX10_readsUnit 57 = .ok (.getfield 149, 3) := by decide +kernel
theorem dX10_readsUnit_60 : decode cX10_readsUnit 60 = .ok (.if_icmp .ge 21, 3) := by decide +kernel
theorem dX10_readsUnit_63 : decode cX10_readsUnit 63 = .ok (.aload_n 0, 1) := by decide +kernel
theorem dX10_readsUnit_64 : decode cX10_readsUnit 64 = .ok (.getfield 42, 3) := by decide +kernel
theorem dX10_readsUnit_67 : decode cX10_readsUnit 67 = .ok (.iload_n 1, 1) := by decide +kernel
theorem dX10_readsUnit_68 : decode cX10_readsUnit 68 = .ok (.iaload, 1) := by decide +kernel
theorem dX10_readsUnit_69 : decode cX10_readsUnit 69 = .ok (.ifCond .ne 12, 3) := by decide +kernel
theorem dX10_readsUnit_72 : decode cX10_readsUnit 72 = .ok (.aload_n 0, 1) := by decide +kernel
theorem dX10_readsUnit_73 : decode cX10_readsUnit 73 = .ok (.getfield 45, 3) := by decide +kernel
theorem dX10_readsUnit_76 : decode cX10_readsUnit 76 = .ok (.iload_n 1, 1) := by decide +kernel
theorem dX10_readsUnit_77 : decode cX10_readsUnit 77 = .ok (.iaload, 1) := by decide +kernel
theorem dX10_readsUnit_78 : decode cX10_readsUnit 78 = .ok (.ifCond .eq 5, 3) := by decide +kernel
theorem dX10_readsUnit_81 : decode cX10_readsUnit 81 = .ok (.iconst 0, 1) := by decide +kernel
theorem dX10_readsUnit_82 : decode cX10_readsUnit 82 = .ok (.ireturn, 1) := by decide +kernel
theorem dX10_readsUnit_83 : decode cX10_readsUnit 83 = .ok (.aload_n 0, 1) := by decide +kernel
theorem dX10_readsUnit_84 : decode cX10_readsUnit 84 = .ok (.getfield 48, 3) := by decide +kernel
theorem dX10_readsUnit_87 : decode cX10_readsUnit 87 = .ok (.aload_n 0, 1) := by decide +kernel
theorem dX10_readsUnit_88 : decode cX10_readsUnit 88 = .ok (.getfield 149, 3) := by decide +kernel
theorem dX10_readsUnit_91 : decode cX10_readsUnit 91 = .ok (.iload_n 1, 1) := by decide +kernel
theorem dX10_readsUnit_92 : decode cX10_readsUnit 92 = .ok (.iastore, 1) := by decide +kernel
theorem dX10_readsUnit_93 : decode cX10_readsUnit 93 = .ok (.iconst 1, 1) := by decide +kernel
theorem dX10_readsUnit_94 : decode cX10_readsUnit 94 = .ok (.ireturn, 1) := by decide +kernel
set_option maxRecDepth 20000 in
theorem ggX10_readsClause_X10_word : GoodIn wsX10_readsClause wsX10_word := goodIn_r _ [10, 11, 12, 13, 14, 15, 9, 16, 17, 18, 19, 20, 21, 22, 105, 106, 107, 108, 109, 110, 111, 112, 113, 114, 115, 116, 117, 118, 119, 120, 121, 122, 123, 124, 125, 126, 127, 128, 129, 130, 131, 132, 133, 134, 135, 136, 137, 138, 139, 140, 141, 142, 143, 144, 145, 146, 147, 148, 149, 150, 151, 152, 153, 154] rfl (by decide +kernel)
set_option maxRecDepth 20000 in
theorem gX10_readsClause_X10_word : GoodIn wsX10_readsClause (wsV RX10 155 RX10 yX10_word wsX10_word) := goodIn_app (goodIn_of _ (by decide +kernel)) ggX10_readsClause_X10_word
set_option maxRecDepth 20000 in
theorem ggX10_readsClause_X10_isWord : GoodIn wsX10_readsClause wsX10_isWord := goodIn_r _ [26, 11, 12, 22, 27, 28, 29, 30, 31, 32, 33, 34, 35, 36, 37, 38, 39, 40, 41, 42, 43, 44, 45, 46, 47, 48, 49, 50, 51, 52, 53, 54, 55, 56, 57, 58, 59, 60, 61, 62, 63, 64, 65, 66, 67, 68, 69, 70, 71, 72, 73, 74, 75, 105, 106, 107, 108, 109, 110, 111, 112, 113, 114, 115, 116, 117, 118, 119, 120, 121, 122, 123, 124, 125, 126, 127, 128, 129, 130, 131, 132, 133, 134, 135, 136, 137, 138, 139, 140, 141, 142, 143, 144, 145, 146, 147, 148, 149, 150, 151, 152, 153, 154] rfl (by decide +kernel)
set_option maxRecDepth 20000 in
theorem gX10_readsClause_X10_isWord : GoodIn wsX10_readsClause (wsV RX10 138 RX10 yX10_isWord wsX10_isWord) := goodIn_app (goodIn_of _ (by decide +kernel)) ggX10_readsClause_X10_isWord
set_option maxRecDepth 20000 in
theorem ggX10_readsClause_X10_readsName : GoodIn wsX10_readsClause wsX10_readsName := goodIn_r _ [79, 80, 11, 12, 81, 22, 6, 7, 8, 9, 10, 13, 14, 15, 16, 17, 18, 19, 20, 21, 82, 83, 84, 85, 86, 87, 88, 23, 24, 25, 26, 27, 28, 29, 30, 31, 32, 33, 34, 35, 36, 37, 38, 39, 40, 41, 42, 43, 44, 45, 46, 47, 48, 49, 50, 51, 52, 53, 54, 55, 56, 57, 58, 59, 60, 61, 62, 63, 64, 65, 66, 67, 68, 69, 70, 71, 72, 73, 74, 75, 89, 90, 91, 92, 2, 1, 105, 106, 107, 108, 109, 110, 111, 112, 113, 114, 115, 116, 117, 118, 119, 120, 121, 122, 123, 124, 125, 126, 127, 128, 129, 130, 131, 132, 133, 134, 135, 136, 137, 138, 139, 140, 141, 142, 143, 144, 145, 146, 147, 148, 149, 150, 151, 152, 153, 154] rfl (by decide +kernel)
set_option maxRecDepth 20000 in
theorem gX10_readsClause_X10_readsName : GoodIn wsX10_readsClause (wsV RX10 165 RX10 yX10_readsName wsX10_readsName) := goodIn_app (goodIn_of _ (by decide +kernel)) ggX10_readsClause_X10_readsName
set_option maxRecDepth 20000 in
theorem ggX10_readsClause_X10_takes : GoodIn wsX10_readsClause wsX10_takes := goodIn_r _ [96, 11, 13, 14, 15, 9, 16, 12, 17, 18, 19, 20, 21, 22, 105, 106, 107, 108, 109, 110, 111, 112, 113, 114, 115, 116, 117, 118, 119, 120, 121, 122, 123, 124, 125, 126, 127, 128, 129, 130, 131, 132, 133, 134, 135, 136, 137, 138, 139, 140, 141, 142, 143, 144, 145, 146, 147, 148, 149, 150, 151, 152, 153, 154] rfl (by decide +kernel)
set_option maxRecDepth 20000 in
theorem gX10_readsClause_X10_takes : GoodIn wsX10_readsClause (wsV RX10 169 RX10 yX10_takes wsX10_takes) := goodIn_app (goodIn_of _ (by decide +kernel)) ggX10_readsClause_X10_takes
set_option maxRecDepth 20000 in
theorem ggX10_readsClause_X10_readsNumber : GoodIn wsX10_readsClause wsX10_readsNumber := goodIn_r _ [100, 22, 11, 5, 2, 12, 13, 14, 15, 9, 16, 17, 18, 19, 20, 21, 105, 106, 107, 108, 109, 110, 111, 112, 113, 114, 115, 116, 117, 118, 119, 120, 121, 122, 123, 124, 125, 126, 127, 128, 129, 130, 131, 132, 133, 134, 135, 136, 137, 138, 139, 140, 141, 142, 143, 144, 145, 146, 147, 148, 149, 150, 151, 152, 153, 154] rfl (by decide +kernel)
set_option maxRecDepth 20000 in
theorem gX10_readsClause_X10_readsNumber : GoodIn wsX10_readsClause (wsV RX10 172 RX10 yX10_readsNumber wsX10_readsNumber) := goodIn_app (goodIn_of _ (by decide +kernel)) ggX10_readsClause_X10_readsNumber
set_option maxRecDepth 20000 in
theorem ggX10_readsClause_X10_readsUnit : GoodIn wsX10_readsClause wsX10_readsUnit := goodIn_r _ [104, 4, 2, 3, 5, 6, 7, 8, 9, 10, 11, 12, 13, 14, 15, 16, 17, 18, 19, 20, 21, 22, 23, 24, 25, 26, 27, 28, 29, 30, 31, 32, 33, 34, 35, 36, 37, 38, 39, 40, 41, 42, 43, 44, 45, 46, 47, 48, 49, 50, 51, 52, 53, 54, 55, 56, 57, 58, 59, 60, 61, 62, 63, 64, 65, 66, 67, 68, 69, 70, 71, 72, 73, 74, 75, 89, 90, 91, 92, 1, 80, 81, 105, 106, 107, 108, 109, 110, 111, 112, 113, 114, 115, 116, 117, 118, 119, 120, 121, 122, 123, 124, 125, 126, 127, 128, 129, 130, 131, 132, 133, 134, 135, 136, 137, 138, 139, 140, 141, 142, 143, 144, 145, 146, 147, 148, 149, 150, 151, 152, 153, 154] rfl (by decide +kernel)
set_option maxRecDepth 20000 in
theorem gX10_readsClause_X10_readsUnit : GoodIn wsX10_readsClause (wsV RX10 175 RX10 yX10_readsUnit wsX10_readsUnit) := goodIn_app (goodIn_of _ (by decide +kernel)) ggX10_readsClause_X10_readsUnit
theorem dX10_readsClause_0 : decode cX10_readsClause 0 = .ok (.aload_n 0, 1) := by decide +kernel
theorem dX10_readsClause_1 : decode cX10_readsClause 1 = .ok (.invokevirtual 155, 3) := by decide +kernel
theorem dX10_readsClause_4 : decode cX10_readsClause 4 = .ok (.istore_n 1, 1) := by decide +kernel
theorem dX10_readsClause_5 : decode cX10_readsClause 5 = .ok (.iload_n 1, 1) := by decide +kernel
theorem dX10_readsClause_6 : decode cX10_readsClause 6 = .ok (.ifCond .eq 16, 3) := by decide +kernel
theorem dX10_readsClause_9 : decode cX10_readsClause 9 = .ok (.aload_n 0, 1) := by decide +kernel
theorem dX10_readsClause_10 : decode cX10_readsClause 10 = .ok (.ldc 147, 2) := by decide +kernel
theorem dX10_readsClause_12 : decode cX10_readsClause 12 = .ok (.invokevirtual 138, 3) := by decide +kernel
theorem dX10_readsClause_15 : decode cX10_readsClause 15 = .ok (.ifCond .eq 7, 3) := by decide +kernel
theorem dX10_readsClause_18 : decode cX10_readsClause 18 = .ok (.iconst 1, 1) := by decide +kernel
theorem dX10_readsClause_19 : decode cX10_readsClause 19 = .ok (.goto 4, 3) := by decide +kernel
theorem dX10_readsClause_22 : decode cX10_readsClause 22 = .ok (.iconst 0, 1) := by decide +kernel
theorem dX10_readsClause_23 : decode cX10_readsClause 23 = .ok (.istore_n 2, 1) := by decide +kernel
theorem dX10_readsClause_24 : decode cX10_readsClause 24 = .ok (.iload_n 1, 1) := by decide +kernel
theorem dX10_readsClause_25 : decode cX10_readsClause 25 = .ok (.ifCond .ne 7, 3) := by decide +kernel
theorem dX10_readsClause_28 : decode cX10_readsClause 28 = .ok (.iconst (-1), 1) := by decide +kernel
theorem dX10_readsClause_29 : decode cX10_readsClause 29 = .ok (.goto 43, 3) := by decide +kernel
theorem dX10_readsClause_32 : decode cX10_readsClause 32 = .ok (.aload_n 0, 1) := by decide +kernel
theorem dX10_readsClause_33 : decode cX10_readsClause 33 = .ok (.ldc 136, 2) := by decide +kernel
theorem dX10_readsClause_35 : decode cX10_readsClause 35 = .ok (.invokevirtual 138, 3) := by decide +kernel
theorem dX10_readsClause_38 : decode cX10_readsClause 38 = .ok (.ifCond .eq 7, 3) := by decide +kernel
theorem dX10_readsClause_41 : decode cX10_readsClause 41 = .ok (.iconst 0, 1) := by decide +kernel
theorem dX10_readsClause_42 : decode cX10_readsClause 42 = .ok (.goto 30, 3) := by decide +kernel
theorem dX10_readsClause_45 : decode cX10_readsClause 45 = .ok (.aload_n 0, 1) := by decide +kernel
theorem dX10_readsClause_46 : decode cX10_readsClause 46 = .ok (.ldc 142, 2) := by decide +kernel
theorem dX10_readsClause_48 : decode cX10_readsClause 48 = .ok (.invokevirtual 138, 3) := by decide +kernel
theorem dX10_readsClause_51 : decode cX10_readsClause 51 = .ok (.ifCond .eq 7, 3) := by decide +kernel
theorem dX10_readsClause_54 : decode cX10_readsClause 54 = .ok (.iconst 1, 1) := by decide +kernel
theorem dX10_readsClause_55 : decode cX10_readsClause 55 = .ok (.goto 17, 3) := by decide +kernel
theorem dX10_readsClause_58 : decode cX10_readsClause 58 = .ok (.aload_n 0, 1) := by decide +kernel
theorem dX10_readsClause_59 : decode cX10_readsClause 59 = .ok (.ldc 144, 2) := by decide +kernel
theorem dX10_readsClause_61 : decode cX10_readsClause 61 = .ok (.invokevirtual 138, 3) := by decide +kernel
theorem dX10_readsClause_64 : decode cX10_readsClause 64 = .ok (.ifCond .eq 7, 3) := by decide +kernel
theorem dX10_readsClause_67 : decode cX10_readsClause 67 = .ok (.iconst 2, 1) := by decide +kernel
theorem dX10_readsClause_68 : decode cX10_readsClause 68 = .ok (.goto 4, 3) := by decide +kernel
theorem dX10_readsClause_71 : decode cX10_readsClause 71 = .ok (.iconst (-1), 1) := by decide +kernel
theorem dX10_readsClause_72 : decode cX10_readsClause 72 = .ok (.istore_n 3, 1) := by decide +kernel
theorem dX10_readsClause_73 : decode cX10_readsClause 73 = .ok (.iload_n 2, 1) := by decide +kernel
theorem dX10_readsClause_74 : decode cX10_readsClause 74 = .ok (.ifCond .ne 8, 3) := by decide +kernel
theorem dX10_readsClause_77 : decode cX10_readsClause 77 = .ok (.iload_n 3, 1) := by decide +kernel
theorem dX10_readsClause_78 : decode cX10_readsClause 78 = .ok (.iconst (-1), 1) := by decide +kernel
theorem dX10_readsClause_79 : decode cX10_readsClause 79 = .ok (.if_icmp .eq 27, 3) := by decide +kernel
theorem dX10_readsClause_82 : decode cX10_readsClause 82 = .ok (.iload_n 2, 1) := by decide +kernel
theorem dX10_readsClause_83 : decode cX10_readsClause 83 = .ok (.ifCond .eq 14, 3) := by decide +kernel
theorem dX10_readsClause_86 : decode cX10_readsClause 86 = .ok (.aload_n 0, 1) := by decide +kernel
theorem dX10_readsClause_87 : decode cX10_readsClause 87 = .ok (.getfield 152, 3) := by decide +kernel
theorem dX10_readsClause_90 : decode cX10_readsClause 90 = .ok (.iconst 5, 1) := by decide +kernel
theorem dX10_readsClause_91 : decode cX10_readsClause 91 = .ok (.if_icmp .ne 17, 3) := by decide +kernel
theorem dX10_readsClause_94 : decode cX10_readsClause 94 = .ok (.goto 12, 3) := by decide +kernel
theorem dX10_readsClause_97 : decode cX10_readsClause 97 = .ok (.aload_n 0, 1) := by decide +kernel
theorem dX10_readsClause_98 : decode cX10_readsClause 98 = .ok (.getfield 149, 3) := by decide +kernel
theorem dX10_readsClause_101 : decode cX10_readsClause 101 = .ok (.bipush 10, 2) := by decide +kernel
theorem dX10_readsClause_103 : decode cX10_readsClause 103 = .ok (.if_icmp .ne 5, 3) := by decide +kernel
theorem dX10_readsClause_106 : decode cX10_readsClause 106 = .ok (.iconst 0, 1) := by decide +kernel
theorem dX10_readsClause_107 : decode cX10_readsClause 107 = .ok (.ireturn, 1) := by decide +kernel
theorem dX10_readsClause_108 : decode cX10_readsClause 108 = .ok (.aload_n 0, 1) := by decide +kernel
theorem dX10_readsClause_109 : decode cX10_readsClause 109 = .ok (.iload_n 2, 1) := by decide +kernel
theorem dX10_readsClause_110 : decode cX10_readsClause 110 = .ok (.ifCond .eq 13, 3) := by decide +kernel
theorem dX10_readsClause_113 : decode cX10_readsClause 113 = .ok (.bipush 10, 2) := by decide +kernel
theorem dX10_readsClause_115 : decode cX10_readsClause 115 = .ok (.aload_n 0, 1) := by decide +kernel
theorem dX10_readsClause_116 : decode cX10_readsClause 116 = .ok (.getfield 152, 3) := by decide +kernel
theorem dX10_readsClause_119 : decode cX10_readsClause 119 = .ok (.iadd, 1) := by decide +kernel
theorem dX10_readsClause_120 : decode cX10_readsClause 120 = .ok (.goto 7, 3) := by decide +kernel
theorem dX10_readsClause_123 : decode cX10_readsClause 123 = .ok (.aload_n 0, 1) := by decide +kernel
theorem dX10_readsClause_124 : decode cX10_readsClause 124 = .ok (.getfield 149, 3) := by decide +kernel
theorem dX10_readsClause_127 : decode cX10_readsClause 127 = .ok (.invokevirtual 165, 3) := by decide +kernel
theorem dX10_readsClause_130 : decode cX10_readsClause 130 = .ok (.ifCond .ne 5, 3) := by decide +kernel
theorem dX10_readsClause_133 : decode cX10_readsClause 133 = .ok (.iconst 0, 1) := by decide +kernel
theorem dX10_readsClause_134 : decode cX10_readsClause 134 = .ok (.ireturn, 1) := by decide +kernel
theorem dX10_readsClause_135 : decode cX10_readsClause 135 = .ok (.iload_n 2, 1) := by decide +kernel
theorem dX10_readsClause_136 : decode cX10_readsClause 136 = .ok (.ifCond .eq 20, 3) := by decide +kernel
theorem dX10_readsClause_139 : decode cX10_readsClause 139 = .ok (.aload_n 0, 1) := by decide +kernel
theorem dX10_readsClause_140 : decode cX10_readsClause 140 = .ok (.dup, 1) := by decide +kernel
theorem dX10_readsClause_141 : decode cX10_readsClause 141 = .ok (.getfield 152, 3) := by decide +kernel
theorem dX10_readsClause_144 : decode cX10_readsClause 144 = .ok (.iconst 1, 1) := by decide +kernel
theorem dX10_readsClause_145 : decode cX10_readsClause 145 = .ok (.iadd, 1) := by decide +kernel
theorem dX10_readsClause_146 : decode cX10_readsClause 146 = .ok (.putfield 152, 3) := by decide +kernel
theorem dX10_readsClause_149 : decode cX10_readsClause 149 = .ok (.aload_n 0, 1) := by decide +kernel
theorem dX10_readsClause_150 : decode cX10_readsClause 150 = .ok (.bipush 59, 2) := by decide +kernel
theorem dX10_readsClause_152 : decode cX10_readsClause 152 = .ok (.invokevirtual 169, 3) := by decide +kernel
theorem dX10_readsClause_155 : decode cX10_readsClause 155 = .ok (.ireturn, 1) := by decide +kernel
theorem dX10_readsClause_156 : decode cX10_readsClause 156 = .ok (.aload_n 0, 1) := by decide +kernel
theorem dX10_readsClause_157 : decode cX10_readsClause 157 = .ok (.getfield 42, 3) := by decide +kernel
theorem dX10_readsClause_160 : decode cX10_readsClause 160 = .ok (.aload_n 0, 1) := by decide +kernel
theorem dX10_readsClause_161 : decode cX10_readsClause 161 = .ok (.getfield 149, 3) := by decide +kernel
theorem dX10_readsClause_164 : decode cX10_readsClause 164 = .ok (.iload_n 3, 1) := by decide +kernel
theorem dX10_readsClause_165 : decode cX10_readsClause 165 = .ok (.iastore, 1) := by decide +kernel
theorem dX10_readsClause_166 : decode cX10_readsClause 166 = .ok (.aload_n 0, 1) := by decide +kernel
theorem dX10_readsClause_167 : decode cX10_readsClause 167 = .ok (.getfield 48, 3) := by decide +kernel
theorem dX10_readsClause_170 : decode cX10_readsClause 170 = .ok (.aload_n 0, 1) := by decide +kernel
theorem dX10_readsClause_171 : decode cX10_readsClause 171 = .ok (.getfield 149, 3) := by decide +kernel
theorem dX10_readsClause_174 : decode cX10_readsClause 174 = .ok (.iconst (-1), 1) := by decide +kernel
theorem dX10_readsClause_175 : decode cX10_readsClause 175 = .ok (.iastore, 1) := by decide +kernel
theorem dX10_readsClause_176 : decode cX10_readsClause 176 = .ok (.aload_n 0, 1) := by decide +kernel
theorem dX10_readsClause_177 : decode cX10_readsClause 177 = .ok (.getfield 45, 3) := by decide +kernel
theorem dX10_readsClause_180 : decode cX10_readsClause 180 = .ok (.aload_n 0, 1) := by decide +kernel
theorem dX10_readsClause_181 : decode cX10_readsClause 181 = .ok (.getfield 149, 3) := by decide +kernel
theorem dX10_readsClause_184 : decode cX10_readsClause 184 = .ok (.iconst 2, 1) := by decide +kernel
theorem dX10_readsClause_185 : decode cX10_readsClause 185 = .ok (.iastore, 1) := by decide +kernel
theorem dX10_readsClause_186 : decode cX10_readsClause 186 = .ok (.iload_n 3, 1) := by decide +kernel
theorem dX10_readsClause_187 : decode cX10_readsClause 187 = .ok (.ifCond .ne 10, 3) := by decide +kernel
theorem dX10_readsClause_190 : decode cX10_readsClause 190 = .ok (.aload_n 0, 1) := by decide +kernel
theorem dX10_readsClause_191 : decode cX10_readsClause 191 = .ok (.invokevirtual 172, 3) := by decide +kernel
theorem dX10_readsClause_194 : decode cX10_readsClause 194 = .ok (.ifCond .eq 15, 3) := by decide +kernel
theorem dX10_readsClause_197 : decode cX10_readsClause 197 = .ok (.iload_n 3, 1) := by decide +kernel
theorem dX10_readsClause_198 : decode cX10_readsClause 198 = .ok (.iconst 2, 1) := by decide +kernel
theorem dX10_readsClause_199 : decode cX10_readsClause 199 = .ok (.if_icmp .ne 12, 3) := by decide +kernel
theorem dX10_readsClause_202 : decode cX10_readsClause 202 = .ok (.aload_n 0, 1) := by decide +kernel
theorem dX10_readsClause_203 : decode cX10_readsClause 203 = .ok (.invokevirtual 175, 3) := by decide +kernel
theorem dX10_readsClause_206 : decode cX10_readsClause 206 = .ok (.ifCond .ne 5, 3) := by decide +kernel
theorem dX10_readsClause_209 : decode cX10_readsClause 209 = .ok (.iconst 0, 1) := by decide +kernel
theorem dX10_readsClause_210 : decode cX10_readsClause 210 = .ok (.ireturn, 1) := by decide +kernel
theorem dX10_readsClause_211 : decode cX10_readsClause 211 = .ok (.aload_n 0, 1) := by decide +kernel
theorem dX10_readsClause_212 : decode cX10_readsClause 212 = .ok (.dup, 1) := by decide +kernel
theorem dX10_readsClause_213 : decode cX10_readsClause 213 = .ok (.getfield 149, 3) := by decide +kernel
theorem dX10_readsClause_216 : decode cX10_readsClause 216 = .ok (.iconst 1, 1) := by decide +kernel
theorem dX10_readsClause_217 : decode cX10_readsClause 217 = .ok (.iadd, 1) := by decide +kernel
theorem dX10_readsClause_218 : decode cX10_readsClause 218 = .ok (.putfield 149, 3) := by decide +kernel
theorem dX10_readsClause_221 : decode cX10_readsClause 221 = .ok (.aload_n 0, 1) := by decide +kernel
theorem dX10_readsClause_222 : decode cX10_readsClause 222 = .ok (.bipush 59, 2) := by decide +kernel
theorem dX10_readsClause_224 : decode cX10_readsClause 224 = .ok (.invokevirtual 169, 3) := by decide +kernel
theorem dX10_readsClause_227 : decode cX10_readsClause 227 = .ok (.ireturn, 1) := by decide +kernel
theorem dX10_begins_0 : decode cX10_begins 0 = .ok (.aload_n 0, 1) := by decide +kernel
theorem dX10_begins_1 : decode cX10_begins 1 = .ok (.iconst 0, 1) := by decide +kernel
theorem dX10_begins_2 : decode cX10_begins 2 = .ok (.putfield 100, 3) := by decide +kernel
theorem dX10_begins_5 : decode cX10_begins 5 = .ok (.aload_n 0, 1) := by decide +kernel
theorem dX10_begins_6 : decode cX10_begins 6 = .ok (.aload_n 0, 1) := by decide +kernel
theorem dX10_begins_7 : decode cX10_begins 7 = .ok (.getfield 103, 3) := by decide +kernel
theorem dX10_begins_10 : decode cX10_begins 10 = .ok (.putfield 109, 3) := by decide +kernel
theorem dX10_begins_13 : decode cX10_begins 13 = .ok (.aload_n 0, 1) := by decide +kernel
theorem dX10_begins_14 : decode cX10_begins 14 = .ok (.iconst 0, 1) := by decide +kernel
theorem dX10_begins_15 : decode cX10_begins 15 = .ok (.putfield 103, 3) := by decide +kernel
theorem dX10_begins_18 : decode cX10_begins 18 = .ok (.aload_n 0, 1) := by decide +kernel
theorem dX10_begins_19 : decode cX10_begins 19 = .ok (.iconst 0, 1) := by decide +kernel
theorem dX10_begins_20 : decode cX10_begins 20 = .ok (.putfield 106, 3) := by decide +kernel
theorem dX10_begins_23 : decode cX10_begins 23 = .ok (.aload_n 0, 1) := by decide +kernel
theorem dX10_begins_24 : decode cX10_begins 24 = .ok (.iconst (-1), 1) := by decide +kernel
theorem dX10_begins_25 : decode cX10_begins 25 = .ok (.putfield 17, 3) := by decide +kernel
theorem dX10_begins_28 : decode cX10_begins 28 = .ok (.aload_n 0, 1) := by decide +kernel
theorem dX10_begins_29 : decode cX10_begins 29 = .ok (.iconst 0, 1) := by decide +kernel
theorem dX10_begins_30 : decode cX10_begins 30 = .ok (.putfield 178, 3) := by decide +kernel
theorem dX10_begins_33 : decode cX10_begins 33 = .ok (.return_, 1) := by decide +kernel
theorem dX10_wrong_0 : decode cX10_wrong 0 = .ok (.aload_n 0, 1) := by decide +kernel
theorem dX10_wrong_1 : decode cX10_wrong 1 = .ok (.aload_n 0, 1) := by decide +kernel
theorem dX10_wrong_2 : decode cX10_wrong 2 = .ok (.getfield 116, 3) := by decide +kernel
theorem dX10_wrong_5 : decode cX10_wrong 5 = .ok (.putfield 17, 3) := by decide +kernel
theorem dX10_wrong_8 : decode cX10_wrong 8 = .ok (.aload_n 0, 1) := by decide +kernel
theorem dX10_wrong_9 : decode cX10_wrong 9 = .ok (.iconst 1, 1) := by decide +kernel
theorem dX10_wrong_10 : decode cX10_wrong 10 = .ok (.putfield 100, 3) := by decide +kernel
theorem dX10_wrong_13 : decode cX10_wrong 13 = .ok (.iconst 0, 1) := by decide +kernel
theorem dX10_wrong_14 : decode cX10_wrong 14 = .ok (.ireturn, 1) := by decide +kernel
set_option maxRecDepth 20000 in
theorem ggX10_signature_X10_begins : GoodIn wsX10_signature wsX10_begins := goodIn_r _ [25, 26, 27, 4, 3, 28, 29, 132, 133, 134, 135, 136, 137, 138, 139, 140, 141, 142, 143, 144, 145, 146, 147, 148, 149, 150, 151, 152, 153, 154, 155, 156, 157, 158, 159, 160, 161, 162, 163, 164, 165, 166, 167, 168, 169, 170, 171, 172, 173, 174, 175, 176, 177, 178, 179, 180, 181] rfl (by decide +kernel)
set_option maxRecDepth 20000 in
theorem gX10_signature_X10_begins : GoodIn wsX10_signature (wsV RX10 181 RX10 yX10_begins wsX10_begins) := goodIn_app (goodIn_of _ (by decide +kernel)) ggX10_signature_X10_begins
set_option maxRecDepth 20000 in
theorem ggX10_signature_X10_blanks : GoodIn wsX10_signature wsX10_blanks := goodIn_r _ [33, 3, 34, 35, 36, 37, 24, 38, 4, 39, 132, 133, 134, 135, 136, 137, 138, 139, 140, 141, 142, 143, 144, 145, 146, 147, 148, 149, 150, 151, 152, 153, 154, 155, 156, 157, 158, 159, 160, 161, 162, 163, 164, 165, 166, 167, 168, 169, 170, 171, 172, 173, 174, 175, 176, 177, 178, 179, 180, 181] rfl (by decide +kernel)
set_option maxRecDepth 20000 in
theorem gX10_signature_X10_blanks : GoodIn wsX10_signature (wsV RX10 119 RX10 yX10_blanks wsX10_blanks) := goodIn_app (goodIn_of _ (by decide +kernel)) ggX10_signature_X10_blanks
set_option maxRecDepth 20000 in
theorem ggX10_signature_X10_readsClause : GoodIn wsX10_signature wsX10_readsClause := goodIn_r _ [43, 2, 1, 8, 12, 10, 44, 45, 46, 24, 47, 3, 34, 30, 31, 32, 33, 35, 36, 37, 38, 4, 39, 48, 49, 50, 51, 52, 53, 54, 55, 56, 57, 58, 59, 60, 61, 62, 63, 64, 65, 66, 67, 68, 69, 70, 71, 72, 73, 74, 75, 76, 77, 78, 79, 80, 81, 82, 83, 84, 85, 86, 87, 88, 89, 90, 91, 92, 93, 94, 95, 96, 97, 98, 99, 100, 101, 102, 103, 104, 14, 16, 105, 106, 107, 108, 109, 110, 111, 112, 113, 114, 115, 116, 117, 118, 119, 120, 121, 122, 123, 124, 125, 126, 127, 132, 133, 134, 135, 136, 137, 138, 139, 140, 141, 142, 143, 144, 145, 146, 147, 148, 149, 150, 151, 152, 153, 154, 155, 156, 157, 158, 159, 160, 161, 162, 163, 164, 165, 166, 167, 168, 169, 170, 171, 172, 173, 174, 175, 176, 177, 178, 179, 180, 181] rfl (by decide +kernel)
set_option maxRecDepth 20000 in
theorem gX10_signature_X10_readsClause : GoodIn wsX10_signature (wsV RX10 184 RX10 yX10_readsClause wsX10_readsClause) := goodIn_app (goodIn_of _ (by decide +kernel)) ggX10_signature_X10_readsClause
set_option maxRecDepth 20000 in
theorem ggX10_signature_X10_wrong : GoodIn wsX10_signature wsX10_wrong := goodIn_r _ [131, 34, 28, 26, 132, 133, 134, 135, 136, 137, 138, 139, 140, 141, 142, 143, 144, 145, 146, 147, 148, 149, 150, 151, 152, 153, 154, 155, 156, 157, 158, 159, 160, 161, 162, 163, 164, 165, 166, 167, 168, 169, 170, 171, 172, 173, 174, 175, 176, 177, 178, 179, 180, 181] rfl (by decide +kernel)
set_option maxRecDepth 20000 in
theorem gX10_signature_X10_wrong : GoodIn wsX10_signature (wsV RX10 187 RX10 yX10_wrong wsX10_wrong) := goodIn_app (goodIn_of _ (by decide +kernel)) ggX10_signature_X10_wrong
theorem dX10_signature_0 : decode cX10_signature 0 = .ok (.aload_n 0, 1) := by decide +kernel
theorem dX10_signature_1 : decode cX10_signature 1 = .ok (.invokevirtual 181, 3) := by decide +kernel
theorem dX10_signature_4 : decode cX10_signature 4 = .ok (.aload_n 0, 1) := by decide +kernel
theorem dX10_signature_5 : decode cX10_signature 5 = .ok (.iconst 0, 1) := by decide +kernel
theorem dX10_signature_6 : decode cX10_signature 6 = .ok (.putfield 149, 3) := by decide +kernel
theorem dX10_signature_9 : decode cX10_signature 9 = .ok (.aload_n 0, 1) := by decide +kernel
theorem dX10_signature_10 : decode cX10_signature 10 = .ok (.iconst 0, 1) := by decide +kernel
theorem dX10_signature_11 : decode cX10_signature 11 = .ok (.putfield 152, 3) := by decide +kernel
theorem dX10_signature_14 : decode cX10_signature 14 = .ok (.aload_n 0, 1) := by decide +kernel
theorem dX10_signature_15 : decode cX10_signature 15 = .ok (.invokevirtual 119, 3) := by decide +kernel
theorem dX10_signature_18 : decode cX10_signature 18 = .ok (.aload_n 0, 1) := by decide +kernel
theorem dX10_signature_19 : decode cX10_signature 19 = .ok (.getfield 106, 3) := by decide +kernel
theorem dX10_signature_22 : decode cX10_signature 22 = .ok (.aload_n 0, 1) := by decide +kernel
theorem dX10_signature_23 : decode cX10_signature 23 = .ok (.getfield 109, 3) := by decide +kernel
theorem dX10_signature_26 : decode cX10_signature 26 = .ok (.if_icmp .ge 22, 3) := by decide +kernel
theorem dX10_signature_29 : decode cX10_signature 29 = .ok (.aload_n 0, 1) := by decide +kernel
theorem dX10_signature_30 : decode cX10_signature 30 = .ok (.invokevirtual 184, 3) := by decide +kernel
theorem dX10_signature_33 : decode cX10_signature 33 = .ok (.ifCond .ne 8, 3) := by decide +kernel
theorem dX10_signature_36 : decode cX10_signature 36 = .ok (.aload_n 0, 1) := by decide +kernel
theorem dX10_signature_37 : decode cX10_signature 37 = .ok (.invokevirtual 187, 3) := by decide +kernel
theorem dX10_signature_40 : decode cX10_signature 40 = .ok (.ireturn, 1) := by decide +kernel
theorem dX10_signature_41 : decode cX10_signature 41 = .ok (.aload_n 0, 1) := by decide +kernel
theorem dX10_signature_42 : decode cX10_signature 42 = .ok (.invokevirtual 119, 3) := by decide +kernel
theorem dX10_signature_45 : decode cX10_signature 45 = .ok (.goto (-27), 3) := by decide +kernel
theorem dX10_signature_48 : decode cX10_signature 48 = .ok (.aload_n 0, 1) := by decide +kernel
theorem dX10_signature_49 : decode cX10_signature 49 = .ok (.aload_n 0, 1) := by decide +kernel
theorem dX10_signature_50 : decode cX10_signature 50 = .ok (.getfield 149, 3) := by decide +kernel
theorem dX10_signature_53 : decode cX10_signature 53 = .ok (.putfield 190, 3) := by decide +kernel
theorem dX10_signature_56 : decode cX10_signature 56 = .ok (.aload_n 0, 1) := by decide +kernel
theorem dX10_signature_57 : decode cX10_signature 57 = .ok (.aload_n 0, 1) := by decide +kernel
theorem dX10_signature_58 : decode cX10_signature 58 = .ok (.getfield 152, 3) := by decide +kernel
theorem dX10_signature_61 : decode cX10_signature 61 = .ok (.putfield 193, 3) := by decide +kernel
theorem dX10_signature_64 : decode cX10_signature 64 = .ok (.iconst 0, 1) := by decide +kernel
theorem dX10_signature_65 : decode cX10_signature 65 = .ok (.istore_n 1, 1) := by decide +kernel
theorem dX10_signature_66 : decode cX10_signature 66 = .ok (.iload_n 1, 1) := by decide +kernel
theorem dX10_signature_67 : decode cX10_signature 67 = .ok (.bipush 10, 2) := by decide +kernel
theorem dX10_signature_69 : decode cX10_signature 69 = .ok (.if_icmp .ge 45, 3) := by decide +kernel
theorem dX10_signature_72 : decode cX10_signature 72 = .ok (.aload_n 0, 1) := by decide +kernel
theorem dX10_signature_73 : decode cX10_signature 73 = .ok (.getfield 33, 3) := by decide +kernel
theorem dX10_signature_76 : decode cX10_signature 76 = .ok (.iload_n 1, 1) := by decide +kernel
theorem dX10_signature_77 : decode cX10_signature 77 = .ok (.aload_n 0, 1) := by decide +kernel
theorem dX10_signature_78 : decode cX10_signature 78 = .ok (.getfield 42, 3) := by decide +kernel
theorem dX10_signature_81 : decode cX10_signature 81 = .ok (.iload_n 1, 1) := by decide +kernel
theorem dX10_signature_82 : decode cX10_signature 82 = .ok (.iaload, 1) := by decide +kernel
theorem dX10_signature_83 : decode cX10_signature 83 = .ok (.iastore, 1) := by decide +kernel
theorem dX10_signature_84 : decode cX10_signature 84 = .ok (.aload_n 0, 1) := by decide +kernel
theorem dX10_signature_85 : decode cX10_signature 85 = .ok (.getfield 36, 3) := by decide +kernel
theorem dX10_signature_88 : decode cX10_signature 88 = .ok (.iload_n 1, 1) := by decide +kernel
theorem dX10_signature_89 : decode cX10_signature 89 = .ok (.aload_n 0, 1) := by decide +kernel
theorem dX10_signature_90 : decode cX10_signature 90 = .ok (.getfield 45, 3) := by decide +kernel
theorem dX10_signature_93 : decode cX10_signature 93 = .ok (.iload_n 1, 1) := by decide +kernel
theorem dX10_signature_94 : decode cX10_signature 94 = .ok (.iaload, 1) := by decide +kernel
theorem dX10_signature_95 : decode cX10_signature 95 = .ok (.iastore, 1) := by decide +kernel
theorem dX10_signature_96 : decode cX10_signature 96 = .ok (.aload_n 0, 1) := by decide +kernel
theorem dX10_signature_97 : decode cX10_signature 97 = .ok (.getfield 39, 3) := by decide +kernel
theorem dX10_signature_100 : decode cX10_signature 100 = .ok (.iload_n 1, 1) := by decide +kernel
theorem dX10_signature_101 : decode cX10_signature 101 = .ok (.aload_n 0, 1) := by decide +kernel
theorem dX10_signature_102 : decode cX10_signature 102 = .ok (.getfield 48, 3) := by decide +kernel
theorem dX10_signature_105 : decode cX10_signature 105 = .ok (.iload_n 1, 1) := by decide +kernel
theorem dX10_signature_106 : decode cX10_signature 106 = .ok (.iaload, 1) := by decide +kernel
theorem dX10_signature_107 : decode cX10_signature 107 = .ok (.iastore, 1) := by decide +kernel
theorem dX10_signature_108 : decode cX10_signature 108 = .ok (.iinc 1 1, 3) := by decide +kernel
theorem dX10_signature_111 : decode cX10_signature 111 = .ok (.goto (-45), 3) := by decide +kernel
theorem dX10_signature_114 : decode cX10_signature 114 = .ok (.iconst 0, 1) := by decide +kernel
theorem dX10_signature_115 : decode cX10_signature 115 = .ok (.istore_n 1, 1) := by decide +kernel
theorem dX10_signature_116 : decode cX10_signature 116 = .ok (.iload_n 1, 1) := by decide +kernel
theorem dX10_signature_117 : decode cX10_signature 117 = .ok (.bipush 15, 2) := by decide +kernel
theorem dX10_signature_119 : decode cX10_signature 119 = .ok (.if_icmp .ge 21, 3) := by decide +kernel
theorem dX10_signature_122 : decode cX10_signature 122 = .ok (.aload_n 0, 1) := by decide +kernel
theorem dX10_signature_123 : decode cX10_signature 123 = .ok (.getfield 27, 3) := by decide +kernel
theorem dX10_signature_126 : decode cX10_signature 126 = .ok (.iload_n 1, 1) := by decide +kernel
theorem dX10_signature_127 : decode cX10_signature 127 = .ok (.aload_n 0, 1) := by decide +kernel
theorem dX10_signature_128 : decode cX10_signature 128 = .ok (.getfield 30, 3) := by decide +kernel
theorem dX10_signature_131 : decode cX10_signature 131 = .ok (.iload_n 1, 1) := by decide +kernel
theorem dX10_signature_132 : decode cX10_signature 132 = .ok (.iaload, 1) := by decide +kernel
theorem dX10_signature_133 : decode cX10_signature 133 = .ok (.iastore, 1) := by decide +kernel
theorem dX10_signature_134 : decode cX10_signature 134 = .ok (.iinc 1 1, 3) := by decide +kernel
theorem dX10_signature_137 : decode cX10_signature 137 = .ok (.goto (-21), 3) := by decide +kernel
theorem dX10_signature_140 : decode cX10_signature 140 = .ok (.iconst 0, 1) := by decide +kernel
theorem dX10_signature_141 : decode cX10_signature 141 = .ok (.istore_n 1, 1) := by decide +kernel
theorem dX10_signature_142 : decode cX10_signature 142 = .ok (.iload_n 1, 1) := by decide +kernel
theorem dX10_signature_143 : decode cX10_signature 143 = .ok (.bipush 90, 2) := by decide +kernel
theorem dX10_signature_145 : decode cX10_signature 145 = .ok (.if_icmp .ge 21, 3) := by decide +kernel
theorem dX10_signature_148 : decode cX10_signature 148 = .ok (.aload_n 0, 1) := by decide +kernel
theorem dX10_signature_149 : decode cX10_signature 149 = .ok (.getfield 21, 3) := by decide +kernel
theorem dX10_signature_152 : decode cX10_signature 152 = .ok (.iload_n 1, 1) := by decide +kernel
theorem dX10_signature_153 : decode cX10_signature 153 = .ok (.aload_n 0, 1) := by decide +kernel
theorem dX10_signature_154 : decode cX10_signature 154 = .ok (.getfield 24, 3) := by decide +kernel
theorem dX10_signature_157 : decode cX10_signature 157 = .ok (.iload_n 1, 1) := by decide +kernel
theorem dX10_signature_158 : decode cX10_signature 158 = .ok (.baload, 1) := by decide +kernel
theorem dX10_signature_159 : decode cX10_signature 159 = .ok (.bastore, 1) := by decide +kernel
theorem dX10_signature_160 : decode cX10_signature 160 = .ok (.iinc 1 1, 3) := by decide +kernel
theorem dX10_signature_163 : decode cX10_signature 163 = .ok (.goto (-21), 3) := by decide +kernel
theorem dX10_signature_166 : decode cX10_signature 166 = .ok (.aload_n 0, 1) := by decide +kernel
theorem dX10_signature_167 : decode cX10_signature 167 = .ok (.iconst 0, 1) := by decide +kernel
theorem dX10_signature_168 : decode cX10_signature 168 = .ok (.putfield 196, 3) := by decide +kernel
theorem dX10_signature_171 : decode cX10_signature 171 = .ok (.aload_n 0, 1) := by decide +kernel
theorem dX10_signature_172 : decode cX10_signature 172 = .ok (.iconst 0, 1) := by decide +kernel
theorem dX10_signature_173 : decode cX10_signature 173 = .ok (.putfield 199, 3) := by decide +kernel
theorem dX10_signature_176 : decode cX10_signature 176 = .ok (.aload_n 0, 1) := by decide +kernel
theorem dX10_signature_177 : decode cX10_signature 177 = .ok (.iconst 0, 1) := by decide +kernel
theorem dX10_signature_178 : decode cX10_signature 178 = .ok (.putfield 202, 3) := by decide +kernel
theorem dX10_signature_181 : decode cX10_signature 181 = .ok (.aload_n 0, 1) := by decide +kernel
theorem dX10_signature_182 : decode cX10_signature 182 = .ok (.iconst 0, 1) := by decide +kernel
theorem dX10_signature_183 : decode cX10_signature 183 = .ok (.putfield 206, 3) := by decide +kernel
theorem dX10_signature_186 : decode cX10_signature 186 = .ok (.aload_n 0, 1) := by decide +kernel
theorem dX10_signature_187 : decode cX10_signature 187 = .ok (.getfield 190, 3) := by decide +kernel
theorem dX10_signature_190 : decode cX10_signature 190 = .ok (.ireturn, 1) := by decide +kernel
theorem dX10_named_0 : decode cX10_named 0 = .ok (.iconst 0, 1) := by decide +kernel
theorem dX10_named_1 : decode cX10_named 1 = .ok (.istore_n 1, 1) := by decide +kernel
theorem dX10_named_2 : decode cX10_named 2 = .ok (.iload_n 1, 1) := by decide +kernel
theorem dX10_named_3 : decode cX10_named 3 = .ok (.bipush 15, 2) := by decide +kernel
theorem dX10_named_5 : decode cX10_named 5 = .ok (.if_icmp .ge 123, 3) := by decide +kernel
theorem dX10_named_8 : decode cX10_named 8 = .ok (.iload_n 1, 1) := by decide +kernel
theorem dX10_named_9 : decode cX10_named 9 = .ok (.bipush 10, 2) := by decide +kernel
theorem dX10_named_11 : decode cX10_named 11 = .ok (.if_icmp .ge 14, 3) := by decide +kernel
theorem dX10_named_14 : decode cX10_named 14 = .ok (.iload_n 1, 1) := by decide +kernel
theorem dX10_named_15 : decode cX10_named 15 = .ok (.aload_n 0, 1) := by decide +kernel
theorem dX10_named_16 : decode cX10_named 16 = .ok (.getfield 190, 3) := by decide +kernel
theorem dX10_named_19 : decode cX10_named 19 = .ok (.if_icmp .lt 20, 3) := by decide +kernel
theorem dX10_named_22 : decode cX10_named 22 = .ok (.goto 100, 3) := by decide +kernel
theorem dX10_named_25 : decode cX10_named 25 = .ok (.iload_n 1, 1) := by decide +kernel
theorem dX10_named_26 : decode cX10_named 26 = .ok (.bipush 10, 2) := by decide +kernel
theorem dX10_named_28 : decode cX10_named 28 = .ok (.isub, 1) := by decide +kernel
theorem dX10_named_29 : decode cX10_named 29 = .ok (.aload_n 0, 1) := by decide +kernel
theorem dX10_named_30 : decode cX10_named 30 = .ok (.getfield 193, 3) := by decide +kernel
theorem dX10_named_33 : decode cX10_named 33 = .ok (.if_icmp .lt 6, 3) := by decide +kernel
theorem dX10_named_36 : decode cX10_named 36 = .ok (.goto 86, 3) := by decide +kernel
theorem dX10_named_39 : decode cX10_named 39 = .ok (.aload_n 0, 1) := by decide +kernel
theorem dX10_named_40 : decode cX10_named 40 = .ok (.getfield 106, 3) := by decide +kernel
theorem dX10_named_43 : decode cX10_named 43 = .ok (.aload_n 0, 1) := by decide +kernel
theorem dX10_named_44 : decode cX10_named 44 = .ok (.getfield 116, 3) := by decide +kernel
theorem dX10_named_47 : decode cX10_named 47 = .ok (.isub, 1) := by decide +kernel
theorem dX10_named_48 : decode cX10_named 48 = .ok (.aload_n 0, 1) := by decide +kernel
theorem dX10_named_49 : decode cX10_named 49 = .ok (.getfield 27, 3) := by decide +kernel
theorem dX10_named_52 : decode cX10_named 52 = .ok (.iload_n 1, 1) := by decide +kernel
theorem dX10_named_53 : decode cX10_named 53 = .ok (.iaload, 1) := by decide +kernel
theorem dX10_named_54 : decode cX10_named 54 = .ok (.if_icmp .ne 7, 3) := by decide +kernel
theorem dX10_named_57 : decode cX10_named 57 = .ok (.iconst 1, 1) := by decide +kernel
theorem dX10_named_58 : decode cX10_named 58 = .ok (.goto 4, 3) := by decide +kernel
theorem dX10_named_61 : decode cX10_named 61 = .ok (.iconst 0, 1) := by decide +kernel
theorem dX10_named_62 : decode cX10_named 62 = .ok (.istore_n 2, 1) := by decide +kernel
theorem dX10_named_63 : decode cX10_named 63 = .ok (.iconst 0, 1) := by decide +kernel
theorem dX10_named_64 : decode cX10_named 64 = .ok (.istore_n 3, 1) := by decide +kernel
theorem dX10_named_65 : decode cX10_named 65 = .ok (.iload_n 2, 1) := by decide +kernel
theorem dX10_named_66 : decode cX10_named 66 = .ok (.ifCond .eq 50, 3) := by decide +kernel
theorem dX10_named_69 : decode cX10_named 69 = .ok (.iload_n 3, 1) := by decide +kernel
theorem dX10_named_70 : decode cX10_named 70 = .ok (.aload_n 0, 1) := by decide +kernel
theorem dX10_named_71 : decode cX10_named 71 = .ok (.getfield 27, 3) := by decide +kernel
theorem dX10_named_74 : decode cX10_named 74 = .ok (.iload_n 1, 1) := by decide +kernel
theorem dX10_named_75 : decode cX10_named 75 = .ok (.iaload, 1) := by decide +kernel
theorem dX10_named_76 : decode cX10_named 76 = .ok (.if_icmp .ge 40, 3) := by decide +kernel
theorem dX10_named_79 : decode cX10_named 79 = .ok (.aload_n 0, 1) := by decide +kernel
theorem dX10_named_80 : decode cX10_named 80 = .ok (.getfield 9, 3) := by decide +kernel
theorem dX10_named_83 : decode cX10_named 83 = .ok (.aload_n 0, 1) := by decide +kernel
theorem dX10_named_84 : decode cX10_named 84 = .ok (.getfield 116, 3) := by decide +kernel
theorem dX10_named_87 : decode cX10_named 87 = .ok (.iload_n 3, 1) := by decide +kernel
theorem dX10_named_88 : decode cX10_named 88 = .ok (.iadd, 1) := by decide +kernel
theorem dX10_named_89 : decode cX10_named 89 = .ok (.baload, 1) := by decide +kernel
theorem dX10_named_90 : decode cX10_named 90 = .ok (.aload_n 0, 1) := by decide +kernel
theorem dX10_named_91 : decode cX10_named 91 = .ok (.getfield 21, 3) := by decide +kernel
theorem dX10_named_94 : decode cX10_named 94 = .ok (.bipush 6, 2) := by decide +kernel
theorem dX10_named_96 : decode cX10_named 96 = .ok (.iload_n 1, 1) := by decide +kernel
theorem dX10_named_97 : decode cX10_named 97 = .ok (.imul, 1) := by decide +kernel
theorem dX10_named_98 : decode cX10_named 98 = .ok (.iload_n 3, 1) := by decide +kernel
theorem dX10_named_99 : decode cX10_named 99 = .ok (.iadd, 1) := by decide +kernel
theorem dX10_named_100 : decode cX10_named 100 = .ok (.baload, 1) := by decide +kernel
theorem dX10_named_101 : decode cX10_named 101 = .ok (.if_icmp .ne 7, 3) := by decide +kernel
theorem dX10_named_104 : decode cX10_named 104 = .ok (.iconst 1, 1) := by decide +kernel
theorem dX10_named_105 : decode cX10_named 105 = .ok (.goto 4, 3) := by decide +kernel
theorem dX10_named_108 : decode cX10_named 108 = .ok (.iconst 0, 1) := by decide +kernel
theorem dX10_named_109 : decode cX10_named 109 = .ok (.istore_n 2, 1) := by decide +kernel
theorem dX10_named_110 : decode cX10_named 110 = .ok (.iinc 3 1, 3) := by decide +kernel
theorem dX10_named_113 : decode cX10_named 113 = .ok (.goto (-48), 3) := by decide +kernel
theorem dX10_named_116 : decode cX10_named 116 = .ok (.iload_n 2, 1) := by decide +kernel
theorem dX10_named_117 : decode cX10_named 117 = .ok (.ifCond .eq 5, 3) := by decide +kernel
theorem dX10_named_120 : decode cX10_named 120 = .ok (.iload_n 1, 1) := by decide +kernel
theorem dX10_named_121 : decode cX10_named 121 = .ok (.ireturn, 1) := by decide +kernel
theorem dX10_named_122 : decode cX10_named 122 = .ok (.iinc 1 1, 3) := by decide +kernel
theorem dX10_named_125 : decode cX10_named 125 = .ok (.goto (-123), 3) := by decide +kernel
theorem dX10_named_128 : decode cX10_named 128 = .ok (.iconst (-1), 1) := by decide +kernel
theorem dX10_named_129 : decode cX10_named 129 = .ok (.ireturn, 1) := by decide +kernel
theorem dX10_codeOf_0 : decode cX10_codeOf 0 = .ok (.sipush 512, 3) := by decide +kernel
theorem dX10_codeOf_3 : decode cX10_codeOf 3 = .ok (.iload_n 0, 1) := by decide +kernel
theorem dX10_codeOf_4 : decode cX10_codeOf 4 = .ok (.iconst 1, 1) := by decide +kernel
theorem dX10_codeOf_5 : decode cX10_codeOf 5 = .ok (.iadd, 1) := by decide +kernel
theorem dX10_codeOf_6 : decode cX10_codeOf 6 = .ok (.imul, 1) := by decide +kernel
theorem dX10_codeOf_7 : decode cX10_codeOf 7 = .ok (.iload_n 1, 1) := by decide +kernel
theorem dX10_codeOf_8 : decode cX10_codeOf 8 = .ok (.iadd, 1) := by decide +kernel
theorem dX10_codeOf_9 : decode cX10_codeOf 9 = .ok (.ireturn, 1) := by decide +kernel
theorem dX10_operatorAt_0 : decode cX10_operatorAt 0 = .ok (.aload_n 0, 1) := by decide +kernel
theorem dX10_operatorAt_1 : decode cX10_operatorAt 1 = .ok (.getfield 52, 3) := by decide +kernel
theorem dX10_operatorAt_4 : decode cX10_operatorAt 4 = .ok (.iload_n 1, 1) := by decide +kernel
theorem dX10_operatorAt_5 : decode cX10_operatorAt 5 = .ok (.iaload, 1) := by decide +kernel
theorem dX10_operatorAt_6 : decode cX10_operatorAt 6 = .ok (.sipush 512, 3) := by decide +kernel
theorem dX10_operatorAt_9 : decode cX10_operatorAt 9 = .ok (.idiv, 1) := by decide +kernel
theorem dX10_operatorAt_10 : decode cX10_operatorAt 10 = .ok (.iconst 1, 1) := by decide +kernel
theorem dX10_operatorAt_11 : decode cX10_operatorAt 11 = .ok (.isub, 1) := by decide +kernel
theorem dX10_operatorAt_12 : decode cX10_operatorAt 12 = .ok (.ireturn, 1) := by decide +kernel
theorem dX10_partsAt_0 : decode cX10_partsAt 0 = .ok (.aload_n 0, 1) := by decide +kernel
theorem dX10_partsAt_1 : decode cX10_partsAt 1 = .ok (.getfield 52, 3) := by decide +kernel
theorem dX10_partsAt_4 : decode cX10_partsAt 4 = .ok (.iload_n 1, 1) := by decide +kernel
theorem dX10_partsAt_5 : decode cX10_partsAt 5 = .ok (.iaload, 1) := by decide +kernel
theorem dX10_partsAt_6 : decode cX10_partsAt 6 = .ok (.sipush 512, 3) := by decide +kernel
theorem dX10_partsAt_9 : decode cX10_partsAt 9 = .ok (.if_icmp .ge 7, 3) := by decide +kernel
theorem dX10_partsAt_12 : decode cX10_partsAt 12 = .ok (.iconst 0, 1) := by decide +kernel
theorem dX10_partsAt_13 : decode cX10_partsAt 13 = .ok (.goto 13, 3) := by decide +kernel
theorem dX10_partsAt_16 : decode cX10_partsAt 16 = .ok (.aload_n 0, 1) := by decide +kernel
theorem dX10_partsAt_17 : decode cX10_partsAt 17 = .ok (.getfield 52, 3) := by decide +kernel
theorem dX10_partsAt_20 : decode cX10_partsAt 20 = .ok (.iload_n 1, 1) := by decide +kernel
theorem dX10_partsAt_21 : decode cX10_partsAt 21 = .ok (.iaload, 1) := by decide +kernel
theorem dX10_partsAt_22 : decode cX10_partsAt 22 = .ok (.sipush 512, 3) := by decide +kernel
theorem dX10_partsAt_25 : decode cX10_partsAt 25 = .ok (.irem, 1) := by decide +kernel
theorem dX10_partsAt_26 : decode cX10_partsAt 26 = .ok (.ireturn, 1) := by decide +kernel
set_option maxRecDepth 20000 in
theorem ggX10_behind_X10_partsAt : GoodIn wsX10_behind wsX10_partsAt := goodIn_r _ [5, 6, 7, 8, 9, 10, 11, 12, 13, 14, 15, 16, 17, 18, 19, 20, 21, 22, 23, 24, 25, 26, 27, 28, 29, 30, 31, 32, 33, 34, 35, 36, 37, 38, 39, 40, 41, 42, 43, 44, 45, 46, 47, 48, 49, 50, 51, 52, 53, 54, 55, 56] rfl (by decide +kernel)
set_option maxRecDepth 20000 in
theorem gX10_behind_X10_partsAt : GoodIn wsX10_behind (wsV RX10 209 RX10 yX10_partsAt wsX10_partsAt) := goodIn_app (goodIn_of _ (by decide +kernel)) ggX10_behind_X10_partsAt
theorem dX10_behind_0 : decode cX10_behind 0 = .ok (.iconst 1, 1) := by decide +kernel
theorem dX10_behind_1 : decode cX10_behind 1 = .ok (.istore_n 2, 1) := by decide +kernel
theorem dX10_behind_2 : decode cX10_behind 2 = .ok (.iload_n 1, 1) := by decide +kernel
theorem dX10_behind_3 : decode cX10_behind 3 = .ok (.istore_n 3, 1) := by decide +kernel
theorem dX10_behind_4 : decode cX10_behind 4 = .ok (.iload_n 2, 1) := by decide +kernel
theorem dX10_behind_5 : decode cX10_behind 5 = .ok (.ifCond .le 19, 3) := by decide +kernel
theorem dX10_behind_8 : decode cX10_behind 8 = .ok (.iload_n 2, 1) := by decide +kernel
theorem dX10_behind_9 : decode cX10_behind 9 = .ok (.aload_n 0, 1) := by decide +kernel
theorem dX10_behind_10 : decode cX10_behind 10 = .ok (.iload_n 3, 1) := by decide +kernel
theorem dX10_behind_11 : decode cX10_behind 11 = .ok (.invokevirtual 209, 3) := by decide +kernel
theorem dX10_behind_14 : decode cX10_behind 14 = .ok (.iconst 1, 1) := by decide +kernel
theorem dX10_behind_15 : decode cX10_behind 15 = .ok (.isub, 1) := by decide +kernel
theorem dX10_behind_16 : decode cX10_behind 16 = .ok (.iadd, 1) := by decide +kernel
theorem dX10_behind_17 : decode cX10_behind 17 = .ok (.istore_n 2, 1) := by decide +kernel
theorem dX10_behind_18 : decode cX10_behind 18 = .ok (.iinc 3 1, 3) := by decide +kernel
theorem dX10_behind_21 : decode cX10_behind 21 = .ok (.goto (-17), 3) := by decide +kernel
theorem dX10_behind_24 : decode cX10_behind 24 = .ok (.iload_n 3, 1) := by decide +kernel
theorem dX10_behind_25 : decode cX10_behind 25 = .ok (.ireturn, 1) := by decide +kernel
set_option maxRecDepth 20000 in
theorem ggX10_compares_X10_behind : GoodIn wsX10_compares wsX10_behind := goodIn_r _ [6, 7, 8, 9, 5, 10, 1, 11, 12, 13, 14, 15, 16, 17, 18, 19, 20, 21, 22, 23, 24, 25, 26, 27, 28, 29, 30, 31, 32, 33, 34, 35, 36, 37, 38, 39, 40, 41, 42, 43, 44, 45, 46, 47, 48, 49, 50, 51, 52, 53, 54, 55, 56, 57, 58, 59, 60] rfl (by decide +kernel)
set_option maxRecDepth 20000 in
theorem gX10_compares_X10_behind : GoodIn wsX10_compares (wsV RX10 213 RX10 yX10_behind wsX10_behind) := goodIn_app (goodIn_of _ (by decide +kernel)) ggX10_compares_X10_behind
theorem dX10_compares_0 : decode cX10_compares 0 = .ok (.aload_n 0, 1) := by decide +kernel
theorem dX10_compares_1 : decode cX10_compares 1 = .ok (.iload_n 1, 1) := by decide +kernel
theorem dX10_compares_2 : decode cX10_compares 2 = .ok (.invokevirtual 213, 3) := by decide +kernel
theorem dX10_compares_5 : decode cX10_compares 5 = .ok (.istore_n 3, 1) := by decide +kernel
theorem dX10_compares_6 : decode cX10_compares 6 = .ok (.aload_n 0, 1) := by decide +kernel
theorem dX10_compares_7 : decode cX10_compares 7 = .ok (.iload_n 2, 1) := by decide +kernel
theorem dX10_compares_8 : decode cX10_compares 8 = .ok (.invokevirtual 213, 3) := by decide +kernel
theorem dX10_compares_11 : decode cX10_compares 11 = .ok (.istore 4, 2) := by decide +kernel
theorem dX10_compares_13 : decode cX10_compares 13 = .ok (.iconst 0, 1) := by decide +kernel
theorem dX10_compares_14 : decode cX10_compares 14 = .ok (.istore 5, 2) := by decide +kernel
theorem dX10_compares_16 : decode cX10_compares 16 = .ok (.iload_n 1, 1) := by decide +kernel
theorem dX10_compares_17 : decode cX10_compares 17 = .ok (.iload 5, 2) := by decide +kernel
theorem dX10_compares_19 : decode cX10_compares 19 = .ok (.iadd, 1) := by decide +kernel
theorem dX10_compares_20 : decode cX10_compares 20 = .ok (.iload_n 3, 1) := by decide +kernel
theorem dX10_compares_21 : decode cX10_compares 21 = .ok (.if_icmp .ge 39, 3) := by decide +kernel
theorem dX10_compares_24 : decode cX10_compares 24 = .ok (.iload_n 2, 1) := by decide +kernel
theorem dX10_compares_25 : decode cX10_compares 25 = .ok (.iload 5, 2) := by decide +kernel
theorem dX10_compares_27 : decode cX10_compares 27 = .ok (.iadd, 1) := by decide +kernel
theorem dX10_compares_28 : decode cX10_compares 28 = .ok (.iload 4, 2) := by decide +kernel
theorem dX10_compares_30 : decode cX10_compares 30 = .ok (.if_icmp .ge 30, 3) := by decide +kernel
theorem dX10_compares_33 : decode cX10_compares 33 = .ok (.aload_n 0, 1) := by decide +kernel
theorem dX10_compares_34 : decode cX10_compares 34 = .ok (.getfield 52, 3) := by decide +kernel
theorem dX10_compares_37 : decode cX10_compares 37 = .ok (.iload_n 1, 1) := by decide +kernel
theorem dX10_compares_38 : decode cX10_compares 38 = .ok (.iload 5, 2) := by decide +kernel
theorem dX10_compares_40 : decode cX10_compares 40 = .ok (.iadd, 1) := by decide +kernel
theorem dX10_compares_41 : decode cX10_compares 41 = .ok (.iaload, 1) := by decide +kernel
theorem dX10_compares_42 : decode cX10_compares 42 = .ok (.aload_n 0, 1) := by decide +kernel
theorem dX10_compares_43 : decode cX10_compares 43 = .ok (.getfield 52, 3) := by decide +kernel
theorem dX10_compares_46 : decode cX10_compares 46 = .ok (.iload_n 2, 1) := by decide +kernel
theorem dX10_compares_47 : decode cX10_compares 47 = .ok (.iload 5, 2) := by decide +kernel
theorem dX10_compares_49 : decode cX10_compares 49 = .ok (.iadd, 1) := by decide +kernel
theorem dX10_compares_50 : decode cX10_compares 50 = .ok (.iaload, 1) := by decide +kernel
theorem dX10_compares_51 : decode cX10_compares 51 = .ok (.if_icmp .ne 9, 3) := by decide +kernel
theorem dX10_compares_54 : decode cX10_compares 54 = .ok (.iinc 5 1, 3) := by decide +kernel
theorem dX10_compares_57 : decode cX10_compares 57 = .ok (.goto (-41), 3) := by decide +kernel
theorem dX10_compares_60 : decode cX10_compares 60 = .ok (.iload_n 1, 1) := by decide +kernel
theorem dX10_compares_61 : decode cX10_compares 61 = .ok (.iload 5, 2) := by decide +kernel
theorem dX10_compares_63 : decode cX10_compares 63 = .ok (.iadd, 1) := by decide +kernel
theorem dX10_compares_64 : decode cX10_compares 64 = .ok (.iload_n 3, 1) := by decide +kernel
theorem dX10_compares_65 : decode cX10_compares 65 = .ok (.if_icmp .eq 12, 3) := by decide +kernel
theorem dX10_compares_68 : decode cX10_compares 68 = .ok (.iload_n 2, 1) := by decide +kernel
theorem dX10_compares_69 : decode cX10_compares 69 = .ok (.iload 5, 2) := by decide +kernel
theorem dX10_compares_71 : decode cX10_compares 71 = .ok (.iadd, 1) := by decide +kernel
theorem dX10_compares_72 : decode cX10_compares 72 = .ok (.iload 4, 2) := by decide +kernel
theorem dX10_compares_74 : decode cX10_compares 74 = .ok (.if_icmp .ne 5, 3) := by decide +kernel
theorem dX10_compares_77 : decode cX10_compares 77 = .ok (.iconst 0, 1) := by decide +kernel
theorem dX10_compares_78 : decode cX10_compares 78 = .ok (.ireturn, 1) := by decide +kernel
theorem dX10_compares_79 : decode cX10_compares 79 = .ok (.aload_n 0, 1) := by decide +kernel
theorem dX10_compares_80 : decode cX10_compares 80 = .ok (.getfield 52, 3) := by decide +kernel
theorem dX10_compares_83 : decode cX10_compares 83 = .ok (.iload_n 1, 1) := by decide +kernel
theorem dX10_compares_84 : decode cX10_compares 84 = .ok (.iload 5, 2) := by decide +kernel
theorem dX10_compares_86 : decode cX10_compares 86 = .ok (.iadd, 1) := by decide +kernel
theorem dX10_compares_87 : decode cX10_compares 87 = .ok (.iaload, 1) := by decide +kernel
theorem dX10_compares_88 : decode cX10_compares 88 = .ok (.aload_n 0, 1) := by decide +kernel
theorem dX10_compares_89 : decode cX10_compares 89 = .ok (.getfield 52, 3) := by decide +kernel
theorem dX10_compares_92 : decode cX10_compares 92 = .ok (.iload_n 2, 1) := by decide +kernel
theorem dX10_compares_93 : decode cX10_compares 93 = .ok (.iload 5, 2) := by decide +kernel
theorem dX10_compares_95 : decode cX10_compares 95 = .ok (.iadd, 1) := by decide +kernel
theorem dX10_compares_96 : decode cX10_compares 96 = .ok (.iaload, 1) := by decide +kernel
theorem dX10_compares_97 : decode cX10_compares 97 = .ok (.if_icmp .ge 7, 3) := by decide +kernel
theorem dX10_compares_100 : decode cX10_compares 100 = .ok (.iconst (-1), 1) := by decide +kernel
theorem dX10_compares_101 : decode cX10_compares 101 = .ok (.goto 4, 3) := by decide +kernel
theorem dX10_compares_104 : decode cX10_compares 104 = .ok (.iconst 1, 1) := by decide +kernel
theorem dX10_compares_105 : decode cX10_compares 105 = .ok (.ireturn, 1) := by decide +kernel
set_option maxRecDepth 20000 in
theorem ggX10_areAlike_X10_compares : GoodIn wsX10_areAlike wsX10_compares := goodIn_r _ [5, 6, 7, 8, 9, 4, 10, 11, 12, 13, 14, 15, 16, 17, 18, 19, 20, 21, 22, 23, 24, 25, 26, 27, 28, 29, 30, 31, 32, 33, 34, 35, 36, 37, 38, 39, 40, 41, 42, 43, 44, 45, 46, 47, 48, 49, 50, 51, 52, 53, 54, 55, 56, 57, 58, 59, 60, 61, 62, 63, 64] rfl (by decide +kernel)
set_option maxRecDepth 20000 in
theorem gX10_areAlike_X10_compares : GoodIn wsX10_areAlike (wsV RX10 216 RX10 yX10_compares wsX10_compares) := goodIn_app (goodIn_of _ (by decide +kernel)) ggX10_areAlike_X10_compares
theorem dX10_areAlike_0 : decode cX10_areAlike 0 = .ok (.aload_n 0, 1) := by decide +kernel
theorem dX10_areAlike_1 : decode cX10_areAlike 1 = .ok (.iload_n 1, 1) := by decide +kernel
theorem dX10_areAlike_2 : decode cX10_areAlike 2 = .ok (.iload_n 2, 1) := by decide +kernel
theorem dX10_areAlike_3 : decode cX10_areAlike 3 = .ok (.invokevirtual 216, 3) := by decide +kernel
theorem dX10_areAlike_6 : decode cX10_areAlike 6 = .ok (.ifCond .ne 7, 3) := by decide +kernel
theorem dX10_areAlike_9 : decode cX10_areAlike 9 = .ok (.iconst 1, 1) := by decide +kernel
theorem dX10_areAlike_10 : decode cX10_areAlike 10 = .ok (.goto 4, 3) := by decide +kernel
theorem dX10_areAlike_13 : decode cX10_areAlike 13 = .ok (.iconst 0, 1) := by decide +kernel
theorem dX10_areAlike_14 : decode cX10_areAlike 14 = .ok (.ireturn, 1) := by decide +kernel
set_option maxRecDepth 20000 in
theorem ggX10_copies_X10_behind : GoodIn wsX10_copies wsX10_behind := goodIn_r _ [7, 8, 9, 10, 6, 11, 2, 12, 13, 14, 15, 16, 17, 18, 19, 20, 21, 22, 23, 24, 25, 26, 27, 28, 29, 30, 31, 32, 33, 34, 35, 36, 37, 38, 39, 40, 41, 42, 43, 44, 45, 46, 47, 48, 49, 50, 51, 52, 53, 54, 55, 56, 57, 58, 59, 60, 61] rfl (by decide +kernel)
set_option maxRecDepth 20000 in
theorem gX10_copies_X10_behind : GoodIn wsX10_copies (wsV RX10 213 RX10 yX10_behind wsX10_behind) := goodIn_app (goodIn_of _ (by decide +kernel)) ggX10_copies_X10_behind
theorem dX10_copies_0 : decode cX10_copies 0 = .ok (.aload_n 0, 1) := by decide +kernel
theorem dX10_copies_1 : decode cX10_copies 1 = .ok (.iload_n 1, 1) := by decide +kernel
theorem dX10_copies_2 : decode cX10_copies 2 = .ok (.invokevirtual 213, 3) := by decide +kernel
theorem dX10_copies_5 : decode cX10_copies 5 = .ok (.istore_n 2, 1) := by decide +kernel
theorem dX10_copies_6 : decode cX10_copies 6 = .ok (.aload_n 0, 1) := by decide +kernel
theorem dX10_copies_7 : decode cX10_copies 7 = .ok (.getfield 178, 3) := by decide +kernel
theorem dX10_copies_10 : decode cX10_copies 10 = .ok (.istore_n 3, 1) := by decide +kernel
theorem dX10_copies_11 : decode cX10_copies 11 = .ok (.iload_n 1, 1) := by decide +kernel
theorem dX10_copies_12 : decode cX10_copies 12 = .ok (.istore 4, 2) := by decide +kernel
theorem dX10_copies_14 : decode cX10_copies 14 = .ok (.iload 4, 2) := by decide +kernel
theorem dX10_copies_16 : decode cX10_copies 16 = .ok (.iload_n 2, 1) := by decide +kernel
theorem dX10_copies_17 : decode cX10_copies 17 = .ok (.if_icmp .ge 35, 3) := by decide +kernel
theorem dX10_copies_20 : decode cX10_copies 20 = .ok (.aload_n 0, 1) := by decide +kernel
theorem dX10_copies_21 : decode cX10_copies 21 = .ok (.getfield 52, 3) := by decide +kernel
theorem dX10_copies_24 : decode cX10_copies 24 = .ok (.aload_n 0, 1) := by decide +kernel
theorem dX10_copies_25 : decode cX10_copies 25 = .ok (.getfield 178, 3) := by decide +kernel
theorem dX10_copies_28 : decode cX10_copies 28 = .ok (.aload_n 0, 1) := by decide +kernel
theorem dX10_copies_29 : decode cX10_copies 29 = .ok (.getfield 52, 3) := by decide +kernel
theorem dX10_copies_32 : decode cX10_copies 32 = .ok (.iload 4, 2) := by decide +kernel
theorem dX10_copies_34 : decode cX10_copies 34 = .ok (.iaload, 1) := by decide +kernel
theorem dX10_copies_35 : decode cX10_copies 35 = .ok (.iastore, 1) := by decide +kernel
theorem dX10_copies_36 : decode cX10_copies 36 = .ok (.aload_n 0, 1) := by decide +kernel
theorem dX10_copies_37 : decode cX10_copies 37 = .ok (.dup, 1) := by decide +kernel
theorem dX10_copies_38 : decode cX10_copies 38 = .ok (.getfield 178, 3) := by decide +kernel
theorem dX10_copies_41 : decode cX10_copies 41 = .ok (.iconst 1, 1) := by decide +kernel
theorem dX10_copies_42 : decode cX10_copies 42 = .ok (.iadd, 1) := by decide +kernel
theorem dX10_copies_43 : decode cX10_copies 43 = .ok (.putfield 178, 3) := by decide +kernel
theorem dX10_copies_46 : decode cX10_copies 46 = .ok (.iinc 4 1, 3) := by decide +kernel
theorem dX10_copies_49 : decode cX10_copies 49 = .ok (.goto (-35), 3) := by decide +kernel
theorem dX10_copies_52 : decode cX10_copies 52 = .ok (.iload_n 3, 1) := by decide +kernel
theorem dX10_copies_53 : decode cX10_copies 53 = .ok (.ireturn, 1) := by decide +kernel
set_option maxRecDepth 20000 in
theorem ggX10_isGreat_X10_behind : GoodIn wsX10_isGreat wsX10_behind := goodIn_r _ [7, 8, 9, 10, 6, 11, 1, 16, 17, 18, 19, 20, 21, 22, 23, 24, 25, 26, 27, 28, 29, 30, 31, 32, 33, 34, 35, 36, 37, 38, 39, 40, 41, 42, 43, 44, 45, 46, 47, 48, 49, 50, 51, 52, 53, 54, 55, 56, 57, 58, 59, 60, 61, 62, 63, 64, 65] rfl (by decide +kernel)
set_option maxRecDepth 20000 in
theorem gX10_isGreat_X10_behind : GoodIn wsX10_isGreat (wsV RX10 213 RX10 yX10_behind wsX10_behind) := goodIn_app (goodIn_of _ (by decide +kernel)) ggX10_isGreat_X10_behind
set_option maxRecDepth 20000 in
theorem ggX10_isGreat_X10_operatorAt : GoodIn wsX10_isGreat wsX10_operatorAt := goodIn_r _ [15, 1, 16, 17, 18, 19, 20, 21, 22, 23, 24, 25, 26, 27, 28, 29, 30, 31, 32, 33, 34, 35, 36, 37, 38, 39, 40, 41, 42, 43, 44, 45, 46, 47, 48, 49, 50, 51, 52, 53, 54, 55, 56, 57, 58, 59, 60, 61, 62, 63, 64, 65] rfl (by decide +kernel)
set_option maxRecDepth 20000 in
theorem gX10_isGreat_X10_operatorAt : GoodIn wsX10_isGreat (wsV RX10 220 RX10 yX10_operatorAt wsX10_operatorAt) := goodIn_app (goodIn_of _ (by decide +kernel)) ggX10_isGreat_X10_operatorAt
set_option maxRecDepth 20000 in
theorem ggX10_isGreat_X10_partsAt : GoodIn wsX10_isGreat wsX10_partsAt := goodIn_r _ [11, 1, 16, 17, 18, 19, 20, 21, 22, 23, 24, 25, 26, 27, 28, 29, 30, 31, 32, 33, 34, 35, 36, 37, 38, 39, 40, 41, 42, 43, 44, 45, 46, 47, 48, 49, 50, 51, 52, 53, 54, 55, 56, 57, 58, 59, 60, 61, 62, 63, 64, 65] rfl (by decide +kernel)
set_option maxRecDepth 20000 in
theorem gX10_isGreat_X10_partsAt : GoodIn wsX10_isGreat (wsV RX10 209 RX10 yX10_partsAt wsX10_partsAt) := goodIn_app (goodIn_of _ (by decide +kernel)) ggX10_isGreat_X10_partsAt
theorem dX10_isGreat_0 : decode cX10_isGreat 0 = .ok (.aload_n 0, 1) := by decide +kernel
theorem dX10_isGreat_1 : decode cX10_isGreat 1 = .ok (.iload_n 1, 1) := by decide +kernel
theorem dX10_isGreat_2 : decode cX10_isGreat 2 = .ok (.invokevirtual 213, 3) := by decide +kernel
theorem dX10_isGreat_5 : decode cX10_isGreat 5 = .ok (.istore_n 2, 1) := by decide +kernel
theorem dX10_isGreat_6 : decode cX10_isGreat 6 = .ok (.iload_n 2, 1) := by decide +kernel
theorem dX10_isGreat_7 : decode cX10_isGreat 7 = .ok (.iload_n 1, 1) := by decide +kernel
theorem dX10_isGreat_8 : decode cX10_isGreat 8 = .ok (.isub, 1) := by decide +kernel
theorem dX10_isGreat_9 : decode cX10_isGreat 9 = .ok (.bipush 20, 2) := by decide +kernel
theorem dX10_isGreat_11 : decode cX10_isGreat 11 = .ok (.if_icmp .le 5, 3) := by decide +kernel
theorem dX10_isGreat_14 : decode cX10_isGreat 14 = .ok (.iconst 1, 1) := by decide +kernel
theorem dX10_isGreat_15 : decode cX10_isGreat 15 = .ok (.ireturn, 1) := by decide +kernel
theorem dX10_isGreat_16 : decode cX10_isGreat 16 = .ok (.iload_n 1, 1) := by decide +kernel
theorem dX10_isGreat_17 : decode cX10_isGreat 17 = .ok (.istore_n 3, 1) := by decide +kernel
theorem dX10_isGreat_18 : decode cX10_isGreat 18 = .ok (.iload_n 3, 1) := by decide +kernel
theorem dX10_isGreat_19 : decode cX10_isGreat 19 = .ok (.iload_n 2, 1) := by decide +kernel
theorem dX10_isGreat_20 : decode cX10_isGreat 20 = .ok (.if_icmp .ge 47, 3) := by decide +kernel
theorem dX10_isGreat_23 : decode cX10_isGreat 23 = .ok (.aload_n 0, 1) := by decide +kernel
theorem dX10_isGreat_24 : decode cX10_isGreat 24 = .ok (.getfield 52, 3) := by decide +kernel
theorem dX10_isGreat_27 : decode cX10_isGreat 27 = .ok (.iload_n 3, 1) := by decide +kernel
theorem dX10_isGreat_28 : decode cX10_isGreat 28 = .ok (.iaload, 1) := by decide +kernel
theorem dX10_isGreat_29 : decode cX10_isGreat 29 = .ok (.sipush 512, 3) := by decide +kernel
theorem dX10_isGreat_32 : decode cX10_isGreat 32 = .ok (.if_icmp .lt 29, 3) := by decide +kernel
theorem dX10_isGreat_35 : decode cX10_isGreat 35 = .ok (.aload_n 0, 1) := by decide +kernel
theorem dX10_isGreat_36 : decode cX10_isGreat 36 = .ok (.getfield 33, 3) := by decide +kernel
theorem dX10_isGreat_39 : decode cX10_isGreat 39 = .ok (.aload_n 0, 1) := by decide +kernel
theorem dX10_isGreat_40 : decode cX10_isGreat 40 = .ok (.iload_n 3, 1) := by decide +kernel
theorem dX10_isGreat_41 : decode cX10_isGreat 41 = .ok (.invokevirtual 220, 3) := by decide +kernel
theorem dX10_isGreat_44 : decode cX10_isGreat 44 = .ok (.iaload, 1) := by decide +kernel
theorem dX10_isGreat_45 : decode cX10_isGreat 45 = .ok (.iconst 2, 1) := by decide +kernel
theorem dX10_isGreat_46 : decode cX10_isGreat 46 = .ok (.if_icmp .ne 15, 3) := by decide +kernel
theorem dX10_isGreat_49 : decode cX10_isGreat 49 = .ok (.aload_n 0, 1) := by decide +kernel
theorem dX10_isGreat_50 : decode cX10_isGreat 50 = .ok (.iload_n 3, 1) := by decide +kernel
theorem dX10_isGreat_51 : decode cX10_isGreat 51 = .ok (.invokevirtual 209, 3) := by decide +kernel
theorem dX10_isGreat_54 : decode cX10_isGreat 54 = .ok (.bipush 6, 2) := by decide +kernel
theorem dX10_isGreat_56 : decode cX10_isGreat 56 = .ok (.if_icmp .le 5, 3) := by decide +kernel
theorem dX10_isGreat_59 : decode cX10_isGreat 59 = .ok (.iconst 1, 1) := by decide +kernel
theorem dX10_isGreat_60 : decode cX10_isGreat 60 = .ok (.ireturn, 1) := by decide +kernel
theorem dX10_isGreat_61 : decode cX10_isGreat 61 = .ok (.iinc 3 1, 3) := by decide +kernel
theorem dX10_isGreat_64 : decode cX10_isGreat 64 = .ok (.goto (-46), 3) := by decide +kernel
theorem dX10_isGreat_67 : decode cX10_isGreat 67 = .ok (.iconst 0, 1) := by decide +kernel
theorem dX10_isGreat_68 : decode cX10_isGreat 68 = .ok (.ireturn, 1) := by decide +kernel
set_option maxRecDepth 20000 in
theorem ggX10_stands_X10_operatorAt : GoodIn wsX10_stands wsX10_operatorAt := goodIn_r _ [10, 5, 34, 35, 36, 37, 38, 39, 40, 41, 42, 43, 44, 45, 46, 47, 48, 49, 50, 51, 52, 53, 54, 55, 56, 57, 58, 59, 60, 61, 62, 63, 64, 65, 66, 67, 68, 69, 70, 71, 72, 73, 74, 75, 76, 77, 78, 79, 80, 81, 82, 83] rfl (by decide +kernel)
set_option maxRecDepth 20000 in
theorem gX10_stands_X10_operatorAt : GoodIn wsX10_stands (wsV RX10 220 RX10 yX10_operatorAt wsX10_operatorAt) := goodIn_app (goodIn_of _ (by decide +kernel)) ggX10_stands_X10_operatorAt
set_option maxRecDepth 20000 in
theorem ggX10_stands_X10_behind : GoodIn wsX10_stands wsX10_behind := goodIn_r _ [14, 15, 16, 17, 9, 18, 5, 34, 35, 36, 37, 38, 39, 40, 41, 42, 43, 44, 45, 46, 47, 48, 49, 50, 51, 52, 53, 54, 55, 56, 57, 58, 59, 60, 61, 62, 63, 64, 65, 66, 67, 68, 69, 70, 71, 72, 73, 74, 75, 76, 77, 78, 79, 80, 81, 82, 83] rfl (by decide +kernel)
set_option maxRecDepth 20000 in
theorem gX10_stands_X10_behind : GoodIn wsX10_stands (wsV RX10 213 RX10 yX10_behind wsX10_behind) := goodIn_app (goodIn_of _ (by decide +kernel)) ggX10_stands_X10_behind
set_option maxRecDepth 20000 in
theorem ggX10_stands_X10_codeOf : GoodIn wsX10_stands wsX10_codeOf := goodIn_r _ [21] rfl (by decide +kernel)
set_option maxRecDepth 20000 in
theorem gX10_stands_X10_codeOf : GoodIn wsX10_stands (va_wsS RX10 223 yX10_codeOf wsX10_codeOf) := goodIn_app (goodIn_of _ (by decide +kernel)) ggX10_stands_X10_codeOf
set_option maxRecDepth 20000 in
theorem ggX10_stands_X10_sorts : GoodIn wsX10_stands wsX10_sorts := goodIn_r _ [25, 3, 26, 27, 28, 9, 29, 5, 11, 12, 13, 14, 15, 16, 17, 18, 34, 35, 36, 37, 38, 39, 40, 41, 42, 43, 44, 45, 46, 47, 48, 49, 50, 51, 52, 53, 54, 55, 56, 57, 58, 59, 60, 61, 62, 63, 64, 65, 66, 67, 68, 69, 70, 71, 72, 73, 74, 75, 76, 77, 78, 79, 80, 81, 82, 83] rfl (by decide +kernel)
set_option maxRecDepth 20000 in
theorem gX10_stands_X10_sorts : GoodIn wsX10_stands (wsV RX10 226 RX10 yX10_sorts wsX10_sorts) := goodIn_app (goodIn_of _ (by decide +kernel)) ggX10_stands_X10_sorts
set_option maxRecDepth 20000 in
theorem ggX10_stands_X10_copies : GoodIn wsX10_stands wsX10_copies := goodIn_r _ [33, 1, 5, 11, 12, 13, 9, 14, 15, 16, 17, 18, 34, 35, 36, 37, 38, 39, 40, 41, 42, 43, 44, 45, 46, 47, 48, 49, 50, 51, 52, 53, 54, 55, 56, 57, 58, 59, 60, 61, 62, 63, 64, 65, 66, 67, 68, 69, 70, 71, 72, 73, 74, 75, 76, 77, 78, 79, 80, 81, 82, 83] rfl (by decide +kernel)
set_option maxRecDepth 20000 in
theorem gX10_stands_X10_copies : GoodIn wsX10_stands (wsV RX10 230 RX10 yX10_copies wsX10_copies) := goodIn_app (goodIn_of _ (by decide +kernel)) ggX10_stands_X10_copies
theorem dX10_stands_0 : decode cX10_stands 0 = .ok (.iconst 0, 1) := by decide +kernel
theorem dX10_stands_1 : decode cX10_stands 1 = .ok (.istore_n 3, 1) := by decide +kernel
theorem dX10_stands_2 : decode cX10_stands 2 = .ok (.iload_n 2, 1) := by decide +kernel
theorem dX10_stands_3 : decode cX10_stands 3 = .ok (.istore 4, 2) := by decide +kernel
theorem dX10_stands_5 : decode cX10_stands 5 = .ok (.iload 4, 2) := by decide +kernel
theorem dX10_stands_7 : decode cX10_stands 7 = .ok (.aload_n 0, 1) := by decide +kernel
theorem dX10_stands_8 : decode cX10_stands 8 = .ok (.getfield 178, 3) := by decide +kernel
theorem dX10_stands_11 : decode cX10_stands 11 = .ok (.if_icmp .ge 131, 3) := by decide +kernel
theorem dX10_stands_14 : decode cX10_stands 14 = .ok (.aload_n 0, 1) := by decide +kernel
theorem dX10_stands_15 : decode cX10_stands 15 = .ok (.getfield 33, 3) := by decide +kernel
theorem dX10_stands_18 : decode cX10_stands 18 = .ok (.iload_n 1, 1) := by decide +kernel
theorem dX10_stands_19 : decode cX10_stands 19 = .ok (.iaload, 1) := by decide +kernel
theorem dX10_stands_20 : decode cX10_stands 20 = .ok (.iconst 2, 1) := by decide +kernel
theorem dX10_stands_21 : decode cX10_stands 21 = .ok (.if_icmp .ne 59, 3) := by decide +kernel
theorem dX10_stands_24 : decode cX10_stands 24 = .ok (.aload_n 0, 1) := by decide +kernel
theorem dX10_stands_25 : decode cX10_stands 25 = .ok (.iload 4, 2) := by decide +kernel
theorem dX10_stands_27 : decode cX10_stands 27 = .ok (.invokevirtual 220, 3) := by decide +kernel
theorem dX10_stands_30 : decode cX10_stands 30 = .ok (.iload_n 1, 1) := by decide +kernel
theorem dX10_stands_31 : decode cX10_stands 31 = .ok (.if_icmp .ne 49, 3) := by decide +kernel
theorem dX10_stands_34 : decode cX10_stands 34 = .ok (.aload_n 0, 1) := by decide +kernel
theorem dX10_stands_35 : decode cX10_stands 35 = .ok (.iload 4, 2) := by decide +kernel
theorem dX10_stands_37 : decode cX10_stands 37 = .ok (.invokevirtual 213, 3) := by decide +kernel
theorem dX10_stands_40 : decode cX10_stands 40 = .ok (.istore 5, 2) := by decide +kernel
theorem dX10_stands_42 : decode cX10_stands 42 = .ok (.iload 4, 2) := by decide +kernel
theorem dX10_stands_44 : decode cX10_stands 44 = .ok (.iconst 1, 1) := by decide +kernel
theorem dX10_stands_45 : decode cX10_stands 45 = .ok (.iadd, 1) := by decide +kernel
theorem dX10_stands_46 : decode cX10_stands 46 = .ok (.istore 6, 2) := by decide +kernel
theorem dX10_stands_48 : decode cX10_stands 48 = .ok (.iload 6, 2) := by decide +kernel
theorem dX10_stands_50 : decode cX10_stands 50 = .ok (.iload 5, 2) := by decide +kernel
theorem dX10_stands_52 : decode cX10_stands 52 = .ok (.if_icmp .ge 25, 3) := by decide +kernel
theorem dX10_stands_55 : decode cX10_stands 55 = .ok (.aload_n 0, 1) := by decide +kernel
theorem dX10_stands_56 : decode cX10_stands 56 = .ok (.getfield 55, 3) := by decide +kernel
theorem dX10_stands_59 : decode cX10_stands 59 = .ok (.iload_n 3, 1) := by decide +kernel
theorem dX10_stands_60 : decode cX10_stands 60 = .ok (.iload 6, 2) := by decide +kernel
theorem dX10_stands_62 : decode cX10_stands 62 = .ok (.iastore, 1) := by decide +kernel
theorem dX10_stands_63 : decode cX10_stands 63 = .ok (.iinc 3 1, 3) := by decide +kernel
theorem dX10_stands_66 : decode cX10_stands 66 = .ok (.aload_n 0, 1) := by decide +kernel
theorem dX10_stands_67 : decode cX10_stands 67 = .ok (.iload 6, 2) := by decide +kernel
theorem dX10_stands_69 : decode cX10_stands 69 = .ok (.invokevirtual 213, 3) := by decide +kernel
theorem dX10_stands_72 : decode cX10_stands 72 = .ok (.istore 6, 2) := by decide +kernel
theorem dX10_stands_74 : decode cX10_stands 74 = .ok (.goto (-26), 3) := by decide +kernel
theorem dX10_stands_77 : decode cX10_stands 77 = .ok (.goto 54, 3) := by decide +kernel
theorem dX10_stands_80 : decode cX10_stands 80 = .ok (.aload_n 0, 1) := by decide +kernel
theorem dX10_stands_81 : decode cX10_stands 81 = .ok (.getfield 33, 3) := by decide +kernel
theorem dX10_stands_84 : decode cX10_stands 84 = .ok (.iload_n 1, 1) := by decide +kernel
theorem dX10_stands_85 : decode cX10_stands 85 = .ok (.iaload, 1) := by decide +kernel
theorem dX10_stands_86 : decode cX10_stands 86 = .ok (.iconst 2, 1) := by decide +kernel
theorem dX10_stands_87 : decode cX10_stands 87 = .ok (.if_icmp .ne 33, 3) := by decide +kernel
theorem dX10_stands_90 : decode cX10_stands 90 = .ok (.aload_n 0, 1) := by decide +kernel
theorem dX10_stands_91 : decode cX10_stands 91 = .ok (.getfield 39, 3) := by decide +kernel
theorem dX10_stands_94 : decode cX10_stands 94 = .ok (.iload_n 1, 1) := by decide +kernel
theorem dX10_stands_95 : decode cX10_stands 95 = .ok (.iaload, 1) := by decide +kernel
theorem dX10_stands_96 : decode cX10_stands 96 = .ok (.iconst (-1), 1) := by decide +kernel
theorem dX10_stands_97 : decode cX10_stands 97 = .ok (.if_icmp .eq 23, 3) := by decide +kernel
theorem dX10_stands_100 : decode cX10_stands 100 = .ok (.aload_n 0, 1) := by decide +kernel
theorem dX10_stands_101 : decode cX10_stands 101 = .ok (.getfield 52, 3) := by decide +kernel
theorem dX10_stands_104 : decode cX10_stands 104 = .ok (.iload 4, 2) := by decide +kernel
theorem dX10_stands_106 : decode cX10_stands 106 = .ok (.iaload, 1) := by decide +kernel
theorem dX10_stands_107 : decode cX10_stands 107 = .ok (.aload_n 0, 1) := by decide +kernel
theorem dX10_stands_108 : decode cX10_stands 108 = .ok (.getfield 39, 3) := by decide +kernel
theorem dX10_stands_111 : decode cX10_stands 111 = .ok (.iload_n 1, 1) := by decide +kernel
theorem dX10_stands_112 : decode cX10_stands 112 = .ok (.iaload, 1) := by decide +kernel
theorem dX10_stands_113 : decode cX10_stands 113 = .ok (.iconst 0, 1) := by decide +kernel
theorem dX10_stands_114 : decode cX10_stands 114 = .ok (.invokestatic 223, 3) := by decide +kernel
theorem dX10_stands_117 : decode cX10_stands 117 = .ok (.if_icmp .eq 14, 3) := by decide +kernel
theorem dX10_stands_120 : decode cX10_stands 120 = .ok (.aload_n 0, 1) := by decide +kernel
theorem dX10_stands_121 : decode cX10_stands 121 = .ok (.getfield 55, 3) := by decide +kernel
theorem dX10_stands_124 : decode cX10_stands 124 = .ok (.iload_n 3, 1) := by decide +kernel
theorem dX10_stands_125 : decode cX10_stands 125 = .ok (.iload 4, 2) := by decide +kernel
theorem dX10_stands_127 : decode cX10_stands 127 = .ok (.iastore, 1) := by decide +kernel
theorem dX10_stands_128 : decode cX10_stands 128 = .ok (.iinc 3 1, 3) := by decide +kernel
theorem dX10_stands_131 : decode cX10_stands 131 = .ok (.aload_n 0, 1) := by decide +kernel
theorem dX10_stands_132 : decode cX10_stands 132 = .ok (.iload 4, 2) := by decide +kernel
theorem dX10_stands_134 : decode cX10_stands 134 = .ok (.invokevirtual 213, 3) := by decide +kernel
theorem dX10_stands_137 : decode cX10_stands 137 = .ok (.istore 4, 2) := by decide +kernel
theorem dX10_stands_139 : decode cX10_stands 139 = .ok (.goto (-134), 3) := by decide +kernel
theorem dX10_stands_142 : decode cX10_stands 142 = .ok (.aload_n 0, 1) := by decide +kernel
theorem dX10_stands_143 : decode cX10_stands 143 = .ok (.getfield 33, 3) := by decide +kernel
theorem dX10_stands_146 : decode cX10_stands 146 = .ok (.iload_n 1, 1) := by decide +kernel
theorem dX10_stands_147 : decode cX10_stands 147 = .ok (.iaload, 1) := by decide +kernel
theorem dX10_stands_148 : decode cX10_stands 148 = .ok (.ifCond .eq 8, 3) := by decide +kernel
theorem dX10_stands_151 : decode cX10_stands 151 = .ok (.aload_n 0, 1) := by decide +kernel
theorem dX10_stands_152 : decode cX10_stands 152 = .ok (.iload_n 3, 1) := by decide +kernel
theorem dX10_stands_153 : decode cX10_stands 153 = .ok (.invokevirtual 226, 3) := by decide +kernel
theorem dX10_stands_156 : decode cX10_stands 156 = .ok (.aload_n 0, 1) := by decide +kernel
theorem dX10_stands_157 : decode cX10_stands 157 = .ok (.getfield 178, 3) := by decide +kernel
theorem dX10_stands_160 : decode cX10_stands 160 = .ok (.istore 4, 2) := by decide +kernel
theorem dX10_stands_162 : decode cX10_stands 162 = .ok (.aload_n 0, 1) := by decide +kernel
theorem dX10_stands_163 : decode cX10_stands 163 = .ok (.getfield 33, 3) := by decide +kernel
theorem dX10_stands_166 : decode cX10_stands 166 = .ok (.iload_n 1, 1) := by decide +kernel
theorem dX10_stands_167 : decode cX10_stands 167 = .ok (.iaload, 1) := by decide +kernel
theorem dX10_stands_168 : decode cX10_stands 168 = .ok (.iconst 2, 1) := by decide +kernel
theorem dX10_stands_169 : decode cX10_stands 169 = .ok (.if_icmp .ne 39, 3) := by decide +kernel
theorem dX10_stands_172 : decode cX10_stands 172 = .ok (.iload_n 3, 1) := by decide +kernel
theorem dX10_stands_173 : decode cX10_stands 173 = .ok (.ifCond .ne 35, 3) := by decide +kernel
theorem dX10_stands_176 : decode cX10_stands 176 = .ok (.aload_n 0, 1) := by decide +kernel
theorem dX10_stands_177 : decode cX10_stands 177 = .ok (.getfield 52, 3) := by decide +kernel
theorem dX10_stands_180 : decode cX10_stands 180 = .ok (.aload_n 0, 1) := by decide +kernel
theorem dX10_stands_181 : decode cX10_stands 181 = .ok (.getfield 178, 3) := by decide +kernel
theorem dX10_stands_184 : decode cX10_stands 184 = .ok (.aload_n 0, 1) := by decide +kernel
theorem dX10_stands_185 : decode cX10_stands 185 = .ok (.getfield 39, 3) := by decide +kernel
theorem dX10_stands_188 : decode cX10_stands 188 = .ok (.iload_n 1, 1) := by decide +kernel
theorem dX10_stands_189 : decode cX10_stands 189 = .ok (.iaload, 1) := by decide +kernel
theorem dX10_stands_190 : decode cX10_stands 190 = .ok (.iconst 0, 1) := by decide +kernel
theorem dX10_stands_191 : decode cX10_stands 191 = .ok (.invokestatic 223, 3) := by decide +kernel
theorem dX10_stands_194 : decode cX10_stands 194 = .ok (.iastore, 1) := by decide +kernel
theorem dX10_stands_195 : decode cX10_stands 195 = .ok (.aload_n 0, 1) := by decide +kernel
theorem dX10_stands_196 : decode cX10_stands 196 = .ok (.dup, 1) := by decide +kernel
theorem dX10_stands_197 : decode cX10_stands 197 = .ok (.getfield 178, 3) := by decide +kernel
theorem dX10_stands_200 : decode cX10_stands 200 = .ok (.iconst 1, 1) := by decide +kernel
theorem dX10_stands_201 : decode cX10_stands 201 = .ok (.iadd, 1) := by decide +kernel
theorem dX10_stands_202 : decode cX10_stands 202 = .ok (.putfield 178, 3) := by decide +kernel
theorem dX10_stands_205 : decode cX10_stands 205 = .ok (.goto 70, 3) := by decide +kernel
theorem dX10_stands_208 : decode cX10_stands 208 = .ok (.aload_n 0, 1) := by decide +kernel
theorem dX10_stands_209 : decode cX10_stands 209 = .ok (.getfield 33, 3) := by decide +kernel
theorem dX10_stands_212 : decode cX10_stands 212 = .ok (.iload_n 1, 1) := by decide +kernel
theorem dX10_stands_213 : decode cX10_stands 213 = .ok (.iaload, 1) := by decide +kernel
theorem dX10_stands_214 : decode cX10_stands 214 = .ok (.iconst 2, 1) := by decide +kernel
theorem dX10_stands_215 : decode cX10_stands 215 = .ok (.if_icmp .ne 8, 3) := by decide +kernel
theorem dX10_stands_218 : decode cX10_stands 218 = .ok (.iload_n 3, 1) := by decide +kernel
theorem dX10_stands_219 : decode cX10_stands 219 = .ok (.iconst 1, 1) := by decide +kernel
theorem dX10_stands_220 : decode cX10_stands 220 = .ok (.if_icmp .le 27, 3) := by decide +kernel
theorem dX10_stands_223 : decode cX10_stands 223 = .ok (.aload_n 0, 1) := by decide +kernel
theorem dX10_stands_224 : decode cX10_stands 224 = .ok (.getfield 52, 3) := by decide +kernel
theorem dX10_stands_227 : decode cX10_stands 227 = .ok (.aload_n 0, 1) := by decide +kernel
theorem dX10_stands_228 : decode cX10_stands 228 = .ok (.getfield 178, 3) := by decide +kernel
theorem dX10_stands_231 : decode cX10_stands 231 = .ok (.iload_n 1, 1) := by decide +kernel
theorem dX10_stands_232 : decode cX10_stands 232 = .ok (.iload_n 3, 1) := by decide +kernel
theorem dX10_stands_233 : decode cX10_stands 233 = .ok (.invokestatic 223, 3) := by decide +kernel
theorem dX10_stands_236 : decode cX10_stands 236 = .ok (.iastore, 1) := by decide +kernel
theorem dX10_stands_237 : decode cX10_stands 237 = .ok (.aload_n 0, 1) := by decide +kernel
theorem dX10_stands_238 : decode cX10_stands 238 = .ok (.dup, 1) := by decide +kernel
theorem dX10_stands_239 : decode cX10_stands 239 = .ok (.getfield 178, 3) := by decide +kernel
theorem dX10_stands_242 : decode cX10_stands 242 = .ok (.iconst 1, 1) := by decide +kernel
theorem dX10_stands_243 : decode cX10_stands 243 = .ok (.iadd, 1) := by decide +kernel
theorem dX10_stands_244 : decode cX10_stands 244 = .ok (.putfield 178, 3) := by decide +kernel
theorem dX10_stands_247 : decode cX10_stands 247 = .ok (.iconst 0, 1) := by decide +kernel
theorem dX10_stands_248 : decode cX10_stands 248 = .ok (.istore 5, 2) := by decide +kernel
theorem dX10_stands_250 : decode cX10_stands 250 = .ok (.iload 5, 2) := by decide +kernel
theorem dX10_stands_252 : decode cX10_stands 252 = .ok (.iload_n 3, 1) := by decide +kernel
theorem dX10_stands_253 : decode cX10_stands 253 = .ok (.if_icmp .ge 22, 3) := by decide +kernel
theorem dX10_stands_256 : decode cX10_stands 256 = .ok (.aload_n 0, 1) := by decide +kernel
theorem dX10_stands_257 : decode cX10_stands 257 = .ok (.aload_n 0, 1) := by decide +kernel
theorem dX10_stands_258 : decode cX10_stands 258 = .ok (.getfield 55, 3) := by decide +kernel
theorem dX10_stands_261 : decode cX10_stands 261 = .ok (.iload 5, 2) := by decide +kernel
theorem dX10_stands_263 : decode cX10_stands 263 = .ok (.iaload, 1) := by decide +kernel
theorem dX10_stands_264 : decode cX10_stands 264 = .ok (.invokevirtual 230, 3) := by decide +kernel
theorem dX10_stands_267 : decode cX10_stands 267 = .ok (.istore 6, 2) := by decide +kernel
theorem dX10_stands_269 : decode cX10_stands 269 = .ok (.iinc 5 1, 3) := by decide +kernel
theorem dX10_stands_272 : decode cX10_stands 272 = .ok (.goto (-22), 3) := by decide +kernel
theorem dX10_stands_275 : decode cX10_stands 275 = .ok (.aload_n 0, 1) := by decide +kernel
theorem dX10_stands_276 : decode cX10_stands 276 = .ok (.getfield 178, 3) := by decide +kernel
theorem dX10_stands_279 : decode cX10_stands 279 = .ok (.iload 4, 2) := by decide +kernel
theorem dX10_stands_281 : decode cX10_stands 281 = .ok (.isub, 1) := by decide +kernel
theorem dX10_stands_282 : decode cX10_stands 282 = .ok (.istore 5, 2) := by decide +kernel
theorem dX10_stands_284 : decode cX10_stands 284 = .ok (.iconst 0, 1) := by decide +kernel
theorem dX10_stands_285 : decode cX10_stands 285 = .ok (.istore 6, 2) := by decide +kernel
theorem dX10_stands_287 : decode cX10_stands 287 = .ok (.iload 6, 2) := by decide +kernel
theorem dX10_stands_289 : decode cX10_stands 289 = .ok (.iload 5, 2) := by decide +kernel
theorem dX10_stands_291 : decode cX10_stands 291 = .ok (.if_icmp .ge 28, 3) := by decide +kernel
theorem dX10_stands_294 : decode cX10_stands 294 = .ok (.aload_n 0, 1) := by decide +kernel
theorem dX10_stands_295 : decode cX10_stands 295 = .ok (.getfield 52, 3) := by decide +kernel
theorem dX10_stands_298 : decode cX10_stands 298 = .ok (.iload_n 2, 1) := by decide +kernel
theorem dX10_stands_299 : decode cX10_stands 299 = .ok (.iload 6, 2) := by decide +kernel
theorem dX10_stands_301 : decode cX10_stands 301 = .ok (.iadd, 1) := by decide +kernel
theorem dX10_stands_302 : decode cX10_stands 302 = .ok (.aload_n 0, 1) := by decide +kernel
theorem dX10_stands_303 : decode cX10_stands 303 = .ok (.getfield 52, 3) := by decide +kernel
theorem dX10_stands_306 : decode cX10_stands 306 = .ok (.iload 4, 2) := by decide +kernel
theorem dX10_stands_308 : decode cX10_stands 308 = .ok (.iload 6, 2) := by decide +kernel
theorem dX10_stands_310 : decode cX10_stands 310 = .ok (.iadd, 1) := by decide +kernel
theorem dX10_stands_311 : decode cX10_stands 311 = .ok (.iaload, 1) := by decide +kernel
theorem dX10_stands_312 : decode cX10_stands 312 = .ok (.iastore, 1) := by decide +kernel
theorem dX10_stands_313 : decode cX10_stands 313 = .ok (.iinc 6 1, 3) := by decide +kernel
theorem dX10_stands_316 : decode cX10_stands 316 = .ok (.goto (-29), 3) := by decide +kernel
theorem dX10_stands_319 : decode cX10_stands 319 = .ok (.aload_n 0, 1) := by decide +kernel
theorem dX10_stands_320 : decode cX10_stands 320 = .ok (.iload_n 2, 1) := by decide +kernel
theorem dX10_stands_321 : decode cX10_stands 321 = .ok (.iload 5, 2) := by decide +kernel
theorem dX10_stands_323 : decode cX10_stands 323 = .ok (.iadd, 1) := by decide +kernel
theorem dX10_stands_324 : decode cX10_stands 324 = .ok (.putfield 178, 3) := by decide +kernel
theorem dX10_stands_327 : decode cX10_stands 327 = .ok (.iload_n 2, 1) := by decide +kernel
theorem dX10_stands_328 : decode cX10_stands 328 = .ok (.ireturn, 1) := by decide +kernel
set_option maxRecDepth 20000 in
theorem ggX10_sorts_X10_compares : GoodIn wsX10_sorts wsX10_compares := goodIn_r _ [6, 7, 8, 9, 10, 5, 11, 12, 13, 14, 15, 16, 17, 18, 19, 20, 21, 22, 23, 24, 25, 26, 27, 28, 29, 30, 31, 32, 33, 34, 35, 36, 37, 38, 39, 40, 41, 42, 43, 44, 45, 46, 47, 48, 49, 50, 51, 52, 53, 54, 55, 56, 57, 58, 59, 60, 61, 62, 63, 64, 65] rfl (by decide +kernel)
set_option maxRecDepth 20000 in
theorem gX10_sorts_X10_compares : GoodIn wsX10_sorts (wsV RX10 216 RX10 yX10_compares wsX10_compares) := goodIn_app (goodIn_of _ (by decide +kernel)) ggX10_sorts_X10_compares
theorem dX10_sorts_0 : decode cX10_sorts 0 = .ok (.iconst 1, 1) := by decide +kernel
theorem dX10_sorts_1 : decode cX10_sorts 1 = .ok (.istore_n 2, 1) := by decide +kernel
theorem dX10_sorts_2 : decode cX10_sorts 2 = .ok (.iload_n 2, 1) := by decide +kernel
theorem dX10_sorts_3 : decode cX10_sorts 3 = .ok (.iload_n 1, 1) := by decide +kernel
theorem dX10_sorts_4 : decode cX10_sorts 4 = .ok (.if_icmp .ge 71, 3) := by decide +kernel
theorem dX10_sorts_7 : decode cX10_sorts 7 = .ok (.aload_n 0, 1) := by decide +kernel
theorem dX10_sorts_8 : decode cX10_sorts 8 = .ok (.getfield 55, 3) := by decide +kernel
theorem dX10_sorts_11 : decode cX10_sorts 11 = .ok (.iload_n 2, 1) := by decide +kernel
theorem dX10_sorts_12 : decode cX10_sorts 12 = .ok (.iaload, 1) := by decide +kernel
theorem dX10_sorts_13 : decode cX10_sorts 13 = .ok (.istore_n 3, 1) := by decide +kernel
theorem dX10_sorts_14 : decode cX10_sorts 14 = .ok (.iload_n 2, 1) := by decide +kernel
theorem dX10_sorts_15 : decode cX10_sorts 15 = .ok (.istore 4, 2) := by decide +kernel
theorem dX10_sorts_17 : decode cX10_sorts 17 = .ok (.iload 4, 2) := by decide +kernel
theorem dX10_sorts_19 : decode cX10_sorts 19 = .ok (.ifCond .le 42, 3) := by decide +kernel
theorem dX10_sorts_22 : decode cX10_sorts 22 = .ok (.aload_n 0, 1) := by decide +kernel
theorem dX10_sorts_23 : decode cX10_sorts 23 = .ok (.aload_n 0, 1) := by decide +kernel
theorem dX10_sorts_24 : decode cX10_sorts 24 = .ok (.getfield 55, 3) := by decide +kernel
theorem dX10_sorts_27 : decode cX10_sorts 27 = .ok (.iload 4, 2) := by decide +kernel
theorem dX10_sorts_29 : decode cX10_sorts 29 = .ok (.iconst 1, 1) := by decide +kernel
theorem dX10_sorts_30 : decode cX10_sorts 30 = .ok (.isub, 1) := by decide +kernel
theorem dX10_sorts_31 : decode cX10_sorts 31 = .ok (.iaload, 1) := by decide +kernel
theorem dX10_sorts_32 : decode cX10_sorts 32 = .ok (.iload_n 3, 1) := by decide +kernel
theorem dX10_sorts_33 : decode cX10_sorts 33 = .ok (.invokevirtual 216, 3) := by decide +kernel
theorem dX10_sorts_36 : decode cX10_sorts 36 = .ok (.ifCond .le 25, 3) := by decide +kernel
theorem dX10_sorts_39 : decode cX10_sorts 39 = .ok (.aload_n 0, 1) := by decide +kernel
theorem dX10_sorts_40 : decode cX10_sorts 40 = .ok (.getfield 55, 3) := by decide +kernel
theorem dX10_sorts_43 : decode cX10_sorts 43 = .ok (.iload 4, 2) := by decide +kernel
theorem dX10_sorts_45 : decode cX10_sorts 45 = .ok (.aload_n 0, 1) := by decide +kernel
theorem dX10_sorts_46 : decode cX10_sorts 46 = .ok (.getfield 55, 3) := by decide +kernel
theorem dX10_sorts_49 : decode cX10_sorts 49 = .ok (.iload 4, 2) := by decide +kernel
theorem dX10_sorts_51 : decode cX10_sorts 51 = .ok (.iconst 1, 1) := by decide +kernel
theorem dX10_sorts_52 : decode cX10_sorts 52 = .ok (.isub, 1) := by decide +kernel
theorem dX10_sorts_53 : decode cX10_sorts 53 = .ok (.iaload, 1) := by decide +kernel
theorem dX10_sorts_54 : decode cX10_sorts 54 = .ok (.iastore, 1) := by decide +kernel
theorem dX10_sorts_55 : decode cX10_sorts 55 = .ok (.iinc 4 (-1), 3) := by decide +kernel
theorem dX10_sorts_58 : decode cX10_sorts 58 = .ok (.goto (-41), 3) := by decide +kernel
theorem dX10_sorts_61 : decode cX10_sorts 61 = .ok (.aload_n 0, 1) := by decide +kernel
theorem dX10_sorts_62 : decode cX10_sorts 62 = .ok (.getfield 55, 3) := by decide +kernel
theorem dX10_sorts_65 : decode cX10_sorts 65 = .ok (.iload 4, 2) := by decide +kernel
theorem dX10_sorts_67 : decode cX10_sorts 67 = .ok (.iload_n 3, 1) := by decide +kernel
theorem dX10_sorts_68 : decode cX10_sorts 68 = .ok (.iastore, 1) := by decide +kernel
theorem dX10_sorts_69 : decode cX10_sorts 69 = .ok (.iinc 2 1, 3) := by decide +kernel
theorem dX10_sorts_72 : decode cX10_sorts 72 = .ok (.goto (-70), 3) := by decide +kernel
theorem dX10_sorts_75 : decode cX10_sorts 75 = .ok (.return_, 1) := by decide +kernel
theorem dX10_rowOfTerm_0 : decode cX10_rowOfTerm 0 = .ok (.iload_n 1, 1) := by decide +kernel
theorem dX10_rowOfTerm_1 : decode cX10_rowOfTerm 1 = .ok (.ireturn, 1) := by decide +kernel
theorem dX10_rowOfRule_0 : decode cX10_rowOfRule 0 = .ok (.bipush 30, 2) := by decide +kernel
theorem dX10_rowOfRule_2 : decode cX10_rowOfRule 2 = .ok (.iconst 2, 1) := by decide +kernel
theorem dX10_rowOfRule_3 : decode cX10_rowOfRule 3 = .ok (.iload_n 1, 1) := by decide +kernel
theorem dX10_rowOfRule_4 : decode cX10_rowOfRule 4 = .ok (.imul, 1) := by decide +kernel
theorem dX10_rowOfRule_5 : decode cX10_rowOfRule 5 = .ok (.iadd, 1) := by decide +kernel
theorem dX10_rowOfRule_6 : decode cX10_rowOfRule 6 = .ok (.iload_n 2, 1) := by decide +kernel
theorem dX10_rowOfRule_7 : decode cX10_rowOfRule 7 = .ok (.ifCond .eq 7, 3) := by decide +kernel
theorem dX10_rowOfRule_10 : decode cX10_rowOfRule 10 = .ok (.iconst 1, 1) := by decide +kernel
theorem dX10_rowOfRule_11 : decode cX10_rowOfRule 11 = .ok (.goto 4, 3) := by decide +kernel
theorem dX10_rowOfRule_14 : decode cX10_rowOfRule 14 = .ok (.iconst 0, 1) := by decide +kernel
theorem dX10_rowOfRule_15 : decode cX10_rowOfRule 15 = .ok (.iadd, 1) := by decide +kernel
theorem dX10_rowOfRule_16 : decode cX10_rowOfRule 16 = .ok (.ireturn, 1) := by decide +kernel
set_option maxRecDepth 20000 in
theorem ggX10_keeps_X10_behind : GoodIn wsX10_keeps wsX10_behind := goodIn_r _ [7, 8, 9, 10, 6, 11, 2, 12, 13, 14, 15, 16, 17, 18, 19, 20, 21, 22, 23, 24, 25, 26, 27, 28, 29, 30, 31, 32, 33, 34, 35, 36, 37, 38, 39, 40, 41, 42, 43, 44, 45, 46, 47, 48, 49, 50, 51, 52, 53, 54, 55, 56, 57, 58, 59, 60, 61] rfl (by decide +kernel)
set_option maxRecDepth 20000 in
theorem gX10_keeps_X10_behind : GoodIn wsX10_keeps (wsV RX10 213 RX10 yX10_behind wsX10_behind) := goodIn_app (goodIn_of _ (by decide +kernel)) ggX10_keeps_X10_behind
theorem dX10_keeps_0 : decode cX10_keeps 0 = .ok (.aload_n 0, 1) := by decide +kernel
theorem dX10_keeps_1 : decode cX10_keeps 1 = .ok (.iload_n 2, 1) := by decide +kernel
theorem dX10_keeps_2 : decode cX10_keeps 2 = .ok (.invokevirtual 213, 3) := by decide +kernel
theorem dX10_keeps_5 : decode cX10_keeps 5 = .ok (.istore_n 3, 1) := by decide +kernel
theorem dX10_keeps_6 : decode cX10_keeps 6 = .ok (.iload_n 2, 1) := by decide +kernel
theorem dX10_keeps_7 : decode cX10_keeps 7 = .ok (.istore 4, 2) := by decide +kernel
theorem dX10_keeps_9 : decode cX10_keeps 9 = .ok (.iload 4, 2) := by decide +kernel
theorem dX10_keeps_11 : decode cX10_keeps 11 = .ok (.iload_n 3, 1) := by decide +kernel
theorem dX10_keeps_12 : decode cX10_keeps 12 = .ok (.if_icmp .ge 30, 3) := by decide +kernel
theorem dX10_keeps_15 : decode cX10_keeps 15 = .ok (.aload_n 0, 1) := by decide +kernel
theorem dX10_keeps_16 : decode cX10_keeps 16 = .ok (.getfield 58, 3) := by decide +kernel
theorem dX10_keeps_19 : decode cX10_keeps 19 = .ok (.bipush 21, 2) := by decide +kernel
theorem dX10_keeps_21 : decode cX10_keeps 21 = .ok (.iload_n 1, 1) := by decide +kernel
theorem dX10_keeps_22 : decode cX10_keeps 22 = .ok (.imul, 1) := by decide +kernel
theorem dX10_keeps_23 : decode cX10_keeps 23 = .ok (.iload 4, 2) := by decide +kernel
theorem dX10_keeps_25 : decode cX10_keeps 25 = .ok (.iadd, 1) := by decide +kernel
theorem dX10_keeps_26 : decode cX10_keeps 26 = .ok (.iload_n 2, 1) := by decide +kernel
theorem dX10_keeps_27 : decode cX10_keeps 27 = .ok (.isub, 1) := by decide +kernel
theorem dX10_keeps_28 : decode cX10_keeps 28 = .ok (.aload_n 0, 1) := by decide +kernel
theorem dX10_keeps_29 : decode cX10_keeps 29 = .ok (.getfield 52, 3) := by decide +kernel
theorem dX10_keeps_32 : decode cX10_keeps 32 = .ok (.iload 4, 2) := by decide +kernel
theorem dX10_keeps_34 : decode cX10_keeps 34 = .ok (.iaload, 1) := by decide +kernel
theorem dX10_keeps_35 : decode cX10_keeps 35 = .ok (.iastore, 1) := by decide +kernel
theorem dX10_keeps_36 : decode cX10_keeps 36 = .ok (.iinc 4 1, 3) := by decide +kernel
theorem dX10_keeps_39 : decode cX10_keeps 39 = .ok (.goto (-30), 3) := by decide +kernel
theorem dX10_keeps_42 : decode cX10_keeps 42 = .ok (.return_, 1) := by decide +kernel
set_option maxRecDepth 20000 in
theorem ggX10_comes_X10_partsAt : GoodIn wsX10_comes wsX10_partsAt := goodIn_r _ [8, 2, 9, 10, 11, 12, 13, 14, 15, 16, 17, 18, 19, 20, 21, 22, 23, 24, 25, 26, 27, 28, 29, 30, 31, 32, 33, 34, 35, 36, 37, 38, 39, 40, 41, 42, 43, 44, 45, 46, 47, 48, 49, 50, 51, 52, 53, 54, 55, 56, 57, 58] rfl (by decide +kernel)
set_option maxRecDepth 20000 in
theorem gX10_comes_X10_partsAt : GoodIn wsX10_comes (wsV RX10 209 RX10 yX10_partsAt wsX10_partsAt) := goodIn_app (goodIn_of _ (by decide +kernel)) ggX10_comes_X10_partsAt
theorem dX10_comes_0 : decode cX10_comes 0 = .ok (.aload_n 0, 1) := by decide +kernel
theorem dX10_comes_1 : decode cX10_comes 1 = .ok (.getfield 178, 3) := by decide +kernel
theorem dX10_comes_4 : decode cX10_comes 4 = .ok (.istore_n 2, 1) := by decide +kernel
theorem dX10_comes_5 : decode cX10_comes 5 = .ok (.iconst 1, 1) := by decide +kernel
theorem dX10_comes_6 : decode cX10_comes 6 = .ok (.istore_n 3, 1) := by decide +kernel
theorem dX10_comes_7 : decode cX10_comes 7 = .ok (.bipush 21, 2) := by decide +kernel
theorem dX10_comes_9 : decode cX10_comes 9 = .ok (.iload_n 1, 1) := by decide +kernel
theorem dX10_comes_10 : decode cX10_comes 10 = .ok (.imul, 1) := by decide +kernel
theorem dX10_comes_11 : decode cX10_comes 11 = .ok (.istore 4, 2) := by decide +kernel
theorem dX10_comes_13 : decode cX10_comes 13 = .ok (.iload_n 3, 1) := by decide +kernel
theorem dX10_comes_14 : decode cX10_comes 14 = .ok (.ifCond .le 48, 3) := by decide +kernel
theorem dX10_comes_17 : decode cX10_comes 17 = .ok (.aload_n 0, 1) := by decide +kernel
theorem dX10_comes_18 : decode cX10_comes 18 = .ok (.getfield 52, 3) := by decide +kernel
theorem dX10_comes_21 : decode cX10_comes 21 = .ok (.aload_n 0, 1) := by decide +kernel
theorem dX10_comes_22 : decode cX10_comes 22 = .ok (.getfield 178, 3) := by decide +kernel
theorem dX10_comes_25 : decode cX10_comes 25 = .ok (.aload_n 0, 1) := by decide +kernel
theorem dX10_comes_26 : decode cX10_comes 26 = .ok (.getfield 58, 3) := by decide +kernel
theorem dX10_comes_29 : decode cX10_comes 29 = .ok (.iload 4, 2) := by decide +kernel
theorem dX10_comes_31 : decode cX10_comes 31 = .ok (.iaload, 1) := by decide +kernel
theorem dX10_comes_32 : decode cX10_comes 32 = .ok (.iastore, 1) := by decide +kernel
theorem dX10_comes_33 : decode cX10_comes 33 = .ok (.iload_n 3, 1) := by decide +kernel
theorem dX10_comes_34 : decode cX10_comes 34 = .ok (.aload_n 0, 1) := by decide +kernel
theorem dX10_comes_35 : decode cX10_comes 35 = .ok (.aload_n 0, 1) := by decide +kernel
theorem dX10_comes_36 : decode cX10_comes 36 = .ok (.getfield 178, 3) := by decide +kernel
theorem dX10_comes_39 : decode cX10_comes 39 = .ok (.invokevirtual 209, 3) := by decide +kernel
theorem dX10_comes_42 : decode cX10_comes 42 = .ok (.iconst 1, 1) := by decide +kernel
theorem dX10_comes_43 : decode cX10_comes 43 = .ok (.isub, 1) := by decide +kernel
theorem dX10_comes_44 : decode cX10_comes 44 = .ok (.iadd, 1) := by decide +kernel
theorem dX10_comes_45 : decode cX10_comes 45 = .ok (.istore_n 3, 1) := by decide +kernel
theorem dX10_comes_46 : decode cX10_comes 46 = .ok (.aload_n 0, 1) := by decide +kernel
theorem dX10_comes_47 : decode cX10_comes 47 = .ok (.dup, 1) := by decide +kernel
theorem dX10_comes_48 : decode cX10_comes 48 = .ok (.getfield 178, 3) := by decide +kernel
theorem dX10_comes_51 : decode cX10_comes 51 = .ok (.iconst 1, 1) := by decide +kernel
theorem dX10_comes_52 : decode cX10_comes 52 = .ok (.iadd, 1) := by decide +kernel
theorem dX10_comes_53 : decode cX10_comes 53 = .ok (.putfield 178, 3) := by decide +kernel
theorem dX10_comes_56 : decode cX10_comes 56 = .ok (.iinc 4 1, 3) := by decide +kernel
theorem dX10_comes_59 : decode cX10_comes 59 = .ok (.goto (-46), 3) := by decide +kernel
theorem dX10_comes_62 : decode cX10_comes 62 = .ok (.iload_n 2, 1) := by decide +kernel
theorem dX10_comes_63 : decode cX10_comes 63 = .ok (.ireturn, 1) := by decide +kernel
set_option maxRecDepth 20000 in
theorem ggX10_readsTerm_X10_word : GoodIn wsX10_readsTerm wsX10_word := goodIn_r _ [9, 10, 11, 12, 13, 14, 8, 15, 16, 17, 18, 19, 20, 21, 70, 71, 72, 73, 74, 75, 76, 77, 78, 79, 80, 81, 82, 83, 84, 85, 86, 87, 88, 89, 90, 91, 92, 93, 94, 95, 96, 97, 98, 99, 100, 101, 102, 103, 104, 105, 106, 107, 108, 109, 110, 111, 112, 113, 114, 115, 116, 117, 118, 119] rfl (by decide +kernel)
set_option maxRecDepth 20000 in
theorem gX10_readsTerm_X10_word : GoodIn wsX10_readsTerm (wsV RX10 155 RX10 yX10_word wsX10_word) := goodIn_app (goodIn_of _ (by decide +kernel)) ggX10_readsTerm_X10_word
set_option maxRecDepth 20000 in
theorem ggX10_readsTerm_X10_named : GoodIn wsX10_readsTerm wsX10_named := goodIn_r _ [25, 26, 27, 10, 11, 28, 21, 29, 70, 71, 72, 73, 74, 75, 76, 77, 78, 79, 80, 81, 82, 83, 84, 85, 86, 87, 88, 89, 90, 91, 92, 93, 94, 95, 96, 97, 98, 99, 100, 101, 102, 103, 104, 105, 106, 107, 108, 109, 110, 111, 112, 113, 114, 115, 116, 117, 118, 119] rfl (by decide +kernel)
set_option maxRecDepth 20000 in
theorem gX10_readsTerm_X10_named : GoodIn wsX10_readsTerm (wsV RX10 233 RX10 yX10_named wsX10_named) := goodIn_app (goodIn_of _ (by decide +kernel)) ggX10_readsTerm_X10_named
set_option maxRecDepth 20000 in
theorem ggX10_readsTerm_X10_codeOf : GoodIn wsX10_readsTerm wsX10_codeOf := goodIn_r _ [32] rfl (by decide +kernel)
set_option maxRecDepth 20000 in
theorem gX10_readsTerm_X10_codeOf : GoodIn wsX10_readsTerm (va_wsS RX10 223 yX10_codeOf wsX10_codeOf) := goodIn_app (goodIn_of _ (by decide +kernel)) ggX10_readsTerm_X10_codeOf
set_option maxRecDepth 20000 in
theorem ggX10_readsTerm_X10_takes : GoodIn wsX10_readsTerm wsX10_takes := goodIn_r _ [36, 10, 12, 13, 14, 8, 15, 11, 16, 17, 18, 19, 20, 21, 70, 71, 72, 73, 74, 75, 76, 77, 78, 79, 80, 81, 82, 83, 84, 85, 86, 87, 88, 89, 90, 91, 92, 93, 94, 95, 96, 97, 98, 99, 100, 101, 102, 103, 104, 105, 106, 107, 108, 109, 110, 111, 112, 113, 114, 115, 116, 117, 118, 119] rfl (by decide +kernel)
set_option maxRecDepth 20000 in
theorem gX10_readsTerm_X10_takes : GoodIn wsX10_readsTerm (wsV RX10 169 RX10 yX10_takes wsX10_takes) := goodIn_app (goodIn_of _ (by decide +kernel)) ggX10_readsTerm_X10_takes
set_option maxRecDepth 20000 in
theorem ggX10_readsTerm_X10_readsTerm : GoodIn wsX10_readsTerm wsX10_readsTerm := goodIn_r _ [0, 1, 2, 3, 4, 5, 6, 7, 8, 9, 10, 11, 12, 13, 14, 15, 16, 17, 18, 19, 20, 21, 22, 23, 24, 25, 26, 27, 28, 29, 30, 31, 32, 33, 34, 35, 36, 37, 38, 39, 40, 41, 42, 43, 44, 45, 46, 47, 48, 49, 50, 51, 52, 53, 54, 55, 56, 57, 58, 59, 60, 61, 62, 63, 64, 65, 66, 67, 68, 69, 70, 71, 72, 73, 74, 75, 76, 77, 78, 79, 80, 81, 82, 83, 84, 85, 86, 87, 88, 89, 90, 91, 92, 93, 94, 95, 96, 97, 98, 99, 100, 101, 102, 103, 104, 105, 106, 107, 108, 109, 110, 111, 112, 113, 114, 115, 116, 117, 118, 119] rfl (by decide +kernel)
set_option maxRecDepth 20000 in
theorem gX10_readsTerm_X10_readsTerm : GoodIn wsX10_readsTerm (wsV RX10 236 RX10 yX10_readsTerm wsX10_readsTerm) := goodIn_app (goodIn_of _ (by decide +kernel)) ggX10_readsTerm_X10_readsTerm
set_option maxRecDepth 20000 in
theorem ggX10_readsTerm_X10_stands : GoodIn wsX10_readsTerm wsX10_stands := goodIn_r _ [43, 2, 3, 44, 45, 1, 46, 47, 48, 8, 49, 50, 51, 52, 53, 54, 55, 56, 57, 30, 31, 32, 58, 59, 60, 61, 62, 63, 64, 65, 66, 67, 68, 69, 70, 71, 72, 73, 74, 75, 76, 77, 78, 79, 80, 81, 82, 83, 84, 85, 86, 87, 88, 89, 90, 91, 92, 93, 94, 95, 96, 97, 98, 99, 100, 101, 102, 103, 104, 105, 106, 107, 108, 109, 110, 111, 112, 113, 114, 115, 116, 117, 118, 119] rfl (by decide +kernel)
set_option maxRecDepth 20000 in
theorem gX10_readsTerm_X10_stands : GoodIn wsX10_readsTerm (wsV RX10 239 RX10 yX10_stands wsX10_stands) := goodIn_app (goodIn_of _ (by decide +kernel)) ggX10_readsTerm_X10_stands
theorem dX10_readsTerm_0 : decode cX10_readsTerm 0 = .ok (.aload_n 0, 1) := by decide +kernel
theorem dX10_readsTerm_1 : decode cX10_readsTerm 1 = .ok (.invokevirtual 155, 3) := by decide +kernel
theorem dX10_readsTerm_4 : decode cX10_readsTerm 4 = .ok (.ifCond .ne 5, 3) := by decide +kernel
theorem dX10_readsTerm_7 : decode cX10_readsTerm 7 = .ok (.iconst 0, 1) := by decide +kernel
theorem dX10_readsTerm_8 : decode cX10_readsTerm 8 = .ok (.ireturn, 1) := by decide +kernel
theorem dX10_readsTerm_9 : decode cX10_readsTerm 9 = .ok (.aload_n 0, 1) := by decide +kernel
theorem dX10_readsTerm_10 : decode cX10_readsTerm 10 = .ok (.invokevirtual 233, 3) := by decide +kernel
theorem dX10_readsTerm_13 : decode cX10_readsTerm 13 = .ok (.istore_n 1, 1) := by decide +kernel
theorem dX10_readsTerm_14 : decode cX10_readsTerm 14 = .ok (.iload_n 1, 1) := by decide +kernel
theorem dX10_readsTerm_15 : decode cX10_readsTerm 15 = .ok (.iconst (-1), 1) := by decide +kernel
theorem dX10_readsTerm_16 : decode cX10_readsTerm 16 = .ok (.if_icmp .ne 5, 3) := by decide +kernel
theorem dX10_readsTerm_19 : decode cX10_readsTerm 19 = .ok (.iconst 0, 1) := by decide +kernel
theorem dX10_readsTerm_20 : decode cX10_readsTerm 20 = .ok (.ireturn, 1) := by decide +kernel
theorem dX10_readsTerm_21 : decode cX10_readsTerm 21 = .ok (.iload_n 1, 1) := by decide +kernel
theorem dX10_readsTerm_22 : decode cX10_readsTerm 22 = .ok (.bipush 10, 2) := by decide +kernel
theorem dX10_readsTerm_24 : decode cX10_readsTerm 24 = .ok (.if_icmp .lt 28, 3) := by decide +kernel
theorem dX10_readsTerm_27 : decode cX10_readsTerm 27 = .ok (.aload_n 0, 1) := by decide +kernel
theorem dX10_readsTerm_28 : decode cX10_readsTerm 28 = .ok (.getfield 52, 3) := by decide +kernel
theorem dX10_readsTerm_31 : decode cX10_readsTerm 31 = .ok (.aload_n 0, 1) := by decide +kernel
theorem dX10_readsTerm_32 : decode cX10_readsTerm 32 = .ok (.getfield 178, 3) := by decide +kernel
theorem dX10_readsTerm_35 : decode cX10_readsTerm 35 = .ok (.iload_n 1, 1) := by decide +kernel
theorem dX10_readsTerm_36 : decode cX10_readsTerm 36 = .ok (.bipush 10, 2) := by decide +kernel
theorem dX10_readsTerm_38 : decode cX10_readsTerm 38 = .ok (.isub, 1) := by decide +kernel
theorem dX10_readsTerm_39 : decode cX10_readsTerm 39 = .ok (.iastore, 1) := by decide +kernel
theorem dX10_readsTerm_40 : decode cX10_readsTerm 40 = .ok (.aload_n 0, 1) := by decide +kernel
theorem dX10_readsTerm_41 : decode cX10_readsTerm 41 = .ok (.dup, 1) := by decide +kernel
theorem dX10_readsTerm_42 : decode cX10_readsTerm 42 = .ok (.getfield 178, 3) := by decide +kernel
theorem dX10_readsTerm_45 : decode cX10_readsTerm 45 = .ok (.iconst 1, 1) := by decide +kernel
theorem dX10_readsTerm_46 : decode cX10_readsTerm 46 = .ok (.iadd, 1) := by decide +kernel
theorem dX10_readsTerm_47 : decode cX10_readsTerm 47 = .ok (.putfield 178, 3) := by decide +kernel
theorem dX10_readsTerm_50 : decode cX10_readsTerm 50 = .ok (.iconst 1, 1) := by decide +kernel
theorem dX10_readsTerm_51 : decode cX10_readsTerm 51 = .ok (.ireturn, 1) := by decide +kernel
theorem dX10_readsTerm_52 : decode cX10_readsTerm 52 = .ok (.aload_n 0, 1) := by decide +kernel
theorem dX10_readsTerm_53 : decode cX10_readsTerm 53 = .ok (.getfield 178, 3) := by decide +kernel
theorem dX10_readsTerm_56 : decode cX10_readsTerm 56 = .ok (.istore_n 2, 1) := by decide +kernel
theorem dX10_readsTerm_57 : decode cX10_readsTerm 57 = .ok (.aload_n 0, 1) := by decide +kernel
theorem dX10_readsTerm_58 : decode cX10_readsTerm 58 = .ok (.getfield 33, 3) := by decide +kernel
theorem dX10_readsTerm_61 : decode cX10_readsTerm 61 = .ok (.iload_n 1, 1) := by decide +kernel
theorem dX10_readsTerm_62 : decode cX10_readsTerm 62 = .ok (.iaload, 1) := by decide +kernel
theorem dX10_readsTerm_63 : decode cX10_readsTerm 63 = .ok (.ifCond .ne 38, 3) := by decide +kernel
theorem dX10_readsTerm_66 : decode cX10_readsTerm 66 = .ok (.aload_n 0, 1) := by decide +kernel
theorem dX10_readsTerm_67 : decode cX10_readsTerm 67 = .ok (.getfield 36, 3) := by decide +kernel
theorem dX10_readsTerm_70 : decode cX10_readsTerm 70 = .ok (.iload_n 1, 1) := by decide +kernel
theorem dX10_readsTerm_71 : decode cX10_readsTerm 71 = .ok (.iaload, 1) := by decide +kernel
theorem dX10_readsTerm_72 : decode cX10_readsTerm 72 = .ok (.ifCond .ne 29, 3) := by decide +kernel
theorem dX10_readsTerm_75 : decode cX10_readsTerm 75 = .ok (.aload_n 0, 1) := by decide +kernel
theorem dX10_readsTerm_76 : decode cX10_readsTerm 76 = .ok (.getfield 52, 3) := by decide +kernel
theorem dX10_readsTerm_79 : decode cX10_readsTerm 79 = .ok (.aload_n 0, 1) := by decide +kernel
theorem dX10_readsTerm_80 : decode cX10_readsTerm 80 = .ok (.getfield 178, 3) := by decide +kernel
theorem dX10_readsTerm_83 : decode cX10_readsTerm 83 = .ok (.iload_n 1, 1) := by decide +kernel
theorem dX10_readsTerm_84 : decode cX10_readsTerm 84 = .ok (.iconst 0, 1) := by decide +kernel
theorem dX10_readsTerm_85 : decode cX10_readsTerm 85 = .ok (.invokestatic 223, 3) := by decide +kernel
theorem dX10_readsTerm_88 : decode cX10_readsTerm 88 = .ok (.iastore, 1) := by decide +kernel
theorem dX10_readsTerm_89 : decode cX10_readsTerm 89 = .ok (.aload_n 0, 1) := by decide +kernel
theorem dX10_readsTerm_90 : decode cX10_readsTerm 90 = .ok (.dup, 1) := by decide +kernel
theorem dX10_readsTerm_91 : decode cX10_readsTerm 91 = .ok (.getfield 178, 3) := by decide +kernel
theorem dX10_readsTerm_94 : decode cX10_readsTerm 94 = .ok (.iconst 1, 1) := by decide +kernel
theorem dX10_readsTerm_95 : decode cX10_readsTerm 95 = .ok (.iadd, 1) := by decide +kernel
theorem dX10_readsTerm_96 : decode cX10_readsTerm 96 = .ok (.putfield 178, 3) := by decide +kernel
theorem dX10_readsTerm_99 : decode cX10_readsTerm 99 = .ok (.iconst 1, 1) := by decide +kernel
theorem dX10_readsTerm_100 : decode cX10_readsTerm 100 = .ok (.ireturn, 1) := by decide +kernel
theorem dX10_readsTerm_101 : decode cX10_readsTerm 101 = .ok (.aload_n 0, 1) := by decide +kernel
theorem dX10_readsTerm_102 : decode cX10_readsTerm 102 = .ok (.bipush 40, 2) := by decide +kernel
theorem dX10_readsTerm_104 : decode cX10_readsTerm 104 = .ok (.invokevirtual 169, 3) := by decide +kernel
theorem dX10_readsTerm_107 : decode cX10_readsTerm 107 = .ok (.ifCond .ne 5, 3) := by decide +kernel
theorem dX10_readsTerm_110 : decode cX10_readsTerm 110 = .ok (.iconst 0, 1) := by decide +kernel
theorem dX10_readsTerm_111 : decode cX10_readsTerm 111 = .ok (.ireturn, 1) := by decide +kernel
theorem dX10_readsTerm_112 : decode cX10_readsTerm 112 = .ok (.aload_n 0, 1) := by decide +kernel
theorem dX10_readsTerm_113 : decode cX10_readsTerm 113 = .ok (.getfield 36, 3) := by decide +kernel
theorem dX10_readsTerm_116 : decode cX10_readsTerm 116 = .ok (.iload_n 1, 1) := by decide +kernel
theorem dX10_readsTerm_117 : decode cX10_readsTerm 117 = .ok (.iaload, 1) := by decide +kernel
theorem dX10_readsTerm_118 : decode cX10_readsTerm 118 = .ok (.istore_n 3, 1) := by decide +kernel
theorem dX10_readsTerm_119 : decode cX10_readsTerm 119 = .ok (.aload_n 0, 1) := by decide +kernel
theorem dX10_readsTerm_120 : decode cX10_readsTerm 120 = .ok (.getfield 33, 3) := by decide +kernel
theorem dX10_readsTerm_123 : decode cX10_readsTerm 123 = .ok (.iload_n 1, 1) := by decide +kernel
theorem dX10_readsTerm_124 : decode cX10_readsTerm 124 = .ok (.iaload, 1) := by decide +kernel
theorem dX10_readsTerm_125 : decode cX10_readsTerm 125 = .ok (.iconst 2, 1) := by decide +kernel
theorem dX10_readsTerm_126 : decode cX10_readsTerm 126 = .ok (.if_icmp .ne 8, 3) := by decide +kernel
theorem dX10_readsTerm_129 : decode cX10_readsTerm 129 = .ok (.bipush 9, 2) := by decide +kernel
theorem dX10_readsTerm_131 : decode cX10_readsTerm 131 = .ok (.goto 9, 3) := by decide +kernel
theorem dX10_readsTerm_134 : decode cX10_readsTerm 134 = .ok (.aload_n 0, 1) := by decide +kernel
theorem dX10_readsTerm_135 : decode cX10_readsTerm 135 = .ok (.getfield 36, 3) := by decide +kernel
theorem dX10_readsTerm_138 : decode cX10_readsTerm 138 = .ok (.iload_n 1, 1) := by decide +kernel
theorem dX10_readsTerm_139 : decode cX10_readsTerm 139 = .ok (.iaload, 1) := by decide +kernel
theorem dX10_readsTerm_140 : decode cX10_readsTerm 140 = .ok (.istore 4, 2) := by decide +kernel
theorem dX10_readsTerm_142 : decode cX10_readsTerm 142 = .ok (.iconst 1, 1) := by decide +kernel
theorem dX10_readsTerm_143 : decode cX10_readsTerm 143 = .ok (.istore 5, 2) := by decide +kernel
theorem dX10_readsTerm_145 : decode cX10_readsTerm 145 = .ok (.aload_n 0, 1) := by decide +kernel
theorem dX10_readsTerm_146 : decode cX10_readsTerm 146 = .ok (.invokevirtual 236, 3) := by decide +kernel
theorem dX10_readsTerm_149 : decode cX10_readsTerm 149 = .ok (.ifCond .ne 5, 3) := by decide +kernel
theorem dX10_readsTerm_152 : decode cX10_readsTerm 152 = .ok (.iconst 0, 1) := by decide +kernel
theorem dX10_readsTerm_153 : decode cX10_readsTerm 153 = .ok (.ireturn, 1) := by decide +kernel
theorem dX10_readsTerm_154 : decode cX10_readsTerm 154 = .ok (.iload 5, 2) := by decide +kernel
theorem dX10_readsTerm_156 : decode cX10_readsTerm 156 = .ok (.iload_n 3, 1) := by decide +kernel
theorem dX10_readsTerm_157 : decode cX10_readsTerm 157 = .ok (.if_icmp .lt 15, 3) := by decide +kernel
theorem dX10_readsTerm_160 : decode cX10_readsTerm 160 = .ok (.aload_n 0, 1) := by decide +kernel
theorem dX10_readsTerm_161 : decode cX10_readsTerm 161 = .ok (.bipush 41, 2) := by decide +kernel
theorem dX10_readsTerm_163 : decode cX10_readsTerm 163 = .ok (.invokevirtual 169, 3) := by decide +kernel
theorem dX10_readsTerm_166 : decode cX10_readsTerm 166 = .ok (.ifCond .eq 6, 3) := by decide +kernel
theorem dX10_readsTerm_169 : decode cX10_readsTerm 169 = .ok (.goto 27, 3) := by decide +kernel
theorem dX10_readsTerm_172 : decode cX10_readsTerm 172 = .ok (.iload 5, 2) := by decide +kernel
theorem dX10_readsTerm_174 : decode cX10_readsTerm 174 = .ok (.iload 4, 2) := by decide +kernel
theorem dX10_readsTerm_176 : decode cX10_readsTerm 176 = .ok (.if_icmp .eq 12, 3) := by decide +kernel
theorem dX10_readsTerm_179 : decode cX10_readsTerm 179 = .ok (.aload_n 0, 1) := by decide +kernel
theorem dX10_readsTerm_180 : decode cX10_readsTerm 180 = .ok (.bipush 44, 2) := by decide +kernel
theorem dX10_readsTerm_182 : decode cX10_readsTerm 182 = .ok (.invokevirtual 169, 3) := by decide +kernel
theorem dX10_readsTerm_185 : decode cX10_readsTerm 185 = .ok (.ifCond .ne 5, 3) := by decide +kernel
theorem dX10_readsTerm_188 : decode cX10_readsTerm 188 = .ok (.iconst 0, 1) := by decide +kernel
theorem dX10_readsTerm_189 : decode cX10_readsTerm 189 = .ok (.ireturn, 1) := by decide +kernel
theorem dX10_readsTerm_190 : decode cX10_readsTerm 190 = .ok (.iinc 5 1, 3) := by decide +kernel
theorem dX10_readsTerm_193 : decode cX10_readsTerm 193 = .ok (.goto (-48), 3) := by decide +kernel
theorem dX10_readsTerm_196 : decode cX10_readsTerm 196 = .ok (.aload_n 0, 1) := by decide +kernel
theorem dX10_readsTerm_197 : decode cX10_readsTerm 197 = .ok (.iload_n 1, 1) := by decide +kernel
theorem dX10_readsTerm_198 : decode cX10_readsTerm 198 = .ok (.iload_n 2, 1) := by decide +kernel
theorem dX10_readsTerm_199 : decode cX10_readsTerm 199 = .ok (.invokevirtual 239, 3) := by decide +kernel
theorem dX10_readsTerm_202 : decode cX10_readsTerm 202 = .ok (.istore 5, 2) := by decide +kernel
theorem dX10_readsTerm_204 : decode cX10_readsTerm 204 = .ok (.iload 5, 2) := by decide +kernel
theorem dX10_readsTerm_206 : decode cX10_readsTerm 206 = .ok (.iload_n 2, 1) := by decide +kernel
theorem dX10_readsTerm_207 : decode cX10_readsTerm 207 = .ok (.if_icmp .ne 7, 3) := by decide +kernel
theorem dX10_readsTerm_210 : decode cX10_readsTerm 210 = .ok (.iconst 1, 1) := by decide +kernel
theorem dX10_readsTerm_211 : decode cX10_readsTerm 211 = .ok (.goto 4, 3) := by decide +kernel
theorem dX10_readsTerm_214 : decode cX10_readsTerm 214 = .ok (.iconst 0, 1) := by decide +kernel
theorem dX10_readsTerm_215 : decode cX10_readsTerm 215 = .ok (.ireturn, 1) := by decide +kernel
set_option maxRecDepth 20000 in
theorem ggX10_told_X10_rowOfTerm : GoodIn wsX10_told wsX10_rowOfTerm := goodIn_r _ [7] rfl (by decide +kernel)
set_option maxRecDepth 20000 in
theorem gX10_told_X10_rowOfTerm : GoodIn wsX10_told (wsV RX10 242 RX10 yX10_rowOfTerm wsX10_rowOfTerm) := goodIn_app (goodIn_of _ (by decide +kernel)) ggX10_told_X10_rowOfTerm
set_option maxRecDepth 20000 in
theorem ggX10_told_X10_comes : GoodIn wsX10_told wsX10_comes := goodIn_r _ [11, 1, 12, 13, 14, 15, 16, 6, 17, 34, 35, 36, 37, 38, 39, 40, 41, 42, 43, 44, 45, 46, 47, 48, 49, 50, 51, 52, 53, 54, 55, 56, 57, 58, 59, 60, 61, 62, 63, 64, 65, 66, 67, 68, 69, 70, 71, 72, 73, 74, 75, 76, 77, 78, 79, 80, 81, 82, 83] rfl (by decide +kernel)
set_option maxRecDepth 20000 in
theorem gX10_told_X10_comes : GoodIn wsX10_told (wsV RX10 245 RX10 yX10_comes wsX10_comes) := goodIn_app (goodIn_of _ (by decide +kernel)) ggX10_told_X10_comes
set_option maxRecDepth 20000 in
theorem ggX10_told_X10_areAlike : GoodIn wsX10_told wsX10_areAlike := goodIn_r _ [21, 22, 23, 24, 6, 25, 12, 26, 27, 28, 29, 14, 15, 16, 17, 34, 35, 36, 37, 38, 39, 40, 41, 42, 43, 44, 45, 46, 47, 48, 49, 50, 51, 52, 53, 54, 55, 56, 57, 58, 59, 60, 61, 62, 63, 64, 65, 66, 67, 68, 69, 70, 71, 72, 73, 74, 75, 76, 77, 78, 79, 80, 81, 82, 83] rfl (by decide +kernel)
set_option maxRecDepth 20000 in
theorem gX10_told_X10_areAlike : GoodIn wsX10_told (wsV RX10 248 RX10 yX10_areAlike wsX10_areAlike) := goodIn_app (goodIn_of _ (by decide +kernel)) ggX10_told_X10_areAlike
set_option maxRecDepth 20000 in
theorem ggX10_told_X10_keeps : GoodIn wsX10_told wsX10_keeps := goodIn_r _ [33, 13, 12, 26, 27, 28, 6, 29, 14, 15, 16, 17, 34, 35, 36, 37, 38, 39, 40, 41, 42, 43, 44, 45, 46, 47, 48, 49, 50, 51, 52, 53, 54, 55, 56, 57, 58, 59, 60, 61, 62, 63, 64, 65, 66, 67, 68, 69, 70, 71, 72, 73, 74, 75, 76, 77, 78, 79, 80, 81, 82, 83] rfl (by decide +kernel)
set_option maxRecDepth 20000 in
theorem gX10_told_X10_keeps : GoodIn wsX10_told (wsV RX10 251 RX10 yX10_keeps wsX10_keeps) := goodIn_app (goodIn_of _ (by decide +kernel)) ggX10_told_X10_keeps
theorem dX10_told_0 : decode cX10_told 0 = .ok (.aload_n 0, 1) := by decide +kernel
theorem dX10_told_1 : decode cX10_told 1 = .ok (.getfield 178, 3) := by decide +kernel
theorem dX10_told_4 : decode cX10_told 4 = .ok (.istore_n 2, 1) := by decide +kernel
theorem dX10_told_5 : decode cX10_told 5 = .ok (.iconst 0, 1) := by decide +kernel
theorem dX10_told_6 : decode cX10_told 6 = .ok (.istore_n 3, 1) := by decide +kernel
theorem dX10_told_7 : decode cX10_told 7 = .ok (.iload_n 3, 1) := by decide +kernel
theorem dX10_told_8 : decode cX10_told 8 = .ok (.aload_n 0, 1) := by decide +kernel
theorem dX10_told_9 : decode cX10_told 9 = .ok (.getfield 196, 3) := by decide +kernel
theorem dX10_told_12 : decode cX10_told 12 = .ok (.if_icmp .ge 37, 3) := by decide +kernel
theorem dX10_told_15 : decode cX10_told 15 = .ok (.aload_n 0, 1) := by decide +kernel
theorem dX10_told_16 : decode cX10_told 16 = .ok (.aload_n 0, 1) := by decide +kernel
theorem dX10_told_17 : decode cX10_told 17 = .ok (.aload_n 0, 1) := by decide +kernel
theorem dX10_told_18 : decode cX10_told 18 = .ok (.iload_n 3, 1) := by decide +kernel
theorem dX10_told_19 : decode cX10_told 19 = .ok (.invokevirtual 242, 3) := by decide +kernel
theorem dX10_told_22 : decode cX10_told 22 = .ok (.invokevirtual 245, 3) := by decide +kernel
theorem dX10_told_25 : decode cX10_told 25 = .ok (.iload_n 1, 1) := by decide +kernel
theorem dX10_told_26 : decode cX10_told 26 = .ok (.invokevirtual 248, 3) := by decide +kernel
theorem dX10_told_29 : decode cX10_told 29 = .ok (.istore 4, 2) := by decide +kernel
theorem dX10_told_31 : decode cX10_told 31 = .ok (.aload_n 0, 1) := by decide +kernel
theorem dX10_told_32 : decode cX10_told 32 = .ok (.iload_n 2, 1) := by decide +kernel
theorem dX10_told_33 : decode cX10_told 33 = .ok (.putfield 178, 3) := by decide +kernel
theorem dX10_told_36 : decode cX10_told 36 = .ok (.iload 4, 2) := by decide +kernel
theorem dX10_told_38 : decode cX10_told 38 = .ok (.ifCond .eq 5, 3) := by decide +kernel
theorem dX10_told_41 : decode cX10_told 41 = .ok (.iload_n 3, 1) := by decide +kernel
theorem dX10_told_42 : decode cX10_told 42 = .ok (.ireturn, 1) := by decide +kernel
theorem dX10_told_43 : decode cX10_told 43 = .ok (.iinc 3 1, 3) := by decide +kernel
theorem dX10_told_46 : decode cX10_told 46 = .ok (.goto (-39), 3) := by decide +kernel
theorem dX10_told_49 : decode cX10_told 49 = .ok (.aload_n 0, 1) := by decide +kernel
theorem dX10_told_50 : decode cX10_told 50 = .ok (.getfield 196, 3) := by decide +kernel
theorem dX10_told_53 : decode cX10_told 53 = .ok (.bipush 30, 2) := by decide +kernel
theorem dX10_told_55 : decode cX10_told 55 = .ok (.if_icmp .ne 5, 3) := by decide +kernel
theorem dX10_told_58 : decode cX10_told 58 = .ok (.iconst (-1), 1) := by decide +kernel
theorem dX10_told_59 : decode cX10_told 59 = .ok (.ireturn, 1) := by decide +kernel
theorem dX10_told_60 : decode cX10_told 60 = .ok (.aload_n 0, 1) := by decide +kernel
theorem dX10_told_61 : decode cX10_told 61 = .ok (.aload_n 0, 1) := by decide +kernel
theorem dX10_told_62 : decode cX10_told 62 = .ok (.aload_n 0, 1) := by decide +kernel
theorem dX10_told_63 : decode cX10_told 63 = .ok (.getfield 196, 3) := by decide +kernel
theorem dX10_told_66 : decode cX10_told 66 = .ok (.invokevirtual 242, 3) := by decide +kernel
theorem dX10_told_69 : decode cX10_told 69 = .ok (.iload_n 1, 1) := by decide +kernel
theorem dX10_told_70 : decode cX10_told 70 = .ok (.invokevirtual 251, 3) := by decide +kernel
theorem dX10_told_73 : decode cX10_told 73 = .ok (.aload_n 0, 1) := by decide +kernel
theorem dX10_told_74 : decode cX10_told 74 = .ok (.dup, 1) := by decide +kernel
theorem dX10_told_75 : decode cX10_told 75 = .ok (.getfield 196, 3) := by decide +kernel
theorem dX10_told_78 : decode cX10_told 78 = .ok (.iconst 1, 1) := by decide +kernel
theorem dX10_told_79 : decode cX10_told 79 = .ok (.iadd, 1) := by decide +kernel
theorem dX10_told_80 : decode cX10_told 80 = .ok (.putfield 196, 3) := by decide +kernel
theorem dX10_told_83 : decode cX10_told 83 = .ok (.aload_n 0, 1) := by decide +kernel
theorem dX10_told_84 : decode cX10_told 84 = .ok (.getfield 196, 3) := by decide +kernel
theorem dX10_told_87 : decode cX10_told 87 = .ok (.iconst 1, 1) := by decide +kernel
theorem dX10_told_88 : decode cX10_told 88 = .ok (.isub, 1) := by decide +kernel
theorem dX10_told_89 : decode cX10_told 89 = .ok (.ireturn, 1) := by decide +kernel
set_option maxRecDepth 20000 in
theorem ggX10_term_X10_begins : GoodIn wsX10_term wsX10_begins := goodIn_r _ [5, 6, 7, 8, 9, 10, 11, 116, 117, 118, 119, 120, 121, 122, 123, 124, 125, 126, 127, 128, 129, 130, 131, 132, 133, 134, 135, 136, 137, 138, 139, 140, 141, 142, 143, 144, 145, 146, 147, 148, 149, 150, 151, 152, 153, 154, 155, 156, 157, 158, 159, 160, 161, 162, 163, 164, 165] rfl (by decide +kernel)
set_option maxRecDepth 20000 in
theorem gX10_term_X10_begins : GoodIn wsX10_term (wsV RX10 181 RX10 yX10_begins wsX10_begins) := goodIn_app (goodIn_of _ (by decide +kernel)) ggX10_term_X10_begins
set_option maxRecDepth 20000 in
theorem ggX10_term_X10_readsTerm : GoodIn wsX10_term wsX10_readsTerm := goodIn_r _ [15, 16, 11, 17, 18, 19, 20, 21, 4, 22, 9, 23, 24, 25, 26, 27, 28, 29, 30, 31, 8, 32, 33, 34, 35, 36, 37, 38, 39, 40, 41, 42, 43, 44, 45, 46, 47, 12, 13, 14, 48, 49, 50, 51, 52, 53, 54, 55, 56, 57, 58, 59, 60, 61, 62, 63, 64, 65, 66, 67, 68, 69, 70, 71, 72, 73, 74, 75, 76, 77, 116, 117, 118, 119, 120, 121, 122, 123, 124, 125, 126, 127, 128, 129, 130, 131, 132, 133, 134, 135, 136, 137, 138, 139, 140, 141, 142, 143, 144, 145, 146, 147, 148, 149, 150, 151, 152, 153, 154, 155, 156, 157, 158, 159, 160, 161, 162, 163, 164, 165] rfl (by decide +kernel)
set_option maxRecDepth 20000 in
theorem gX10_term_X10_readsTerm : GoodIn wsX10_term (wsV RX10 236 RX10 yX10_readsTerm wsX10_readsTerm) := goodIn_app (goodIn_of _ (by decide +kernel)) ggX10_term_X10_readsTerm
set_option maxRecDepth 20000 in
theorem ggX10_term_X10_isOver : GoodIn wsX10_term wsX10_isOver := goodIn_r _ [81, 9, 8, 24, 25, 26, 4, 27, 23, 28, 29, 30, 31, 32, 116, 117, 118, 119, 120, 121, 122, 123, 124, 125, 126, 127, 128, 129, 130, 131, 132, 133, 134, 135, 136, 137, 138, 139, 140, 141, 142, 143, 144, 145, 146, 147, 148, 149, 150, 151, 152, 153, 154, 155, 156, 157, 158, 159, 160, 161, 162, 163, 164, 165] rfl (by decide +kernel)
set_option maxRecDepth 20000 in
theorem gX10_term_X10_isOver : GoodIn wsX10_term (wsV RX10 255 RX10 yX10_isOver wsX10_isOver) := goodIn_app (goodIn_of _ (by decide +kernel)) ggX10_term_X10_isOver
set_option maxRecDepth 20000 in
theorem ggX10_term_X10_wrong : GoodIn wsX10_term wsX10_wrong := goodIn_r _ [85, 23, 10, 6, 116, 117, 118, 119, 120, 121, 122, 123, 124, 125, 126, 127, 128, 129, 130, 131, 132, 133, 134, 135, 136, 137, 138, 139, 140, 141, 142, 143, 144, 145, 146, 147, 148, 149, 150, 151, 152, 153, 154, 155, 156, 157, 158, 159, 160, 161, 162, 163, 164, 165] rfl (by decide +kernel)
set_option maxRecDepth 20000 in
theorem gX10_term_X10_wrong : GoodIn wsX10_term (wsV RX10 187 RX10 yX10_wrong wsX10_wrong) := goodIn_app (goodIn_of _ (by decide +kernel)) ggX10_term_X10_wrong
set_option maxRecDepth 20000 in
theorem ggX10_term_X10_isGreat : GoodIn wsX10_term wsX10_isGreat := goodIn_r _ [89, 16, 17, 58, 59, 60, 4, 61, 62, 63, 64, 65, 54, 55, 56, 57, 116, 117, 118, 119, 120, 121, 122, 123, 124, 125, 126, 127, 128, 129, 130, 131, 132, 133, 134, 135, 136, 137, 138, 139, 140, 141, 142, 143, 144, 145, 146, 147, 148, 149, 150, 151, 152, 153, 154, 155, 156, 157, 158, 159, 160, 161, 162, 163, 164, 165] rfl (by decide +kernel)
set_option maxRecDepth 20000 in
theorem gX10_term_X10_isGreat : GoodIn wsX10_term (wsV RX10 258 RX10 yX10_isGreat wsX10_isGreat) := goodIn_app (goodIn_of _ (by decide +kernel)) ggX10_term_X10_isGreat
set_option maxRecDepth 20000 in
theorem ggX10_term_X10_told : GoodIn wsX10_term wsX10_told := goodIn_r _ [93, 11, 94, 95, 96, 97, 4, 98, 99, 100, 101, 102, 16, 103, 62, 63, 64, 65, 104, 105, 106, 107, 70, 71, 72, 73, 58, 59, 60, 61, 108, 109, 110, 111, 116, 117, 118, 119, 120, 121, 122, 123, 124, 125, 126, 127, 128, 129, 130, 131, 132, 133, 134, 135, 136, 137, 138, 139, 140, 141, 142, 143, 144, 145, 146, 147, 148, 149, 150, 151, 152, 153, 154, 155, 156, 157, 158, 159, 160, 161, 162, 163, 164, 165] rfl (by decide +kernel)
set_option maxRecDepth 20000 in
theorem gX10_term_X10_told : GoodIn wsX10_term (wsV RX10 261 RX10 yX10_told wsX10_told) := goodIn_app (goodIn_of _ (by decide +kernel)) ggX10_term_X10_told
set_option maxRecDepth 20000 in
theorem ggX10_term_X10_throwsIf : GoodIn wsX10_term wsX10_throwsIf := goodIn_r _ [115, 6, 116, 117, 118, 119, 120, 121, 122, 123, 124, 125, 126, 127, 128, 129, 130, 131, 132, 133, 134, 135, 136, 137, 138, 139, 140, 141, 142, 143, 144, 145, 146, 147, 148, 149, 150, 151, 152, 153, 154, 155, 156, 157, 158, 159, 160, 161, 162, 163, 164, 165] rfl (by decide +kernel)
set_option maxRecDepth 20000 in
theorem gX10_term_X10_throwsIf : GoodIn wsX10_term (wsV RX10 264 RX10 yX10_throwsIf wsX10_throwsIf) := goodIn_app (goodIn_of _ (by decide +kernel)) ggX10_term_X10_throwsIf
theorem dX10_term_0 : decode cX10_term 0 = .ok (.aload_n 0, 1) := by decide +kernel
theorem dX10_term_1 : decode cX10_term 1 = .ok (.invokevirtual 181, 3) := by decide +kernel
theorem dX10_term_4 : decode cX10_term 4 = .ok (.aload_n 0, 1) := by decide +kernel
theorem dX10_term_5 : decode cX10_term 5 = .ok (.invokevirtual 236, 3) := by decide +kernel
theorem dX10_term_8 : decode cX10_term 8 = .ok (.ifCond .eq 10, 3) := by decide +kernel
theorem dX10_term_11 : decode cX10_term 11 = .ok (.aload_n 0, 1) := by decide +kernel
theorem dX10_term_12 : decode cX10_term 12 = .ok (.invokevirtual 255, 3) := by decide +kernel
theorem dX10_term_15 : decode cX10_term 15 = .ok (.ifCond .ne 8, 3) := by decide +kernel
theorem dX10_term_18 : decode cX10_term 18 = .ok (.aload_n 0, 1) := by decide +kernel
theorem dX10_term_19 : decode cX10_term 19 = .ok (.invokevirtual 187, 3) := by decide +kernel
theorem dX10_term_22 : decode cX10_term 22 = .ok (.ireturn, 1) := by decide +kernel
theorem dX10_term_23 : decode cX10_term 23 = .ok (.aload_n 0, 1) := by decide +kernel
theorem dX10_term_24 : decode cX10_term 24 = .ok (.iconst 0, 1) := by decide +kernel
theorem dX10_term_25 : decode cX10_term 25 = .ok (.invokevirtual 258, 3) := by decide +kernel
theorem dX10_term_28 : decode cX10_term 28 = .ok (.ifCond .eq 7, 3) := by decide +kernel
theorem dX10_term_31 : decode cX10_term 31 = .ok (.iconst (-1), 1) := by decide +kernel
theorem dX10_term_32 : decode cX10_term 32 = .ok (.goto 8, 3) := by decide +kernel
theorem dX10_term_35 : decode cX10_term 35 = .ok (.aload_n 0, 1) := by decide +kernel
theorem dX10_term_36 : decode cX10_term 36 = .ok (.iconst 0, 1) := by decide +kernel
theorem dX10_term_37 : decode cX10_term 37 = .ok (.invokevirtual 261, 3) := by decide +kernel
theorem dX10_term_40 : decode cX10_term 40 = .ok (.istore_n 1, 1) := by decide +kernel
theorem dX10_term_41 : decode cX10_term 41 = .ok (.aload_n 0, 1) := by decide +kernel
theorem dX10_term_42 : decode cX10_term 42 = .ok (.iload_n 1, 1) := by decide +kernel
theorem dX10_term_43 : decode cX10_term 43 = .ok (.iconst (-1), 1) := by decide +kernel
theorem dX10_term_44 : decode cX10_term 44 = .ok (.if_icmp .ne 7, 3) := by decide +kernel
theorem dX10_term_47 : decode cX10_term 47 = .ok (.iconst 1, 1) := by decide +kernel
theorem dX10_term_48 : decode cX10_term 48 = .ok (.goto 4, 3) := by decide +kernel
theorem dX10_term_51 : decode cX10_term 51 = .ok (.iconst 0, 1) := by decide +kernel
theorem dX10_term_52 : decode cX10_term 52 = .ok (.iconst 2, 1) := by decide +kernel
theorem dX10_term_53 : decode cX10_term 53 = .ok (.invokevirtual 264, 3) := by decide +kernel
theorem dX10_term_56 : decode cX10_term 56 = .ok (.ifCond .eq 7, 3) := by decide +kernel
theorem dX10_term_59 : decode cX10_term 59 = .ok (.iconst 0, 1) := by decide +kernel
theorem dX10_term_60 : decode cX10_term 60 = .ok (.goto 4, 3) := by decide +kernel
theorem dX10_term_63 : decode cX10_term 63 = .ok (.iload_n 1, 1) := by decide +kernel
theorem dX10_term_64 : decode cX10_term 64 = .ok (.ireturn, 1) := by decide +kernel
set_option maxRecDepth 20000 in
theorem ggX10_isOver_X10_blanks : GoodIn wsX10_isOver wsX10_blanks := goodIn_r _ [7, 1, 8, 9, 10, 11, 6, 12, 2, 13, 14, 15, 16, 17, 18, 19, 20, 21, 22, 23, 24, 25, 26, 27, 28, 29, 30, 31, 32, 33, 34, 35, 36, 37, 38, 39, 40, 41, 42, 43, 44, 45, 46, 47, 48, 49, 50, 51, 52, 53, 54, 55, 56, 57, 58, 59, 60, 61, 62, 63] rfl (by decide +kernel)
set_option maxRecDepth 20000 in
theorem gX10_isOver_X10_blanks : GoodIn wsX10_isOver (wsV RX10 119 RX10 yX10_blanks wsX10_blanks) := goodIn_app (goodIn_of _ (by decide +kernel)) ggX10_isOver_X10_blanks
theorem dX10_isOver_0 : decode cX10_isOver 0 = .ok (.aload_n 0, 1) := by decide +kernel
theorem dX10_isOver_1 : decode cX10_isOver 1 = .ok (.invokevirtual 119, 3) := by decide +kernel
theorem dX10_isOver_4 : decode cX10_isOver 4 = .ok (.aload_n 0, 1) := by decide +kernel
theorem dX10_isOver_5 : decode cX10_isOver 5 = .ok (.getfield 106, 3) := by decide +kernel
theorem dX10_isOver_8 : decode cX10_isOver 8 = .ok (.aload_n 0, 1) := by decide +kernel
theorem dX10_isOver_9 : decode cX10_isOver 9 = .ok (.getfield 109, 3) := by decide +kernel
theorem dX10_isOver_12 : decode cX10_isOver 12 = .ok (.if_icmp .ne 7, 3) := by decide +kernel
theorem dX10_isOver_15 : decode cX10_isOver 15 = .ok (.iconst 1, 1) := by decide +kernel
theorem dX10_isOver_16 : decode cX10_isOver 16 = .ok (.goto 4, 3) := by decide +kernel
theorem dX10_isOver_19 : decode cX10_isOver 19 = .ok (.iconst 0, 1) := by decide +kernel
theorem dX10_isOver_20 : decode cX10_isOver 20 = .ok (.ireturn, 1) := by decide +kernel
set_option maxRecDepth 20000 in
theorem ggX10_variablesAt_X10_behind : GoodIn wsX10_variablesAt wsX10_behind := goodIn_r _ [6, 7, 8, 9, 5, 10, 1, 11, 12, 13, 14, 15, 16, 17, 18, 19, 20, 21, 22, 23, 24, 25, 26, 27, 28, 29, 30, 31, 32, 33, 34, 35, 36, 37, 38, 39, 40, 41, 42, 43, 44, 45, 46, 47, 48, 49, 50, 51, 52, 53, 54, 55, 56, 57, 58, 59, 60] rfl (by decide +kernel)
set_option maxRecDepth 20000 in
theorem gX10_variablesAt_X10_behind : GoodIn wsX10_variablesAt (wsV RX10 213 RX10 yX10_behind wsX10_behind) := goodIn_app (goodIn_of _ (by decide +kernel)) ggX10_variablesAt_X10_behind
theorem dX10_variablesAt_0 : decode cX10_variablesAt 0 = .ok (.iconst 0, 1) := by decide +kernel
theorem dX10_variablesAt_1 : decode cX10_variablesAt 1 = .ok (.istore_n 2, 1) := by decide +kernel
theorem dX10_variablesAt_2 : decode cX10_variablesAt 2 = .ok (.aload_n 0, 1) := by decide +kernel
theorem dX10_variablesAt_3 : decode cX10_variablesAt 3 = .ok (.iload_n 1, 1) := by decide +kernel
theorem dX10_variablesAt_4 : decode cX10_variablesAt 4 = .ok (.invokevirtual 213, 3) := by decide +kernel
theorem dX10_variablesAt_7 : decode cX10_variablesAt 7 = .ok (.istore_n 3, 1) := by decide +kernel
theorem dX10_variablesAt_8 : decode cX10_variablesAt 8 = .ok (.iload_n 1, 1) := by decide +kernel
theorem dX10_variablesAt_9 : decode cX10_variablesAt 9 = .ok (.istore 4, 2) := by decide +kernel
theorem dX10_variablesAt_11 : decode cX10_variablesAt 11 = .ok (.iload 4, 2) := by decide +kernel
theorem dX10_variablesAt_13 : decode cX10_variablesAt 13 = .ok (.iload_n 3, 1) := by decide +kernel
theorem dX10_variablesAt_14 : decode cX10_variablesAt 14 = .ok (.if_icmp .ge 34, 3) := by decide +kernel
theorem dX10_variablesAt_17 : decode cX10_variablesAt 17 = .ok (.aload_n 0, 1) := by decide +kernel
theorem dX10_variablesAt_18 : decode cX10_variablesAt 18 = .ok (.getfield 52, 3) := by decide +kernel
theorem dX10_variablesAt_21 : decode cX10_variablesAt 21 = .ok (.iload 4, 2) := by decide +kernel
theorem dX10_variablesAt_23 : decode cX10_variablesAt 23 = .ok (.iaload, 1) := by decide +kernel
theorem dX10_variablesAt_24 : decode cX10_variablesAt 24 = .ok (.sipush 512, 3) := by decide +kernel
theorem dX10_variablesAt_27 : decode cX10_variablesAt 27 = .ok (.if_icmp .ge 15, 3) := by decide +kernel
theorem dX10_variablesAt_30 : decode cX10_variablesAt 30 = .ok (.iload_n 2, 1) := by decide +kernel
theorem dX10_variablesAt_31 : decode cX10_variablesAt 31 = .ok (.iconst 1, 1) := by decide +kernel
theorem dX10_variablesAt_32 : decode cX10_variablesAt 32 = .ok (.aload_n 0, 1) := by decide +kernel
theorem dX10_variablesAt_33 : decode cX10_variablesAt 33 = .ok (.getfield 52, 3) := by decide +kernel
theorem dX10_variablesAt_36 : decode cX10_variablesAt 36 = .ok (.iload 4, 2) := by decide +kernel
theorem dX10_variablesAt_38 : decode cX10_variablesAt 38 = .ok (.iaload, 1) := by decide +kernel
theorem dX10_variablesAt_39 : decode cX10_variablesAt 39 = .ok (.ishl, 1) := by decide +kernel
theorem dX10_variablesAt_40 : decode cX10_variablesAt 40 = .ok (.ior, 1) := by decide +kernel
theorem dX10_variablesAt_41 : decode cX10_variablesAt 41 = .ok (.istore_n 2, 1) := by decide +kernel
theorem dX10_variablesAt_42 : decode cX10_variablesAt 42 = .ok (.iinc 4 1, 3) := by decide +kernel
theorem dX10_variablesAt_45 : decode cX10_variablesAt 45 = .ok (.goto (-34), 3) := by decide +kernel
theorem dX10_variablesAt_48 : decode cX10_variablesAt 48 = .ok (.iload_n 2, 1) := by decide +kernel
theorem dX10_variablesAt_49 : decode cX10_variablesAt 49 = .ok (.ireturn, 1) := by decide +kernel
set_option maxRecDepth 20000 in
theorem ggX10_rule_X10_begins : GoodIn wsX10_rule wsX10_begins := goodIn_r _ [9, 10, 11, 12, 13, 14, 1, 109, 110, 111, 112, 113, 114, 115, 116, 117, 118, 119, 120, 121, 122, 123, 124, 125, 126, 127, 128, 129, 130, 131, 132, 133, 134, 135, 136, 137, 138, 139, 140, 141, 142, 143, 144, 145, 146, 147, 148, 149, 150, 151, 152, 153, 154, 155, 156, 157, 158] rfl (by decide +kernel)
set_option maxRecDepth 20000 in
theorem gX10_rule_X10_begins : GoodIn wsX10_rule (wsV RX10 181 RX10 yX10_begins wsX10_begins) := goodIn_app (goodIn_of _ (by decide +kernel)) ggX10_rule_X10_begins
set_option maxRecDepth 20000 in
theorem ggX10_rule_X10_readsTerm : GoodIn wsX10_rule wsX10_readsTerm := goodIn_r _ [18, 2, 1, 19, 20, 21, 22, 23, 8, 24, 13, 25, 26, 27, 28, 29, 30, 31, 32, 33, 12, 34, 35, 36, 37, 38, 39, 40, 41, 42, 43, 44, 45, 46, 47, 48, 49, 15, 16, 17, 50, 51, 52, 53, 54, 55, 56, 57, 58, 59, 60, 61, 62, 63, 64, 65, 66, 67, 68, 69, 70, 71, 72, 73, 74, 75, 76, 77, 78, 79, 109, 110, 111, 112, 113, 114, 115, 116, 117, 118, 119, 120, 121, 122, 123, 124, 125, 126, 127, 128, 129, 130, 131, 132, 133, 134, 135, 136, 137, 138, 139, 140, 141, 142, 143, 144, 145, 146, 147, 148, 149, 150, 151, 152, 153, 154, 155, 156, 157, 158] rfl (by decide +kernel)
set_option maxRecDepth 20000 in
theorem gX10_rule_X10_readsTerm : GoodIn wsX10_rule (wsV RX10 236 RX10 yX10_readsTerm wsX10_readsTerm) := goodIn_app (goodIn_of _ (by decide +kernel)) ggX10_rule_X10_readsTerm
set_option maxRecDepth 20000 in
theorem ggX10_rule_X10_takes : GoodIn wsX10_rule wsX10_takes := goodIn_r _ [49, 13, 26, 27, 28, 8, 29, 25, 30, 31, 32, 33, 12, 34, 109, 110, 111, 112, 113, 114, 115, 116, 117, 118, 119, 120, 121, 122, 123, 124, 125, 126, 127, 128, 129, 130, 131, 132, 133, 134, 135, 136, 137, 138, 139, 140, 141, 142, 143, 144, 145, 146, 147, 148, 149, 150, 151, 152, 153, 154, 155, 156, 157, 158] rfl (by decide +kernel)
set_option maxRecDepth 20000 in
theorem gX10_rule_X10_takes : GoodIn wsX10_rule (wsV RX10 169 RX10 yX10_takes wsX10_takes) := goodIn_app (goodIn_of _ (by decide +kernel)) ggX10_rule_X10_takes
set_option maxRecDepth 20000 in
theorem ggX10_rule_X10_wrong : GoodIn wsX10_rule wsX10_wrong := goodIn_r _ [83, 25, 14, 10, 109, 110, 111, 112, 113, 114, 115, 116, 117, 118, 119, 120, 121, 122, 123, 124, 125, 126, 127, 128, 129, 130, 131, 132, 133, 134, 135, 136, 137, 138, 139, 140, 141, 142, 143, 144, 145, 146, 147, 148, 149, 150, 151, 152, 153, 154, 155, 156, 157, 158] rfl (by decide +kernel)
set_option maxRecDepth 20000 in
theorem gX10_rule_X10_wrong : GoodIn wsX10_rule (wsV RX10 187 RX10 yX10_wrong wsX10_wrong) := goodIn_app (goodIn_of _ (by decide +kernel)) ggX10_rule_X10_wrong
set_option maxRecDepth 20000 in
theorem ggX10_rule_X10_isOver : GoodIn wsX10_rule wsX10_isOver := goodIn_r _ [87, 13, 12, 26, 27, 28, 8, 29, 25, 30, 31, 32, 33, 34, 109, 110, 111, 112, 113, 114, 115, 116, 117, 118, 119, 120, 121, 122, 123, 124, 125, 126, 127, 128, 129, 130, 131, 132, 133, 134, 135, 136, 137, 138, 139, 140, 141, 142, 143, 144, 145, 146, 147, 148, 149, 150, 151, 152, 153, 154, 155, 156, 157, 158] rfl (by decide +kernel)
set_option maxRecDepth 20000 in
theorem gX10_rule_X10_isOver : GoodIn wsX10_rule (wsV RX10 255 RX10 yX10_isOver wsX10_isOver) := goodIn_app (goodIn_of _ (by decide +kernel)) ggX10_rule_X10_isOver
set_option maxRecDepth 20000 in
theorem ggX10_rule_X10_isGreat : GoodIn wsX10_rule wsX10_isGreat := goodIn_r _ [91, 2, 19, 60, 61, 62, 8, 63, 64, 65, 66, 67, 56, 57, 58, 59, 109, 110, 111, 112, 113, 114, 115, 116, 117, 118, 119, 120, 121, 122, 123, 124, 125, 126, 127, 128, 129, 130, 131, 132, 133, 134, 135, 136, 137, 138, 139, 140, 141, 142, 143, 144, 145, 146, 147, 148, 149, 150, 151, 152, 153, 154, 155, 156, 157, 158] rfl (by decide +kernel)
set_option maxRecDepth 20000 in
theorem gX10_rule_X10_isGreat : GoodIn wsX10_rule (wsV RX10 258 RX10 yX10_isGreat wsX10_isGreat) := goodIn_app (goodIn_of _ (by decide +kernel)) ggX10_rule_X10_isGreat
set_option maxRecDepth 20000 in
theorem ggX10_rule_X10_variablesAt : GoodIn wsX10_rule wsX10_variablesAt := goodIn_r _ [95, 2, 60, 61, 62, 8, 63, 64, 65, 66, 67, 109, 110, 111, 112, 113, 114, 115, 116, 117, 118, 119, 120, 121, 122, 123, 124, 125, 126, 127, 128, 129, 130, 131, 132, 133, 134, 135, 136, 137, 138, 139, 140, 141, 142, 143, 144, 145, 146, 147, 148, 149, 150, 151, 152, 153, 154, 155, 156, 157, 158] rfl (by decide +kernel)
set_option maxRecDepth 20000 in
theorem gX10_rule_X10_variablesAt : GoodIn wsX10_rule (wsV RX10 268 RX10 yX10_variablesAt wsX10_variablesAt) := goodIn_app (goodIn_of _ (by decide +kernel)) ggX10_rule_X10_variablesAt
set_option maxRecDepth 20000 in
theorem ggX10_rule_X10_throwsIf : GoodIn wsX10_rule wsX10_throwsIf := goodIn_r _ [99, 10, 109, 110, 111, 112, 113, 114, 115, 116, 117, 118, 119, 120, 121, 122, 123, 124, 125, 126, 127, 128, 129, 130, 131, 132, 133, 134, 135, 136, 137, 138, 139, 140, 141, 142, 143, 144, 145, 146, 147, 148, 149, 150, 151, 152, 153, 154, 155, 156, 157, 158] rfl (by decide +kernel)
set_option maxRecDepth 20000 in
theorem gX10_rule_X10_throwsIf : GoodIn wsX10_rule (wsV RX10 264 RX10 yX10_throwsIf wsX10_throwsIf) := goodIn_app (goodIn_of _ (by decide +kernel)) ggX10_rule_X10_throwsIf
set_option maxRecDepth 20000 in
theorem ggX10_rule_X10_rowOfRule : GoodIn wsX10_rule wsX10_rowOfRule := goodIn_r _ [103] rfl (by decide +kernel)
set_option maxRecDepth 20000 in
theorem gX10_rule_X10_rowOfRule : GoodIn wsX10_rule (wsV RX10 271 RX10 yX10_rowOfRule wsX10_rowOfRule) := goodIn_app (goodIn_of _ (by decide +kernel)) ggX10_rule_X10_rowOfRule
set_option maxRecDepth 20000 in
theorem ggX10_rule_X10_keeps : GoodIn wsX10_rule wsX10_keeps := goodIn_r _ [107, 108, 2, 60, 61, 62, 8, 63, 64, 65, 66, 67, 109, 110, 111, 112, 113, 114, 115, 116, 117, 118, 119, 120, 121, 122, 123, 124, 125, 126, 127, 128, 129, 130, 131, 132, 133, 134, 135, 136, 137, 138, 139, 140, 141, 142, 143, 144, 145, 146, 147, 148, 149, 150, 151, 152, 153, 154, 155, 156, 157, 158] rfl (by decide +kernel)
set_option maxRecDepth 20000 in
theorem gX10_rule_X10_keeps : GoodIn wsX10_rule (wsV RX10 251 RX10 yX10_keeps wsX10_keeps) := goodIn_app (goodIn_of _ (by decide +kernel)) ggX10_rule_X10_keeps
theorem dX10_rule_0 : decode cX10_rule 0 = .ok (.aload_n 0, 1) := by decide +kernel
theorem dX10_rule_1 : decode cX10_rule 1 = .ok (.invokevirtual 181, 3) := by decide +kernel
theorem dX10_rule_4 : decode cX10_rule 4 = .ok (.aload_n 0, 1) := by decide +kernel
theorem dX10_rule_5 : decode cX10_rule 5 = .ok (.invokevirtual 236, 3) := by decide +kernel
theorem dX10_rule_8 : decode cX10_rule 8 = .ok (.ifCond .eq 12, 3) := by decide +kernel
theorem dX10_rule_11 : decode cX10_rule 11 = .ok (.aload_n 0, 1) := by decide +kernel
theorem dX10_rule_12 : decode cX10_rule 12 = .ok (.bipush 61, 2) := by decide +kernel
theorem dX10_rule_14 : decode cX10_rule 14 = .ok (.invokevirtual 169, 3) := by decide +kernel
theorem dX10_rule_17 : decode cX10_rule 17 = .ok (.ifCond .ne 8, 3) := by decide +kernel
theorem dX10_rule_20 : decode cX10_rule 20 = .ok (.aload_n 0, 1) := by decide +kernel
theorem dX10_rule_21 : decode cX10_rule 21 = .ok (.invokevirtual 187, 3) := by decide +kernel
theorem dX10_rule_24 : decode cX10_rule 24 = .ok (.ireturn, 1) := by decide +kernel
theorem dX10_rule_25 : decode cX10_rule 25 = .ok (.aload_n 0, 1) := by decide +kernel
theorem dX10_rule_26 : decode cX10_rule 26 = .ok (.getfield 178, 3) := by decide +kernel
theorem dX10_rule_29 : decode cX10_rule 29 = .ok (.istore_n 1, 1) := by decide +kernel
theorem dX10_rule_30 : decode cX10_rule 30 = .ok (.aload_n 0, 1) := by decide +kernel
theorem dX10_rule_31 : decode cX10_rule 31 = .ok (.invokevirtual 236, 3) := by decide +kernel
theorem dX10_rule_34 : decode cX10_rule 34 = .ok (.ifCond .eq 10, 3) := by decide +kernel
theorem dX10_rule_37 : decode cX10_rule 37 = .ok (.aload_n 0, 1) := by decide +kernel
theorem dX10_rule_38 : decode cX10_rule 38 = .ok (.invokevirtual 255, 3) := by decide +kernel
theorem dX10_rule_41 : decode cX10_rule 41 = .ok (.ifCond .ne 8, 3) := by decide +kernel
theorem dX10_rule_44 : decode cX10_rule 44 = .ok (.aload_n 0, 1) := by decide +kernel
theorem dX10_rule_45 : decode cX10_rule 45 = .ok (.invokevirtual 187, 3) := by decide +kernel
theorem dX10_rule_48 : decode cX10_rule 48 = .ok (.ireturn, 1) := by decide +kernel
theorem dX10_rule_49 : decode cX10_rule 49 = .ok (.aload_n 0, 1) := by decide +kernel
theorem dX10_rule_50 : decode cX10_rule 50 = .ok (.aload_n 0, 1) := by decide +kernel
theorem dX10_rule_51 : decode cX10_rule 51 = .ok (.iconst 0, 1) := by decide +kernel
theorem dX10_rule_52 : decode cX10_rule 52 = .ok (.invokevirtual 258, 3) := by decide +kernel
theorem dX10_rule_55 : decode cX10_rule 55 = .ok (.ifCond .ne 48, 3) := by decide +kernel
theorem dX10_rule_58 : decode cX10_rule 58 = .ok (.aload_n 0, 1) := by decide +kernel
theorem dX10_rule_59 : decode cX10_rule 59 = .ok (.iload_n 1, 1) := by decide +kernel
theorem dX10_rule_60 : decode cX10_rule 60 = .ok (.invokevirtual 258, 3) := by decide +kernel
theorem dX10_rule_63 : decode cX10_rule 63 = .ok (.ifCond .ne 40, 3) := by decide +kernel
theorem dX10_rule_66 : decode cX10_rule 66 = .ok (.aload_n 0, 1) := by decide +kernel
theorem dX10_rule_67 : decode cX10_rule 67 = .ok (.getfield 52, 3) := by decide +kernel
theorem dX10_rule_70 : decode cX10_rule 70 = .ok (.iconst 0, 1) := by decide +kernel
theorem dX10_rule_71 : decode cX10_rule 71 = .ok (.iaload, 1) := by decide +kernel
theorem dX10_rule_72 : decode cX10_rule 72 = .ok (.sipush 512, 3) := by decide +kernel
theorem dX10_rule_75 : decode cX10_rule 75 = .ok (.if_icmp .lt 28, 3) := by decide +kernel
theorem dX10_rule_78 : decode cX10_rule 78 = .ok (.aload_n 0, 1) := by decide +kernel
theorem dX10_rule_79 : decode cX10_rule 79 = .ok (.iload_n 1, 1) := by decide +kernel
theorem dX10_rule_80 : decode cX10_rule 80 = .ok (.invokevirtual 268, 3) := by decide +kernel
theorem dX10_rule_83 : decode cX10_rule 83 = .ok (.aload_n 0, 1) := by decide +kernel
theorem dX10_rule_84 : decode cX10_rule 84 = .ok (.iconst 0, 1) := by decide +kernel
theorem dX10_rule_85 : decode cX10_rule 85 = .ok (.invokevirtual 268, 3) := by decide +kernel
theorem dX10_rule_88 : decode cX10_rule 88 = .ok (.iconst (-1), 1) := by decide +kernel
theorem dX10_rule_89 : decode cX10_rule 89 = .ok (.ixor, 1) := by decide +kernel
theorem dX10_rule_90 : decode cX10_rule 90 = .ok (.iand, 1) := by decide +kernel
theorem dX10_rule_91 : decode cX10_rule 91 = .ok (.ifCond .ne 12, 3) := by decide +kernel
theorem dX10_rule_94 : decode cX10_rule 94 = .ok (.aload_n 0, 1) := by decide +kernel
theorem dX10_rule_95 : decode cX10_rule 95 = .ok (.getfield 199, 3) := by decide +kernel
theorem dX10_rule_98 : decode cX10_rule 98 = .ok (.bipush 8, 2) := by decide +kernel
theorem dX10_rule_100 : decode cX10_rule 100 = .ok (.if_icmp .ne 7, 3) := by decide +kernel
theorem dX10_rule_103 : decode cX10_rule 103 = .ok (.iconst 1, 1) := by decide +kernel
theorem dX10_rule_104 : decode cX10_rule 104 = .ok (.goto 4, 3) := by decide +kernel
theorem dX10_rule_107 : decode cX10_rule 107 = .ok (.iconst 0, 1) := by decide +kernel
theorem dX10_rule_108 : decode cX10_rule 108 = .ok (.iconst 2, 1) := by decide +kernel
theorem dX10_rule_109 : decode cX10_rule 109 = .ok (.invokevirtual 264, 3) := by decide +kernel
theorem dX10_rule_112 : decode cX10_rule 112 = .ok (.ifCond .eq 5, 3) := by decide +kernel
theorem dX10_rule_115 : decode cX10_rule 115 = .ok (.iconst 0, 1) := by decide +kernel
theorem dX10_rule_116 : decode cX10_rule 116 = .ok (.ireturn, 1) := by decide +kernel
theorem dX10_rule_117 : decode cX10_rule 117 = .ok (.aload_n 0, 1) := by decide +kernel
theorem dX10_rule_118 : decode cX10_rule 118 = .ok (.aload_n 0, 1) := by decide +kernel
theorem dX10_rule_119 : decode cX10_rule 119 = .ok (.aload_n 0, 1) := by decide +kernel
theorem dX10_rule_120 : decode cX10_rule 120 = .ok (.getfield 199, 3) := by decide +kernel
theorem dX10_rule_123 : decode cX10_rule 123 = .ok (.iconst 0, 1) := by decide +kernel
theorem dX10_rule_124 : decode cX10_rule 124 = .ok (.invokevirtual 271, 3) := by decide +kernel
theorem dX10_rule_127 : decode cX10_rule 127 = .ok (.iconst 0, 1) := by decide +kernel
theorem dX10_rule_128 : decode cX10_rule 128 = .ok (.invokevirtual 251, 3) := by decide +kernel
theorem dX10_rule_131 : decode cX10_rule 131 = .ok (.aload_n 0, 1) := by decide +kernel
theorem dX10_rule_132 : decode cX10_rule 132 = .ok (.aload_n 0, 1) := by decide +kernel
theorem dX10_rule_133 : decode cX10_rule 133 = .ok (.aload_n 0, 1) := by decide +kernel
theorem dX10_rule_134 : decode cX10_rule 134 = .ok (.getfield 199, 3) := by decide +kernel
theorem dX10_rule_137 : decode cX10_rule 137 = .ok (.iconst 1, 1) := by decide +kernel
theorem dX10_rule_138 : decode cX10_rule 138 = .ok (.invokevirtual 271, 3) := by decide +kernel
theorem dX10_rule_141 : decode cX10_rule 141 = .ok (.iload_n 1, 1) := by decide +kernel
theorem dX10_rule_142 : decode cX10_rule 142 = .ok (.invokevirtual 251, 3) := by decide +kernel
theorem dX10_rule_145 : decode cX10_rule 145 = .ok (.aload_n 0, 1) := by decide +kernel
theorem dX10_rule_146 : decode cX10_rule 146 = .ok (.aload_n 0, 1) := by decide +kernel
theorem dX10_rule_147 : decode cX10_rule 147 = .ok (.getfield 199, 3) := by decide +kernel
theorem dX10_rule_150 : decode cX10_rule 150 = .ok (.ifCond .ne 7, 3) := by decide +kernel
theorem dX10_rule_153 : decode cX10_rule 153 = .ok (.iconst 1, 1) := by decide +kernel
theorem dX10_rule_154 : decode cX10_rule 154 = .ok (.goto 14, 3) := by decide +kernel
theorem dX10_rule_157 : decode cX10_rule 157 = .ok (.aload_n 0, 1) := by decide +kernel
theorem dX10_rule_158 : decode cX10_rule 158 = .ok (.getfield 275, 3) := by decide +kernel
theorem dX10_rule_161 : decode cX10_rule 161 = .ok (.iconst 1, 1) := by decide +kernel
theorem dX10_rule_162 : decode cX10_rule 162 = .ok (.aload_n 0, 1) := by decide +kernel
theorem dX10_rule_163 : decode cX10_rule 163 = .ok (.getfield 199, 3) := by decide +kernel
theorem dX10_rule_166 : decode cX10_rule 166 = .ok (.ishl, 1) := by decide +kernel
theorem dX10_rule_167 : decode cX10_rule 167 = .ok (.ior, 1) := by decide +kernel
theorem dX10_rule_168 : decode cX10_rule 168 = .ok (.putfield 275, 3) := by decide +kernel
theorem dX10_rule_171 : decode cX10_rule 171 = .ok (.aload_n 0, 1) := by decide +kernel
theorem dX10_rule_172 : decode cX10_rule 172 = .ok (.dup, 1) := by decide +kernel
theorem dX10_rule_173 : decode cX10_rule 173 = .ok (.getfield 199, 3) := by decide +kernel
theorem dX10_rule_176 : decode cX10_rule 176 = .ok (.iconst 1, 1) := by decide +kernel
theorem dX10_rule_177 : decode cX10_rule 177 = .ok (.iadd, 1) := by decide +kernel
theorem dX10_rule_178 : decode cX10_rule 178 = .ok (.putfield 199, 3) := by decide +kernel
theorem dX10_rule_181 : decode cX10_rule 181 = .ok (.aload_n 0, 1) := by decide +kernel
theorem dX10_rule_182 : decode cX10_rule 182 = .ok (.getfield 199, 3) := by decide +kernel
theorem dX10_rule_185 : decode cX10_rule 185 = .ok (.iconst 1, 1) := by decide +kernel
theorem dX10_rule_186 : decode cX10_rule 186 = .ok (.isub, 1) := by decide +kernel
theorem dX10_rule_187 : decode cX10_rule 187 = .ok (.ireturn, 1) := by decide +kernel
theorem dX10_fault_0 : decode cX10_fault 0 = .ok (.aload_n 0, 1) := by decide +kernel
theorem dX10_fault_1 : decode cX10_fault 1 = .ok (.iconst 0, 1) := by decide +kernel
theorem dX10_fault_2 : decode cX10_fault 2 = .ok (.putfield 100, 3) := by decide +kernel
theorem dX10_fault_5 : decode cX10_fault 5 = .ok (.aload_n 0, 1) := by decide +kernel
theorem dX10_fault_6 : decode cX10_fault 6 = .ok (.getfield 17, 3) := by decide +kernel
theorem dX10_fault_9 : decode cX10_fault 9 = .ok (.ireturn, 1) := by decide +kernel
set_option maxRecDepth 20000 in
theorem ggX10_noRule_X10_in : GoodIn wsX10_noRule wsX10_in := goodIn_r _ [5] rfl (by decide +kernel)
set_option maxRecDepth 20000 in
theorem gX10_noRule_X10_in : GoodIn wsX10_noRule (va_wsS RX10 132 yX10_in wsX10_in) := goodIn_app (goodIn_of _ (by decide +kernel)) ggX10_noRule_X10_in
set_option maxRecDepth 20000 in
theorem ggX10_noRule_X10_throwsIf : GoodIn wsX10_noRule wsX10_throwsIf := goodIn_r _ [9, 10, 11, 12, 13, 14, 15, 16, 17, 18, 19, 20, 21, 22, 23, 24, 25, 26, 27, 28, 29, 30, 31, 32, 33, 34, 35, 36, 37, 38, 39, 40, 41, 42, 43, 44, 45, 46, 47, 48, 49, 50, 51, 52, 53, 54, 55, 56, 57, 58, 59, 60] rfl (by decide +kernel)
set_option maxRecDepth 20000 in
theorem gX10_noRule_X10_throwsIf : GoodIn wsX10_noRule (wsV RX10 264 RX10 yX10_throwsIf wsX10_throwsIf) := goodIn_app (goodIn_of _ (by decide +kernel)) ggX10_noRule_X10_throwsIf
theorem dX10_noRule_0 : decode cX10_noRule 0 = .ok (.aload_n 0, 1) := by decide +kernel
theorem dX10_noRule_1 : decode cX10_noRule 1 = .ok (.iload_n 1, 1) := by decide +kernel
theorem dX10_noRule_2 : decode cX10_noRule 2 = .ok (.iconst 0, 1) := by decide +kernel
theorem dX10_noRule_3 : decode cX10_noRule 3 = .ok (.aload_n 0, 1) := by decide +kernel
theorem dX10_noRule_4 : decode cX10_noRule 4 = .ok (.getfield 199, 3) := by decide +kernel
theorem dX10_noRule_7 : decode cX10_noRule 7 = .ok (.iconst 1, 1) := by decide +kernel
theorem dX10_noRule_8 : decode cX10_noRule 8 = .ok (.isub, 1) := by decide +kernel
theorem dX10_noRule_9 : decode cX10_noRule 9 = .ok (.invokestatic 132, 3) := by decide +kernel
theorem dX10_noRule_12 : decode cX10_noRule 12 = .ok (.ifCond .ne 7, 3) := by decide +kernel
theorem dX10_noRule_15 : decode cX10_noRule 15 = .ok (.iconst 1, 1) := by decide +kernel
theorem dX10_noRule_16 : decode cX10_noRule 16 = .ok (.goto 4, 3) := by decide +kernel
theorem dX10_noRule_19 : decode cX10_noRule 19 = .ok (.iconst 0, 1) := by decide +kernel
theorem dX10_noRule_20 : decode cX10_noRule 20 = .ok (.iconst 1, 1) := by decide +kernel
theorem dX10_noRule_21 : decode cX10_noRule 21 = .ok (.invokevirtual 264, 3) := by decide +kernel
theorem dX10_noRule_24 : decode cX10_noRule 24 = .ok (.ireturn, 1) := by decide +kernel
set_option maxRecDepth 20000 in
theorem ggX10_noTerm_X10_in : GoodIn wsX10_noTerm wsX10_in := goodIn_r _ [5] rfl (by decide +kernel)
set_option maxRecDepth 20000 in
theorem gX10_noTerm_X10_in : GoodIn wsX10_noTerm (va_wsS RX10 132 yX10_in wsX10_in) := goodIn_app (goodIn_of _ (by decide +kernel)) ggX10_noTerm_X10_in
set_option maxRecDepth 20000 in
theorem ggX10_noTerm_X10_throwsIf : GoodIn wsX10_noTerm wsX10_throwsIf := goodIn_r _ [9, 10, 11, 12, 13, 14, 15, 16, 17, 18, 19, 20, 21, 22, 23, 24, 25, 26, 27, 28, 29, 30, 31, 32, 33, 34, 35, 36, 37, 38, 39, 40, 41, 42, 43, 44, 45, 46, 47, 48, 49, 50, 51, 52, 53, 54, 55, 56, 57, 58, 59, 60] rfl (by decide +kernel)
set_option maxRecDepth 20000 in
theorem gX10_noTerm_X10_throwsIf : GoodIn wsX10_noTerm (wsV RX10 264 RX10 yX10_throwsIf wsX10_throwsIf) := goodIn_app (goodIn_of _ (by decide +kernel)) ggX10_noTerm_X10_throwsIf
theorem dX10_noTerm_0 : decode cX10_noTerm 0 = .ok (.aload_n 0, 1) := by decide +kernel
theorem dX10_noTerm_1 : decode cX10_noTerm 1 = .ok (.iload_n 1, 1) := by decide +kernel
theorem dX10_noTerm_2 : decode cX10_noTerm 2 = .ok (.iconst 0, 1) := by decide +kernel
theorem dX10_noTerm_3 : decode cX10_noTerm 3 = .ok (.aload_n 0, 1) := by decide +kernel
theorem dX10_noTerm_4 : decode cX10_noTerm 4 = .ok (.getfield 196, 3) := by decide +kernel
theorem dX10_noTerm_7 : decode cX10_noTerm 7 = .ok (.iconst 1, 1) := by decide +kernel
theorem dX10_noTerm_8 : decode cX10_noTerm 8 = .ok (.isub, 1) := by decide +kernel
theorem dX10_noTerm_9 : decode cX10_noTerm 9 = .ok (.invokestatic 132, 3) := by decide +kernel
theorem dX10_noTerm_12 : decode cX10_noTerm 12 = .ok (.ifCond .ne 7, 3) := by decide +kernel
theorem dX10_noTerm_15 : decode cX10_noTerm 15 = .ok (.iconst 1, 1) := by decide +kernel
theorem dX10_noTerm_16 : decode cX10_noTerm 16 = .ok (.goto 4, 3) := by decide +kernel
theorem dX10_noTerm_19 : decode cX10_noTerm 19 = .ok (.iconst 0, 1) := by decide +kernel
theorem dX10_noTerm_20 : decode cX10_noTerm 20 = .ok (.iconst 1, 1) := by decide +kernel
theorem dX10_noTerm_21 : decode cX10_noTerm 21 = .ok (.invokevirtual 264, 3) := by decide +kernel
theorem dX10_noTerm_24 : decode cX10_noTerm 24 = .ok (.ireturn, 1) := by decide +kernel
set_option maxRecDepth 20000 in
theorem ggX10_turn_X10_noRule : GoodIn wsX10_turn wsX10_noRule := goodIn_r _ [7, 8, 9, 10, 6, 11, 12, 13, 14, 15, 1, 19, 20, 21, 22, 23, 24, 25, 26, 27, 28, 29, 30, 31, 32, 33, 34, 35, 36, 37, 38, 39, 40, 41, 42, 43, 44, 45, 46, 47, 48, 49, 50, 51, 52, 53, 54, 55, 56, 57, 58, 59, 60, 61, 62, 63, 64, 65, 66, 67, 68] rfl (by decide +kernel)
set_option maxRecDepth 20000 in
theorem gX10_turn_X10_noRule : GoodIn wsX10_turn (wsV RX10 278 RX10 yX10_noRule wsX10_noRule) := goodIn_app (goodIn_of _ (by decide +kernel)) ggX10_turn_X10_noRule
set_option maxRecDepth 20000 in
theorem ggX10_turn_X10_holds : GoodIn wsX10_turn wsX10_holds := goodIn_r _ [18] rfl (by decide +kernel)
set_option maxRecDepth 20000 in
theorem gX10_turn_X10_holds : GoodIn wsX10_turn (va_wsS RX10 281 yX10_holds wsX10_holds) := goodIn_app (goodIn_of _ (by decide +kernel)) ggX10_turn_X10_holds
theorem dX10_turn_0 : decode cX10_turn 0 = .ok (.aload_n 0, 1) := by decide +kernel
theorem dX10_turn_1 : decode cX10_turn 1 = .ok (.iconst 0, 1) := by decide +kernel
theorem dX10_turn_2 : decode cX10_turn 2 = .ok (.putfield 100, 3) := by decide +kernel
theorem dX10_turn_5 : decode cX10_turn 5 = .ok (.aload_n 0, 1) := by decide +kernel
theorem dX10_turn_6 : decode cX10_turn 6 = .ok (.iload_n 1, 1) := by decide +kernel
theorem dX10_turn_7 : decode cX10_turn 7 = .ok (.invokevirtual 278, 3) := by decide +kernel
theorem dX10_turn_10 : decode cX10_turn 10 = .ok (.ifCond .eq 5, 3) := by decide +kernel
theorem dX10_turn_13 : decode cX10_turn 13 = .ok (.iconst 0, 1) := by decide +kernel
theorem dX10_turn_14 : decode cX10_turn 14 = .ok (.ireturn, 1) := by decide +kernel
theorem dX10_turn_15 : decode cX10_turn 15 = .ok (.aload_n 0, 1) := by decide +kernel
theorem dX10_turn_16 : decode cX10_turn 16 = .ok (.getfield 275, 3) := by decide +kernel
theorem dX10_turn_19 : decode cX10_turn 19 = .ok (.iload_n 1, 1) := by decide +kernel
theorem dX10_turn_20 : decode cX10_turn 20 = .ok (.invokestatic 281, 3) := by decide +kernel
theorem dX10_turn_23 : decode cX10_turn 23 = .ok (.istore_n 3, 1) := by decide +kernel
theorem dX10_turn_24 : decode cX10_turn 24 = .ok (.aload_n 0, 1) := by decide +kernel
theorem dX10_turn_25 : decode cX10_turn 25 = .ok (.iload_n 2, 1) := by decide +kernel
theorem dX10_turn_26 : decode cX10_turn 26 = .ok (.ifCond .eq 14, 3) := by decide +kernel
theorem dX10_turn_29 : decode cX10_turn 29 = .ok (.aload_n 0, 1) := by decide +kernel
theorem dX10_turn_30 : decode cX10_turn 30 = .ok (.getfield 275, 3) := by decide +kernel
theorem dX10_turn_33 : decode cX10_turn 33 = .ok (.iconst 1, 1) := by decide +kernel
theorem dX10_turn_34 : decode cX10_turn 34 = .ok (.iload_n 1, 1) := by decide +kernel
theorem dX10_turn_35 : decode cX10_turn 35 = .ok (.ishl, 1) := by decide +kernel
theorem dX10_turn_36 : decode cX10_turn 36 = .ok (.ior, 1) := by decide +kernel
theorem dX10_turn_37 : decode cX10_turn 37 = .ok (.goto 13, 3) := by decide +kernel
theorem dX10_turn_40 : decode cX10_turn 40 = .ok (.aload_n 0, 1) := by decide +kernel
theorem dX10_turn_41 : decode cX10_turn 41 = .ok (.getfield 275, 3) := by decide +kernel
theorem dX10_turn_44 : decode cX10_turn 44 = .ok (.iconst 1, 1) := by decide +kernel
theorem dX10_turn_45 : decode cX10_turn 45 = .ok (.iload_n 1, 1) := by decide +kernel
theorem dX10_turn_46 : decode cX10_turn 46 = .ok (.ishl, 1) := by decide +kernel
theorem dX10_turn_47 : decode cX10_turn 47 = .ok (.iconst (-1), 1) := by decide +kernel
theorem dX10_turn_48 : decode cX10_turn 48 = .ok (.ixor, 1) := by decide +kernel
theorem dX10_turn_49 : decode cX10_turn 49 = .ok (.iand, 1) := by decide +kernel
theorem dX10_turn_50 : decode cX10_turn 50 = .ok (.putfield 275, 3) := by decide +kernel
theorem dX10_turn_53 : decode cX10_turn 53 = .ok (.iload_n 3, 1) := by decide +kernel
theorem dX10_turn_54 : decode cX10_turn 54 = .ok (.iload_n 2, 1) := by decide +kernel
theorem dX10_turn_55 : decode cX10_turn 55 = .ok (.if_icmp .eq 7, 3) := by decide +kernel
theorem dX10_turn_58 : decode cX10_turn 58 = .ok (.iconst 1, 1) := by decide +kernel
theorem dX10_turn_59 : decode cX10_turn 59 = .ok (.goto 4, 3) := by decide +kernel
theorem dX10_turn_62 : decode cX10_turn 62 = .ok (.iconst 0, 1) := by decide +kernel
theorem dX10_turn_63 : decode cX10_turn 63 = .ok (.ireturn, 1) := by decide +kernel
theorem dX10_rulesOn_0 : decode cX10_rulesOn 0 = .ok (.aload_n 0, 1) := by decide +kernel
theorem dX10_rulesOn_1 : decode cX10_rulesOn 1 = .ok (.getfield 275, 3) := by decide +kernel
theorem dX10_rulesOn_4 : decode cX10_rulesOn 4 = .ok (.iconst 1, 1) := by decide +kernel
theorem dX10_rulesOn_5 : decode cX10_rulesOn 5 = .ok (.aload_n 0, 1) := by decide +kernel
theorem dX10_rulesOn_6 : decode cX10_rulesOn 6 = .ok (.getfield 199, 3) := by decide +kernel
theorem dX10_rulesOn_9 : decode cX10_rulesOn 9 = .ok (.ishl, 1) := by decide +kernel
theorem dX10_rulesOn_10 : decode cX10_rulesOn 10 = .ok (.iconst 1, 1) := by decide +kernel
theorem dX10_rulesOn_11 : decode cX10_rulesOn 11 = .ok (.isub, 1) := by decide +kernel
theorem dX10_rulesOn_12 : decode cX10_rulesOn 12 = .ok (.iand, 1) := by decide +kernel
theorem dX10_rulesOn_13 : decode cX10_rulesOn 13 = .ok (.ireturn, 1) := by decide +kernel
theorem dX10_foundAt_0 : decode cX10_foundAt 0 = .ok (.bipush 21, 2) := by decide +kernel
theorem dX10_foundAt_2 : decode cX10_foundAt 2 = .ok (.iconst 5, 1) := by decide +kernel
theorem dX10_foundAt_3 : decode cX10_foundAt 3 = .ok (.iload_n 1, 1) := by decide +kernel
theorem dX10_foundAt_4 : decode cX10_foundAt 4 = .ok (.imul, 1) := by decide +kernel
theorem dX10_foundAt_5 : decode cX10_foundAt 5 = .ok (.iload_n 2, 1) := by decide +kernel
theorem dX10_foundAt_6 : decode cX10_foundAt 6 = .ok (.iadd, 1) := by decide +kernel
theorem dX10_foundAt_7 : decode cX10_foundAt 7 = .ok (.imul, 1) := by decide +kernel
theorem dX10_foundAt_8 : decode cX10_foundAt 8 = .ok (.ireturn, 1) := by decide +kernel
set_option maxRecDepth 20000 in
theorem ggX10_comparesFound_X10_foundAt : GoodIn wsX10_comparesFound wsX10_foundAt := goodIn_r _ [6] rfl (by decide +kernel)
set_option maxRecDepth 20000 in
theorem gX10_comparesFound_X10_foundAt : GoodIn wsX10_comparesFound (wsV RX10 284 RX10 yX10_foundAt wsX10_foundAt) := goodIn_app (goodIn_of _ (by decide +kernel)) ggX10_comparesFound_X10_foundAt
theorem dX10_comparesFound_0 : decode cX10_comparesFound 0 = .ok (.iconst 0, 1) := by decide +kernel
theorem dX10_comparesFound_1 : decode cX10_comparesFound 1 = .ok (.istore_n 3, 1) := by decide +kernel
theorem dX10_comparesFound_2 : decode cX10_comparesFound 2 = .ok (.iload_n 3, 1) := by decide +kernel
theorem dX10_comparesFound_3 : decode cX10_comparesFound 3 = .ok (.bipush 105, 2) := by decide +kernel
theorem dX10_comparesFound_5 : decode cX10_comparesFound 5 = .ok (.if_icmp .ge 59, 3) := by decide +kernel
theorem dX10_comparesFound_8 : decode cX10_comparesFound 8 = .ok (.aload_n 0, 1) := by decide +kernel
theorem dX10_comparesFound_9 : decode cX10_comparesFound 9 = .ok (.getfield 73, 3) := by decide +kernel
theorem dX10_comparesFound_12 : decode cX10_comparesFound 12 = .ok (.aload_n 0, 1) := by decide +kernel
theorem dX10_comparesFound_13 : decode cX10_comparesFound 13 = .ok (.iload_n 1, 1) := by decide +kernel
theorem dX10_comparesFound_14 : decode cX10_comparesFound 14 = .ok (.iconst 0, 1) := by decide +kernel
theorem dX10_comparesFound_15 : decode cX10_comparesFound 15 = .ok (.invokevirtual 284, 3) := by decide +kernel
theorem dX10_comparesFound_18 : decode cX10_comparesFound 18 = .ok (.iload_n 3, 1) := by decide +kernel
theorem dX10_comparesFound_19 : decode cX10_comparesFound 19 = .ok (.iadd, 1) := by decide +kernel
theorem dX10_comparesFound_20 : decode cX10_comparesFound 20 = .ok (.iaload, 1) := by decide +kernel
theorem dX10_comparesFound_21 : decode cX10_comparesFound 21 = .ok (.istore 4, 2) := by decide +kernel
theorem dX10_comparesFound_23 : decode cX10_comparesFound 23 = .ok (.aload_n 0, 1) := by decide +kernel
theorem dX10_comparesFound_24 : decode cX10_comparesFound 24 = .ok (.getfield 73, 3) := by decide +kernel
theorem dX10_comparesFound_27 : decode cX10_comparesFound 27 = .ok (.aload_n 0, 1) := by decide +kernel
theorem dX10_comparesFound_28 : decode cX10_comparesFound 28 = .ok (.iload_n 2, 1) := by decide +kernel
theorem dX10_comparesFound_29 : decode cX10_comparesFound 29 = .ok (.iconst 0, 1) := by decide +kernel
theorem dX10_comparesFound_30 : decode cX10_comparesFound 30 = .ok (.invokevirtual 284, 3) := by decide +kernel
theorem dX10_comparesFound_33 : decode cX10_comparesFound 33 = .ok (.iload_n 3, 1) := by decide +kernel
theorem dX10_comparesFound_34 : decode cX10_comparesFound 34 = .ok (.iadd, 1) := by decide +kernel
theorem dX10_comparesFound_35 : decode cX10_comparesFound 35 = .ok (.iaload, 1) := by decide +kernel
theorem dX10_comparesFound_36 : decode cX10_comparesFound 36 = .ok (.istore 5, 2) := by decide +kernel
theorem dX10_comparesFound_38 : decode cX10_comparesFound 38 = .ok (.iload 4, 2) := by decide +kernel
theorem dX10_comparesFound_40 : decode cX10_comparesFound 40 = .ok (.iload 5, 2) := by decide +kernel
theorem dX10_comparesFound_42 : decode cX10_comparesFound 42 = .ok (.if_icmp .eq 16, 3) := by decide +kernel
theorem dX10_comparesFound_45 : decode cX10_comparesFound 45 = .ok (.iload 4, 2) := by decide +kernel
theorem dX10_comparesFound_47 : decode cX10_comparesFound 47 = .ok (.iload 5, 2) := by decide +kernel
theorem dX10_comparesFound_49 : decode cX10_comparesFound 49 = .ok (.if_icmp .ge 7, 3) := by decide +kernel
theorem dX10_comparesFound_52 : decode cX10_comparesFound 52 = .ok (.iconst (-1), 1) := by decide +kernel
theorem dX10_comparesFound_53 : decode cX10_comparesFound 53 = .ok (.goto 4, 3) := by decide +kernel
theorem dX10_comparesFound_56 : decode cX10_comparesFound 56 = .ok (.iconst 1, 1) := by decide +kernel
theorem dX10_comparesFound_57 : decode cX10_comparesFound 57 = .ok (.ireturn, 1) := by decide +kernel
theorem dX10_comparesFound_58 : decode cX10_comparesFound 58 = .ok (.iinc 3 1, 3) := by decide +kernel
theorem dX10_comparesFound_61 : decode cX10_comparesFound 61 = .ok (.goto (-59), 3) := by decide +kernel
theorem dX10_comparesFound_64 : decode cX10_comparesFound 64 = .ok (.iconst 0, 1) := by decide +kernel
theorem dX10_comparesFound_65 : decode cX10_comparesFound 65 = .ok (.ireturn, 1) := by decide +kernel
set_option maxRecDepth 20000 in
theorem ggX10_records_X10_foundAt : GoodIn wsX10_records wsX10_foundAt := goodIn_r _ [11] rfl (by decide +kernel)
set_option maxRecDepth 20000 in
theorem gX10_records_X10_foundAt : GoodIn wsX10_records (wsV RX10 284 RX10 yX10_foundAt wsX10_foundAt) := goodIn_app (goodIn_of _ (by decide +kernel)) ggX10_records_X10_foundAt
set_option maxRecDepth 20000 in
theorem ggX10_records_X10_holds : GoodIn wsX10_records wsX10_holds := goodIn_r _ [14] rfl (by decide +kernel)
set_option maxRecDepth 20000 in
theorem gX10_records_X10_holds : GoodIn wsX10_records (va_wsS RX10 281 yX10_holds wsX10_holds) := goodIn_app (goodIn_of _ (by decide +kernel)) ggX10_records_X10_holds
set_option maxRecDepth 20000 in
theorem ggX10_records_X10_behind : GoodIn wsX10_records wsX10_behind := goodIn_r _ [18, 19, 20, 21, 10, 22, 5, 27, 28, 29, 30, 31, 32, 33, 34, 35, 36, 37, 38, 39, 40, 41, 42, 43, 44, 45, 46, 47, 48, 49, 50, 51, 52, 53, 54, 55, 56, 57, 58, 59, 60, 61, 62, 63, 64, 65, 66, 67, 68, 69, 70, 71, 72, 73, 74, 75, 76] rfl (by decide +kernel)
set_option maxRecDepth 20000 in
theorem gX10_records_X10_behind : GoodIn wsX10_records (wsV RX10 213 RX10 yX10_behind wsX10_behind) := goodIn_app (goodIn_of _ (by decide +kernel)) ggX10_records_X10_behind
set_option maxRecDepth 20000 in
theorem ggX10_records_X10_comparesFound : GoodIn wsX10_records wsX10_comparesFound := goodIn_r _ [26, 2, 7, 8, 9, 10, 11, 27, 28, 29, 30, 31, 32, 33, 34, 35, 36, 37, 38, 39, 40, 41, 42, 43, 44, 45, 46, 47, 48, 49, 50, 51, 52, 53, 54, 55, 56, 57, 58, 59, 60, 61, 62, 63, 64, 65, 66, 67, 68, 69, 70, 71, 72, 73, 74, 75, 76] rfl (by decide +kernel)
set_option maxRecDepth 20000 in
theorem gX10_records_X10_comparesFound : GoodIn wsX10_records (wsV RX10 293 RX10 yX10_comparesFound wsX10_comparesFound) := goodIn_app (goodIn_of _ (by decide +kernel)) ggX10_records_X10_comparesFound
theorem dX10_records_0 : decode cX10_records 0 = .ok (.aload_n 0, 1) := by decide +kernel
theorem dX10_records_1 : decode cX10_records 1 = .ok (.getfield 287, 3) := by decide +kernel
theorem dX10_records_4 : decode cX10_records 4 = .ok (.istore_n 1, 1) := by decide +kernel
theorem dX10_records_5 : decode cX10_records 5 = .ok (.iconst 0, 1) := by decide +kernel
theorem dX10_records_6 : decode cX10_records 6 = .ok (.istore_n 2, 1) := by decide +kernel
theorem dX10_records_7 : decode cX10_records 7 = .ok (.iload_n 2, 1) := by decide +kernel
theorem dX10_records_8 : decode cX10_records 8 = .ok (.bipush 105, 2) := by decide +kernel
theorem dX10_records_10 : decode cX10_records 10 = .ok (.if_icmp .ge 23, 3) := by decide +kernel
theorem dX10_records_13 : decode cX10_records 13 = .ok (.aload_n 0, 1) := by decide +kernel
theorem dX10_records_14 : decode cX10_records 14 = .ok (.getfield 73, 3) := by decide +kernel
theorem dX10_records_17 : decode cX10_records 17 = .ok (.aload_n 0, 1) := by decide +kernel
theorem dX10_records_18 : decode cX10_records 18 = .ok (.iload_n 1, 1) := by decide +kernel
theorem dX10_records_19 : decode cX10_records 19 = .ok (.iconst 0, 1) := by decide +kernel
theorem dX10_records_20 : decode cX10_records 20 = .ok (.invokevirtual 284, 3) := by decide +kernel
theorem dX10_records_23 : decode cX10_records 23 = .ok (.iload_n 2, 1) := by decide +kernel
theorem dX10_records_24 : decode cX10_records 24 = .ok (.iadd, 1) := by decide +kernel
theorem dX10_records_25 : decode cX10_records 25 = .ok (.iconst 0, 1) := by decide +kernel
theorem dX10_records_26 : decode cX10_records 26 = .ok (.iastore, 1) := by decide +kernel
theorem dX10_records_27 : decode cX10_records 27 = .ok (.iinc 2 1, 3) := by decide +kernel
theorem dX10_records_30 : decode cX10_records 30 = .ok (.goto (-23), 3) := by decide +kernel
theorem dX10_records_33 : decode cX10_records 33 = .ok (.iconst 0, 1) := by decide +kernel
theorem dX10_records_34 : decode cX10_records 34 = .ok (.istore_n 2, 1) := by decide +kernel
theorem dX10_records_35 : decode cX10_records 35 = .ok (.iload_n 2, 1) := by decide +kernel
theorem dX10_records_36 : decode cX10_records 36 = .ok (.iconst 5, 1) := by decide +kernel
theorem dX10_records_37 : decode cX10_records 37 = .ok (.if_icmp .ge 82, 3) := by decide +kernel
theorem dX10_records_40 : decode cX10_records 40 = .ok (.aload_n 0, 1) := by decide +kernel
theorem dX10_records_41 : decode cX10_records 41 = .ok (.getfield 290, 3) := by decide +kernel
theorem dX10_records_44 : decode cX10_records 44 = .ok (.iload_n 2, 1) := by decide +kernel
theorem dX10_records_45 : decode cX10_records 45 = .ok (.invokestatic 281, 3) := by decide +kernel
theorem dX10_records_48 : decode cX10_records 48 = .ok (.ifCond .ne 6, 3) := by decide +kernel
theorem dX10_records_51 : decode cX10_records 51 = .ok (.goto 62, 3) := by decide +kernel
theorem dX10_records_54 : decode cX10_records 54 = .ok (.aload_n 0, 1) := by decide +kernel
theorem dX10_records_55 : decode cX10_records 55 = .ok (.aload_n 0, 1) := by decide +kernel
theorem dX10_records_56 : decode cX10_records 56 = .ok (.getfield 67, 3) := by decide +kernel
theorem dX10_records_59 : decode cX10_records 59 = .ok (.iload_n 2, 1) := by decide +kernel
theorem dX10_records_60 : decode cX10_records 60 = .ok (.iaload, 1) := by decide +kernel
theorem dX10_records_61 : decode cX10_records 61 = .ok (.invokevirtual 213, 3) := by decide +kernel
theorem dX10_records_64 : decode cX10_records 64 = .ok (.istore_n 3, 1) := by decide +kernel
theorem dX10_records_65 : decode cX10_records 65 = .ok (.aload_n 0, 1) := by decide +kernel
theorem dX10_records_66 : decode cX10_records 66 = .ok (.getfield 67, 3) := by decide +kernel
theorem dX10_records_69 : decode cX10_records 69 = .ok (.iload_n 2, 1) := by decide +kernel
theorem dX10_records_70 : decode cX10_records 70 = .ok (.iaload, 1) := by decide +kernel
theorem dX10_records_71 : decode cX10_records 71 = .ok (.istore 4, 2) := by decide +kernel
theorem dX10_records_73 : decode cX10_records 73 = .ok (.iload 4, 2) := by decide +kernel
theorem dX10_records_75 : decode cX10_records 75 = .ok (.iload_n 3, 1) := by decide +kernel
theorem dX10_records_76 : decode cX10_records 76 = .ok (.if_icmp .ge 37, 3) := by decide +kernel
theorem dX10_records_79 : decode cX10_records 79 = .ok (.aload_n 0, 1) := by decide +kernel
theorem dX10_records_80 : decode cX10_records 80 = .ok (.getfield 73, 3) := by decide +kernel
theorem dX10_records_83 : decode cX10_records 83 = .ok (.aload_n 0, 1) := by decide +kernel
theorem dX10_records_84 : decode cX10_records 84 = .ok (.iload_n 1, 1) := by decide +kernel
theorem dX10_records_85 : decode cX10_records 85 = .ok (.iload_n 2, 1) := by decide +kernel
theorem dX10_records_86 : decode cX10_records 86 = .ok (.invokevirtual 284, 3) := by decide +kernel
theorem dX10_records_89 : decode cX10_records 89 = .ok (.iload 4, 2) := by decide +kernel
theorem dX10_records_91 : decode cX10_records 91 = .ok (.iadd, 1) := by decide +kernel
theorem dX10_records_92 : decode cX10_records 92 = .ok (.aload_n 0, 1) := by decide +kernel
theorem dX10_records_93 : decode cX10_records 93 = .ok (.getfield 67, 3) := by decide +kernel
theorem dX10_records_96 : decode cX10_records 96 = .ok (.iload_n 2, 1) := by decide +kernel
theorem dX10_records_97 : decode cX10_records 97 = .ok (.iaload, 1) := by decide +kernel
theorem dX10_records_98 : decode cX10_records 98 = .ok (.isub, 1) := by decide +kernel
theorem dX10_records_99 : decode cX10_records 99 = .ok (.aload_n 0, 1) := by decide +kernel
theorem dX10_records_100 : decode cX10_records 100 = .ok (.getfield 52, 3) := by decide +kernel
theorem dX10_records_103 : decode cX10_records 103 = .ok (.iload 4, 2) := by decide +kernel
theorem dX10_records_105 : decode cX10_records 105 = .ok (.iaload, 1) := by decide +kernel
theorem dX10_records_106 : decode cX10_records 106 = .ok (.iastore, 1) := by decide +kernel
theorem dX10_records_107 : decode cX10_records 107 = .ok (.iinc 4 1, 3) := by decide +kernel
theorem dX10_records_110 : decode cX10_records 110 = .ok (.goto (-37), 3) := by decide +kernel
theorem dX10_records_113 : decode cX10_records 113 = .ok (.iinc 2 1, 3) := by decide +kernel
theorem dX10_records_116 : decode cX10_records 116 = .ok (.goto (-81), 3) := by decide +kernel
theorem dX10_records_119 : decode cX10_records 119 = .ok (.iload_n 1, 1) := by decide +kernel
theorem dX10_records_120 : decode cX10_records 120 = .ok (.istore_n 2, 1) := by decide +kernel
theorem dX10_records_121 : decode cX10_records 121 = .ok (.iload_n 2, 1) := by decide +kernel
theorem dX10_records_122 : decode cX10_records 122 = .ok (.ifCond .le 20, 3) := by decide +kernel
theorem dX10_records_125 : decode cX10_records 125 = .ok (.aload_n 0, 1) := by decide +kernel
theorem dX10_records_126 : decode cX10_records 126 = .ok (.iload_n 2, 1) := by decide +kernel
theorem dX10_records_127 : decode cX10_records 127 = .ok (.iconst 1, 1) := by decide +kernel
theorem dX10_records_128 : decode cX10_records 128 = .ok (.isub, 1) := by decide +kernel
theorem dX10_records_129 : decode cX10_records 129 = .ok (.iload_n 1, 1) := by decide +kernel
theorem dX10_records_130 : decode cX10_records 130 = .ok (.invokevirtual 293, 3) := by decide +kernel
theorem dX10_records_133 : decode cX10_records 133 = .ok (.ifCond .le 9, 3) := by decide +kernel
theorem dX10_records_136 : decode cX10_records 136 = .ok (.iinc 2 (-1), 3) := by decide +kernel
theorem dX10_records_139 : decode cX10_records 139 = .ok (.goto (-18), 3) := by decide +kernel
theorem dX10_records_142 : decode cX10_records 142 = .ok (.iload_n 2, 1) := by decide +kernel
theorem dX10_records_143 : decode cX10_records 143 = .ok (.ifCond .le 15, 3) := by decide +kernel
theorem dX10_records_146 : decode cX10_records 146 = .ok (.aload_n 0, 1) := by decide +kernel
theorem dX10_records_147 : decode cX10_records 147 = .ok (.iload_n 2, 1) := by decide +kernel
theorem dX10_records_148 : decode cX10_records 148 = .ok (.iconst 1, 1) := by decide +kernel
theorem dX10_records_149 : decode cX10_records 149 = .ok (.isub, 1) := by decide +kernel
theorem dX10_records_150 : decode cX10_records 150 = .ok (.iload_n 1, 1) := by decide +kernel
theorem dX10_records_151 : decode cX10_records 151 = .ok (.invokevirtual 293, 3) := by decide +kernel
theorem dX10_records_154 : decode cX10_records 154 = .ok (.ifCond .ne 4, 3) := by decide +kernel
theorem dX10_records_157 : decode cX10_records 157 = .ok (.return_, 1) := by decide +kernel
theorem dX10_records_158 : decode cX10_records 158 = .ok (.iload_n 1, 1) := by decide +kernel
theorem dX10_records_159 : decode cX10_records 159 = .ok (.sipush 300, 3) := by decide +kernel
theorem dX10_records_162 : decode cX10_records 162 = .ok (.if_icmp .ne 9, 3) := by decide +kernel
theorem dX10_records_165 : decode cX10_records 165 = .ok (.aload_n 0, 1) := by decide +kernel
theorem dX10_records_166 : decode cX10_records 166 = .ok (.iconst 1, 1) := by decide +kernel
theorem dX10_records_167 : decode cX10_records 167 = .ok (.putfield 296, 3) := by decide +kernel
theorem dX10_records_170 : decode cX10_records 170 = .ok (.return_, 1) := by decide +kernel
theorem dX10_records_171 : decode cX10_records 171 = .ok (.iconst 0, 1) := by decide +kernel
theorem dX10_records_172 : decode cX10_records 172 = .ok (.istore_n 3, 1) := by decide +kernel
theorem dX10_records_173 : decode cX10_records 173 = .ok (.iload_n 3, 1) := by decide +kernel
theorem dX10_records_174 : decode cX10_records 174 = .ok (.bipush 105, 2) := by decide +kernel
theorem dX10_records_176 : decode cX10_records 176 = .ok (.if_icmp .ge 37, 3) := by decide +kernel
theorem dX10_records_179 : decode cX10_records 179 = .ok (.aload_n 0, 1) := by decide +kernel
theorem dX10_records_180 : decode cX10_records 180 = .ok (.getfield 73, 3) := by decide +kernel
theorem dX10_records_183 : decode cX10_records 183 = .ok (.aload_n 0, 1) := by decide +kernel
theorem dX10_records_184 : decode cX10_records 184 = .ok (.sipush 301, 3) := by decide +kernel
theorem dX10_records_187 : decode cX10_records 187 = .ok (.iconst 0, 1) := by decide +kernel
theorem dX10_records_188 : decode cX10_records 188 = .ok (.invokevirtual 284, 3) := by decide +kernel
theorem dX10_records_191 : decode cX10_records 191 = .ok (.iload_n 3, 1) := by decide +kernel
theorem dX10_records_192 : decode cX10_records 192 = .ok (.iadd, 1) := by decide +kernel
theorem dX10_records_193 : decode cX10_records 193 = .ok (.aload_n 0, 1) := by decide +kernel
theorem dX10_records_194 : decode cX10_records 194 = .ok (.getfield 73, 3) := by decide +kernel
theorem dX10_records_197 : decode cX10_records 197 = .ok (.aload_n 0, 1) := by decide +kernel
theorem dX10_records_198 : decode cX10_records 198 = .ok (.iload_n 1, 1) := by decide +kernel
theorem dX10_records_199 : decode cX10_records 199 = .ok (.iconst 0, 1) := by decide +kernel
theorem dX10_records_200 : decode cX10_records 200 = .ok (.invokevirtual 284, 3) := by decide +kernel
theorem dX10_records_203 : decode cX10_records 203 = .ok (.iload_n 3, 1) := by decide +kernel
theorem dX10_records_204 : decode cX10_records 204 = .ok (.iadd, 1) := by decide +kernel
theorem dX10_records_205 : decode cX10_records 205 = .ok (.iaload, 1) := by decide +kernel
theorem dX10_records_206 : decode cX10_records 206 = .ok (.iastore, 1) := by decide +kernel
theorem dX10_records_207 : decode cX10_records 207 = .ok (.iinc 3 1, 3) := by decide +kernel
theorem dX10_records_210 : decode cX10_records 210 = .ok (.goto (-37), 3) := by decide +kernel
theorem dX10_records_213 : decode cX10_records 213 = .ok (.aload_n 0, 1) := by decide +kernel
theorem dX10_records_214 : decode cX10_records 214 = .ok (.iload_n 1, 1) := by decide +kernel
theorem dX10_records_215 : decode cX10_records 215 = .ok (.iconst 0, 1) := by decide +kernel
theorem dX10_records_216 : decode cX10_records 216 = .ok (.invokevirtual 284, 3) := by decide +kernel
theorem dX10_records_219 : decode cX10_records 219 = .ok (.iconst 1, 1) := by decide +kernel
theorem dX10_records_220 : decode cX10_records 220 = .ok (.isub, 1) := by decide +kernel
theorem dX10_records_221 : decode cX10_records 221 = .ok (.istore_n 3, 1) := by decide +kernel
theorem dX10_records_222 : decode cX10_records 222 = .ok (.iload_n 3, 1) := by decide +kernel
theorem dX10_records_223 : decode cX10_records 223 = .ok (.aload_n 0, 1) := by decide +kernel
theorem dX10_records_224 : decode cX10_records 224 = .ok (.iload_n 2, 1) := by decide +kernel
theorem dX10_records_225 : decode cX10_records 225 = .ok (.iconst 0, 1) := by decide +kernel
theorem dX10_records_226 : decode cX10_records 226 = .ok (.invokevirtual 284, 3) := by decide +kernel
theorem dX10_records_229 : decode cX10_records 229 = .ok (.if_icmp .lt 24, 3) := by decide +kernel
theorem dX10_records_232 : decode cX10_records 232 = .ok (.aload_n 0, 1) := by decide +kernel
theorem dX10_records_233 : decode cX10_records 233 = .ok (.getfield 73, 3) := by decide +kernel
theorem dX10_records_236 : decode cX10_records 236 = .ok (.iload_n 3, 1) := by decide +kernel
theorem dX10_records_237 : decode cX10_records 237 = .ok (.bipush 105, 2) := by decide +kernel
theorem dX10_records_239 : decode cX10_records 239 = .ok (.iadd, 1) := by decide +kernel
theorem dX10_records_240 : decode cX10_records 240 = .ok (.aload_n 0, 1) := by decide +kernel
theorem dX10_records_241 : decode cX10_records 241 = .ok (.getfield 73, 3) := by decide +kernel
theorem dX10_records_244 : decode cX10_records 244 = .ok (.iload_n 3, 1) := by decide +kernel
theorem dX10_records_245 : decode cX10_records 245 = .ok (.iaload, 1) := by decide +kernel
theorem dX10_records_246 : decode cX10_records 246 = .ok (.iastore, 1) := by decide +kernel
theorem dX10_records_247 : decode cX10_records 247 = .ok (.iinc 3 (-1), 3) := by decide +kernel
theorem dX10_records_250 : decode cX10_records 250 = .ok (.goto (-28), 3) := by decide +kernel
theorem dX10_records_253 : decode cX10_records 253 = .ok (.iconst 0, 1) := by decide +kernel
theorem dX10_records_254 : decode cX10_records 254 = .ok (.istore_n 3, 1) := by decide +kernel
theorem dX10_records_255 : decode cX10_records 255 = .ok (.iload_n 3, 1) := by decide +kernel
theorem dX10_records_256 : decode cX10_records 256 = .ok (.bipush 105, 2) := by decide +kernel
theorem dX10_records_258 : decode cX10_records 258 = .ok (.if_icmp .ge 37, 3) := by decide +kernel
theorem dX10_records_261 : decode cX10_records 261 = .ok (.aload_n 0, 1) := by decide +kernel
theorem dX10_records_262 : decode cX10_records 262 = .ok (.getfield 73, 3) := by decide +kernel
theorem dX10_records_265 : decode cX10_records 265 = .ok (.aload_n 0, 1) := by decide +kernel
theorem dX10_records_266 : decode cX10_records 266 = .ok (.iload_n 2, 1) := by decide +kernel
theorem dX10_records_267 : decode cX10_records 267 = .ok (.iconst 0, 1) := by decide +kernel
theorem dX10_records_268 : decode cX10_records 268 = .ok (.invokevirtual 284, 3) := by decide +kernel
theorem dX10_records_271 : decode cX10_records 271 = .ok (.iload_n 3, 1) := by decide +kernel
theorem dX10_records_272 : decode cX10_records 272 = .ok (.iadd, 1) := by decide +kernel
theorem dX10_records_273 : decode cX10_records 273 = .ok (.aload_n 0, 1) := by decide +kernel
theorem dX10_records_274 : decode cX10_records 274 = .ok (.getfield 73, 3) := by decide +kernel
theorem dX10_records_277 : decode cX10_records 277 = .ok (.aload_n 0, 1) := by decide +kernel
theorem dX10_records_278 : decode cX10_records 278 = .ok (.sipush 301, 3) := by decide +kernel
theorem dX10_records_281 : decode cX10_records 281 = .ok (.iconst 0, 1) := by decide +kernel
theorem dX10_records_282 : decode cX10_records 282 = .ok (.invokevirtual 284, 3) := by decide +kernel
theorem dX10_records_285 : decode cX10_records 285 = .ok (.iload_n 3, 1) := by decide +kernel
theorem dX10_records_286 : decode cX10_records 286 = .ok (.iadd, 1) := by decide +kernel
theorem dX10_records_287 : decode cX10_records 287 = .ok (.iaload, 1) := by decide +kernel
theorem dX10_records_288 : decode cX10_records 288 = .ok (.iastore, 1) := by decide +kernel
theorem dX10_records_289 : decode cX10_records 289 = .ok (.iinc 3 1, 3) := by decide +kernel
theorem dX10_records_292 : decode cX10_records 292 = .ok (.goto (-37), 3) := by decide +kernel
theorem dX10_records_295 : decode cX10_records 295 = .ok (.aload_n 0, 1) := by decide +kernel
theorem dX10_records_296 : decode cX10_records 296 = .ok (.dup, 1) := by decide +kernel
theorem dX10_records_297 : decode cX10_records 297 = .ok (.getfield 287, 3) := by decide +kernel
theorem dX10_records_300 : decode cX10_records 300 = .ok (.iconst 1, 1) := by decide +kernel
theorem dX10_records_301 : decode cX10_records 301 = .ok (.iadd, 1) := by decide +kernel
theorem dX10_records_302 : decode cX10_records 302 = .ok (.putfield 287, 3) := by decide +kernel
theorem dX10_records_305 : decode cX10_records 305 = .ok (.return_, 1) := by decide +kernel
set_option maxRecDepth 20000 in
theorem ggX10_solves_X10_records : GoodIn wsX10_solves wsX10_records := goodIn_r _ [10, 11, 12, 13, 14, 4, 1, 15, 16, 17, 9, 18, 19, 20, 21, 22, 23, 24, 25, 26, 27, 28, 29, 30, 31, 32, 33, 92, 93, 94, 95, 96, 97, 98, 99, 100, 101, 102, 103, 104, 105, 106, 107, 108, 109, 110, 111, 112, 113, 114, 115, 116, 117, 118, 119, 120, 121, 122, 123, 124, 125, 126, 127, 128, 129, 130, 131, 132, 133, 134, 135, 136, 137, 138, 139, 140, 141] rfl (by decide +kernel)
set_option maxRecDepth 20000 in
theorem gX10_solves_X10_records : GoodIn wsX10_solves (wsV RX10 299 RX10 yX10_records wsX10_records) := goodIn_app (goodIn_of _ (by decide +kernel)) ggX10_solves_X10_records
set_option maxRecDepth 20000 in
theorem ggX10_solves_X10_byVariable : GoodIn wsX10_solves wsX10_byVariable := goodIn_r _ [65, 14, 66, 67, 68, 9, 69, 70, 71, 72, 73, 4, 22, 23, 24, 25, 26, 27, 28, 29, 52, 53, 54, 47, 5, 37, 38, 39, 40, 48, 49, 50, 51, 2, 3, 55, 56, 57, 58, 59, 60, 61, 62, 63, 64, 74, 75, 76, 77, 78, 79, 80, 81, 82, 83, 84, 85, 86, 87, 88, 1, 89, 90, 91, 0, 6, 7, 8, 10, 11, 12, 13, 15, 16, 17, 18, 19, 20, 21, 30, 31, 32, 33, 34, 35, 36, 41, 42, 43, 44, 45, 46, 92, 93, 94, 95, 96, 97, 98, 99, 100, 101, 102, 103, 104, 105, 106, 107, 108, 109, 110, 111, 112, 113, 114, 115, 116, 117, 118, 119, 120, 121, 122, 123, 124, 125, 126, 127, 128, 129, 130, 131, 132, 133, 134, 135, 136, 137, 138, 139, 140, 141] rfl (by decide +kernel)
set_option maxRecDepth 20000 in
theorem gX10_solves_X10_byVariable : GoodIn wsX10_solves (wsV RX10 302 RX10 yX10_byVariable wsX10_byVariable) := goodIn_app (goodIn_of _ (by decide +kernel)) ggX10_solves_X10_byVariable
set_option maxRecDepth 20000 in
theorem ggX10_solves_X10_operatorAt : GoodIn wsX10_solves wsX10_operatorAt := goodIn_r _ [40, 4, 92, 93, 94, 95, 96, 97, 98, 99, 100, 101, 102, 103, 104, 105, 106, 107, 108, 109, 110, 111, 112, 113, 114, 115, 116, 117, 118, 119, 120, 121, 122, 123, 124, 125, 126, 127, 128, 129, 130, 131, 132, 133, 134, 135, 136, 137, 138, 139, 140, 141] rfl (by decide +kernel)
set_option maxRecDepth 20000 in
theorem gX10_solves_X10_operatorAt : GoodIn wsX10_solves (wsV RX10 220 RX10 yX10_operatorAt wsX10_operatorAt) := goodIn_app (goodIn_of _ (by decide +kernel)) ggX10_solves_X10_operatorAt
set_option maxRecDepth 20000 in
theorem ggX10_solves_X10_byShares : GoodIn wsX10_solves wsX10_byShares := goodIn_r _ [55, 56, 57, 58, 4, 37, 38, 39, 9, 40, 26, 27, 28, 29, 22, 23, 24, 25, 59, 60, 61, 62, 63, 64, 47, 5, 48, 49, 50, 51, 2, 3, 52, 53, 54, 65, 14, 66, 67, 68, 69, 70, 71, 72, 73, 74, 75, 76, 77, 78, 79, 80, 81, 82, 83, 84, 85, 86, 87, 88, 1, 89, 90, 91, 0, 6, 7, 8, 10, 11, 12, 13, 15, 16, 17, 18, 19, 20, 21, 30, 31, 32, 33, 34, 35, 36, 41, 42, 43, 44, 45, 46, 92, 93, 94, 95, 96, 97, 98, 99, 100, 101, 102, 103, 104, 105, 106, 107, 108, 109, 110, 111, 112, 113, 114, 115, 116, 117, 118, 119, 120, 121, 122, 123, 124, 125, 126, 127, 128, 129, 130, 131, 132, 133, 134, 135, 136, 137, 138, 139, 140, 141] rfl (by decide +kernel)
set_option maxRecDepth 20000 in
theorem gX10_solves_X10_byShares : GoodIn wsX10_solves (wsV RX10 306 RX10 yX10_byShares wsX10_byShares) := goodIn_app (goodIn_of _ (by decide +kernel)) ggX10_solves_X10_byShares
set_option maxRecDepth 20000 in
theorem ggX10_solves_X10_byParts : GoodIn wsX10_solves wsX10_byParts := goodIn_r _ [47, 5, 26, 27, 28, 9, 29, 4, 37, 38, 39, 40, 48, 49, 50, 51, 2, 3, 22, 23, 24, 25, 52, 53, 54, 55, 56, 57, 58, 59, 60, 61, 62, 63, 64, 65, 14, 66, 67, 68, 69, 70, 71, 72, 73, 74, 75, 76, 77, 78, 79, 80, 81, 82, 83, 84, 85, 86, 87, 88, 1, 89, 90, 91, 0, 6, 7, 8, 10, 11, 12, 13, 15, 16, 17, 18, 19, 20, 21, 30, 31, 32, 33, 34, 35, 36, 41, 42, 43, 44, 45, 46, 92, 93, 94, 95, 96, 97, 98, 99, 100, 101, 102, 103, 104, 105, 106, 107, 108, 109, 110, 111, 112, 113, 114, 115, 116, 117, 118, 119, 120, 121, 122, 123, 124, 125, 126, 127, 128, 129, 130, 131, 132, 133, 134, 135, 136, 137, 138, 139, 140, 141] rfl (by decide +kernel)
set_option maxRecDepth 20000 in
theorem gX10_solves_X10_byParts : GoodIn wsX10_solves (wsV RX10 309 RX10 yX10_byParts wsX10_byParts) := goodIn_app (goodIn_of _ (by decide +kernel)) ggX10_solves_X10_byParts
theorem dX10_solves_0 : decode cX10_solves 0 = .ok (.aload_n 0, 1) := by decide +kernel
theorem dX10_solves_1 : decode cX10_solves 1 = .ok (.getfield 296, 3) := by decide +kernel
theorem dX10_solves_4 : decode cX10_solves 4 = .ok (.ifCond .eq 4, 3) := by decide +kernel
theorem dX10_solves_7 : decode cX10_solves 7 = .ok (.return_, 1) := by decide +kernel
theorem dX10_solves_8 : decode cX10_solves 8 = .ok (.iload_n 1, 1) := by decide +kernel
theorem dX10_solves_9 : decode cX10_solves 9 = .ok (.ifCond .ne 8, 3) := by decide +kernel
theorem dX10_solves_12 : decode cX10_solves 12 = .ok (.aload_n 0, 1) := by decide +kernel
theorem dX10_solves_13 : decode cX10_solves 13 = .ok (.invokevirtual 299, 3) := by decide +kernel
theorem dX10_solves_16 : decode cX10_solves 16 = .ok (.return_, 1) := by decide +kernel
theorem dX10_solves_17 : decode cX10_solves 17 = .ok (.iload_n 1, 1) := by decide +kernel
theorem dX10_solves_18 : decode cX10_solves 18 = .ok (.iconst 1, 1) := by decide +kernel
theorem dX10_solves_19 : decode cX10_solves 19 = .ok (.isub, 1) := by decide +kernel
theorem dX10_solves_20 : decode cX10_solves 20 = .ok (.istore_n 2, 1) := by decide +kernel
theorem dX10_solves_21 : decode cX10_solves 21 = .ok (.aload_n 0, 1) := by decide +kernel
theorem dX10_solves_22 : decode cX10_solves 22 = .ok (.getfield 61, 3) := by decide +kernel
theorem dX10_solves_25 : decode cX10_solves 25 = .ok (.iload_n 2, 1) := by decide +kernel
theorem dX10_solves_26 : decode cX10_solves 26 = .ok (.iaload, 1) := by decide +kernel
theorem dX10_solves_27 : decode cX10_solves 27 = .ok (.istore_n 3, 1) := by decide +kernel
theorem dX10_solves_28 : decode cX10_solves 28 = .ok (.aload_n 0, 1) := by decide +kernel
theorem dX10_solves_29 : decode cX10_solves 29 = .ok (.getfield 64, 3) := by decide +kernel
theorem dX10_solves_32 : decode cX10_solves 32 = .ok (.iload_n 2, 1) := by decide +kernel
theorem dX10_solves_33 : decode cX10_solves 33 = .ok (.iaload, 1) := by decide +kernel
theorem dX10_solves_34 : decode cX10_solves 34 = .ok (.istore 4, 2) := by decide +kernel
theorem dX10_solves_36 : decode cX10_solves 36 = .ok (.aload_n 0, 1) := by decide +kernel
theorem dX10_solves_37 : decode cX10_solves 37 = .ok (.getfield 52, 3) := by decide +kernel
theorem dX10_solves_40 : decode cX10_solves 40 = .ok (.iload_n 3, 1) := by decide +kernel
theorem dX10_solves_41 : decode cX10_solves 41 = .ok (.iaload, 1) := by decide +kernel
theorem dX10_solves_42 : decode cX10_solves 42 = .ok (.sipush 512, 3) := by decide +kernel
theorem dX10_solves_45 : decode cX10_solves 45 = .ok (.if_icmp .ge 19, 3) := by decide +kernel
theorem dX10_solves_48 : decode cX10_solves 48 = .ok (.aload_n 0, 1) := by decide +kernel
theorem dX10_solves_49 : decode cX10_solves 49 = .ok (.iload_n 2, 1) := by decide +kernel
theorem dX10_solves_50 : decode cX10_solves 50 = .ok (.aload_n 0, 1) := by decide +kernel
theorem dX10_solves_51 : decode cX10_solves 51 = .ok (.getfield 52, 3) := by decide +kernel
theorem dX10_solves_54 : decode cX10_solves 54 = .ok (.iload_n 3, 1) := by decide +kernel
theorem dX10_solves_55 : decode cX10_solves 55 = .ok (.iaload, 1) := by decide +kernel
theorem dX10_solves_56 : decode cX10_solves 56 = .ok (.iload 4, 2) := by decide +kernel
theorem dX10_solves_58 : decode cX10_solves 58 = .ok (.invokevirtual 302, 3) := by decide +kernel
theorem dX10_solves_61 : decode cX10_solves 61 = .ok (.goto 52, 3) := by decide +kernel
