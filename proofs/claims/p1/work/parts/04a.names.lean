theorem dX10_init_0 : decode cX10_init 0 = .ok (.aload_n 0, 1) := by decide +kernel
theorem dX10_init_1 : decode cX10_init 1 = .ok (.invokespecial 3, 3) := by decide +kernel
theorem dX10_init_4 : decode cX10_init 4 = .ok (.aload_n 0, 1) := by decide +kernel
theorem dX10_init_5 : decode cX10_init 5 = .ok (.sipush 400, 3) := by decide +kernel
theorem dX10_init_8 : decode cX10_init 8 = .ok (.newarray .byte, 2) := by decide +kernel
theorem dX10_init_10 : decode cX10_init 10 = .ok (.putfield 9, 3) := by decide +kernel
theorem dX10_init_13 : decode cX10_init 13 = .ok (.aload_n 0, 1) := by decide +kernel
theorem dX10_init_14 : decode cX10_init 14 = .ok (.iconst 5, 1) := by decide +kernel
theorem dX10_init_15 : decode cX10_init 15 = .ok (.newarray .int, 2) := by decide +kernel
theorem dX10_init_17 : decode cX10_init 17 = .ok (.putfield 13, 3) := by decide +kernel
theorem dX10_init_20 : decode cX10_init 20 = .ok (.aload_n 0, 1) := by decide +kernel
theorem dX10_init_21 : decode cX10_init 21 = .ok (.iconst (-1), 1) := by decide +kernel
theorem dX10_init_22 : decode cX10_init 22 = .ok (.putfield 17, 3) := by decide +kernel
theorem dX10_init_25 : decode cX10_init 25 = .ok (.aload_n 0, 1) := by decide +kernel
theorem dX10_init_26 : decode cX10_init 26 = .ok (.bipush 90, 2) := by decide +kernel
theorem dX10_init_28 : decode cX10_init 28 = .ok (.newarray .byte, 2) := by decide +kernel
theorem dX10_init_30 : decode cX10_init 30 = .ok (.putfield 21, 3) := by decide +kernel
theorem dX10_init_33 : decode cX10_init 33 = .ok (.aload_n 0, 1) := by decide +kernel
theorem dX10_init_34 : decode cX10_init 34 = .ok (.bipush 90, 2) := by decide +kernel
theorem dX10_init_36 : decode cX10_init 36 = .ok (.newarray .byte, 2) := by decide +kernel
theorem dX10_init_38 : decode cX10_init 38 = .ok (.putfield 24, 3) := by decide +kernel
theorem dX10_init_41 : decode cX10_init 41 = .ok (.aload_n 0, 1) := by decide +kernel
theorem dX10_init_42 : decode cX10_init 42 = .ok (.bipush 15, 2) := by decide +kernel
theorem dX10_init_44 : decode cX10_init 44 = .ok (.newarray .int, 2) := by decide +kernel
theorem dX10_init_46 : decode cX10_init 46 = .ok (.putfield 27, 3) := by decide +kernel
theorem dX10_init_49 : decode cX10_init 49 = .ok (.aload_n 0, 1) := by decide +kernel
theorem dX10_init_50 : decode cX10_init 50 = .ok (.bipush 15, 2) := by decide +kernel
theorem dX10_init_52 : decode cX10_init 52 = .ok (.newarray .int, 2) := by decide +kernel
theorem dX10_init_54 : decode cX10_init 54 = .ok (.putfield 30, 3) := by decide +kernel
theorem dX10_init_57 : decode cX10_init 57 = .ok (.aload_n 0, 1) := by decide +kernel
theorem dX10_init_58 : decode cX10_init 58 = .ok (.bipush 10, 2) := by decide +kernel
theorem dX10_init_60 : decode cX10_init 60 = .ok (.newarray .int, 2) := by decide +kernel
theorem dX10_init_62 : decode cX10_init 62 = .ok (.putfield 33, 3) := by decide +kernel
theorem dX10_init_65 : decode cX10_init 65 = .ok (.aload_n 0, 1) := by decide +kernel
theorem dX10_init_66 : decode cX10_init 66 = .ok (.bipush 10, 2) := by decide +kernel
theorem dX10_init_68 : decode cX10_init 68 = .ok (.newarray .int, 2) := by decide +kernel
theorem dX10_init_70 : decode cX10_init 70 = .ok (.putfield 36, 3) := by decide +kernel
theorem dX10_init_73 : decode cX10_init 73 = .ok (.aload_n 0, 1) := by decide +kernel
theorem dX10_init_74 : decode cX10_init 74 = .ok (.bipush 10, 2) := by decide +kernel
theorem dX10_init_76 : decode cX10_init 76 = .ok (.newarray .int, 2) := by decide +kernel
theorem dX10_init_78 : decode cX10_init 78 = .ok (.putfield 39, 3) := by decide +kernel
theorem dX10_init_81 : decode cX10_init 81 = .ok (.aload_n 0, 1) := by decide +kernel
theorem dX10_init_82 : decode cX10_init 82 = .ok (.bipush 10, 2) := by decide +kernel
theorem dX10_init_84 : decode cX10_init 84 = .ok (.newarray .int, 2) := by decide +kernel
theorem dX10_init_86 : decode cX10_init 86 = .ok (.putfield 42, 3) := by decide +kernel
theorem dX10_init_89 : decode cX10_init 89 = .ok (.aload_n 0, 1) := by decide +kernel
theorem dX10_init_90 : decode cX10_init 90 = .ok (.bipush 10, 2) := by decide +kernel
theorem dX10_init_92 : decode cX10_init 92 = .ok (.newarray .int, 2) := by decide +kernel
theorem dX10_init_94 : decode cX10_init 94 = .ok (.putfield 45, 3) := by decide +kernel
theorem dX10_init_97 : decode cX10_init 97 = .ok (.aload_n 0, 1) := by decide +kernel
theorem dX10_init_98 : decode cX10_init 98 = .ok (.bipush 10, 2) := by decide +kernel
theorem dX10_init_100 : decode cX10_init 100 = .ok (.newarray .int, 2) := by decide +kernel
theorem dX10_init_102 : decode cX10_init 102 = .ok (.putfield 48, 3) := by decide +kernel
theorem dX10_init_105 : decode cX10_init 105 = .ok (.aload_n 0, 1) := by decide +kernel
theorem dX10_init_106 : decode cX10_init 106 = .ok (.ldc 51, 2) := by decide +kernel
theorem dX10_init_108 : decode cX10_init 108 = .ok (.newarray .int, 2) := by decide +kernel
theorem dX10_init_110 : decode cX10_init 110 = .ok (.putfield 52, 3) := by decide +kernel
theorem dX10_init_113 : decode cX10_init 113 = .ok (.aload_n 0, 1) := by decide +kernel
theorem dX10_init_114 : decode cX10_init 114 = .ok (.sipush 512, 3) := by decide +kernel
theorem dX10_init_117 : decode cX10_init 117 = .ok (.newarray .int, 2) := by decide +kernel
theorem dX10_init_119 : decode cX10_init 119 = .ok (.putfield 55, 3) := by decide +kernel
theorem dX10_init_122 : decode cX10_init 122 = .ok (.aload_n 0, 1) := by decide +kernel
theorem dX10_init_123 : decode cX10_init 123 = .ok (.sipush 966, 3) := by decide +kernel
theorem dX10_init_126 : decode cX10_init 126 = .ok (.newarray .int, 2) := by decide +kernel
theorem dX10_init_128 : decode cX10_init 128 = .ok (.putfield 58, 3) := by decide +kernel
theorem dX10_init_131 : decode cX10_init 131 = .ok (.aload_n 0, 1) := by decide +kernel
theorem dX10_init_132 : decode cX10_init 132 = .ok (.sipush 512, 3) := by decide +kernel
theorem dX10_init_135 : decode cX10_init 135 = .ok (.newarray .int, 2) := by decide +kernel
theorem dX10_init_137 : decode cX10_init 137 = .ok (.putfield 61, 3) := by decide +kernel
theorem dX10_init_140 : decode cX10_init 140 = .ok (.aload_n 0, 1) := by decide +kernel
theorem dX10_init_141 : decode cX10_init 141 = .ok (.sipush 512, 3) := by decide +kernel
theorem dX10_init_144 : decode cX10_init 144 = .ok (.newarray .int, 2) := by decide +kernel
theorem dX10_init_146 : decode cX10_init 146 = .ok (.putfield 64, 3) := by decide +kernel
theorem dX10_init_149 : decode cX10_init 149 = .ok (.aload_n 0, 1) := by decide +kernel
theorem dX10_init_150 : decode cX10_init 150 = .ok (.iconst 5, 1) := by decide +kernel
theorem dX10_init_151 : decode cX10_init 151 = .ok (.newarray .int, 2) := by decide +kernel
theorem dX10_init_153 : decode cX10_init 153 = .ok (.putfield 67, 3) := by decide +kernel
theorem dX10_init_156 : decode cX10_init 156 = .ok (.aload_n 0, 1) := by decide +kernel
theorem dX10_init_157 : decode cX10_init 157 = .ok (.sipush 4096, 3) := by decide +kernel
theorem dX10_init_160 : decode cX10_init 160 = .ok (.newarray .int, 2) := by decide +kernel
theorem dX10_init_162 : decode cX10_init 162 = .ok (.putfield 70, 3) := by decide +kernel
theorem dX10_init_165 : decode cX10_init 165 = .ok (.aload_n 0, 1) := by decide +kernel
theorem dX10_init_166 : decode cX10_init 166 = .ok (.sipush 31710, 3) := by decide +kernel
theorem dX10_init_169 : decode cX10_init 169 = .ok (.newarray .int, 2) := by decide +kernel
theorem dX10_init_171 : decode cX10_init 171 = .ok (.putfield 73, 3) := by decide +kernel
theorem dX10_init_174 : decode cX10_init 174 = .ok (.aload_n 0, 1) := by decide +kernel
theorem dX10_init_175 : decode cX10_init 175 = .ok (.sipush 201, 3) := by decide +kernel
theorem dX10_init_178 : decode cX10_init 178 = .ok (.newarray .int, 2) := by decide +kernel
theorem dX10_init_180 : decode cX10_init 180 = .ok (.putfield 76, 3) := by decide +kernel
theorem dX10_init_183 : decode cX10_init 183 = .ok (.aload_n 0, 1) := by decide +kernel
theorem dX10_init_184 : decode cX10_init 184 = .ok (.sipush 201, 3) := by decide +kernel
theorem dX10_init_187 : decode cX10_init 187 = .ok (.newarray .int, 2) := by decide +kernel
theorem dX10_init_189 : decode cX10_init 189 = .ok (.putfield 79, 3) := by decide +kernel
theorem dX10_init_192 : decode cX10_init 192 = .ok (.aload_n 0, 1) := by decide +kernel
theorem dX10_init_193 : decode cX10_init 193 = .ok (.sipush 4221, 3) := by decide +kernel
theorem dX10_init_196 : decode cX10_init 196 = .ok (.newarray .int, 2) := by decide +kernel
theorem dX10_init_198 : decode cX10_init 198 = .ok (.putfield 82, 3) := by decide +kernel
theorem dX10_init_201 : decode cX10_init 201 = .ok (.aload_n 0, 1) := by decide +kernel
theorem dX10_init_202 : decode cX10_init 202 = .ok (.bipush 21, 2) := by decide +kernel
theorem dX10_init_204 : decode cX10_init 204 = .ok (.newarray .int, 2) := by decide +kernel
theorem dX10_init_206 : decode cX10_init 206 = .ok (.putfield 85, 3) := by decide +kernel
theorem dX10_init_209 : decode cX10_init 209 = .ok (.aload_n 0, 1) := by decide +kernel
theorem dX10_init_210 : decode cX10_init 210 = .ok (.sipush 336, 3) := by decide +kernel
theorem dX10_init_213 : decode cX10_init 213 = .ok (.newarray .byte, 2) := by decide +kernel
theorem dX10_init_215 : decode cX10_init 215 = .ok (.putfield 88, 3) := by decide +kernel
theorem dX10_init_218 : decode cX10_init 218 = .ok (.aload_n 0, 1) := by decide +kernel
theorem dX10_init_219 : decode cX10_init 219 = .ok (.sipush 2142, 3) := by decide +kernel
theorem dX10_init_222 : decode cX10_init 222 = .ok (.newarray .int, 2) := by decide +kernel
theorem dX10_init_224 : decode cX10_init 224 = .ok (.putfield 91, 3) := by decide +kernel
theorem dX10_init_227 : decode cX10_init 227 = .ok (.aload_n 0, 1) := by decide +kernel
theorem dX10_init_228 : decode cX10_init 228 = .ok (.iconst 2, 1) := by decide +kernel
theorem dX10_init_229 : decode cX10_init 229 = .ok (.newarray .int, 2) := by decide +kernel
theorem dX10_init_231 : decode cX10_init 231 = .ok (.putfield 94, 3) := by decide +kernel
theorem dX10_init_234 : decode cX10_init 234 = .ok (.aload_n 0, 1) := by decide +kernel
theorem dX10_init_235 : decode cX10_init 235 = .ok (.iconst 2, 1) := by decide +kernel
theorem dX10_init_236 : decode cX10_init 236 = .ok (.newarray .int, 2) := by decide +kernel
theorem dX10_init_238 : decode cX10_init 238 = .ok (.putfield 97, 3) := by decide +kernel
theorem dX10_init_241 : decode cX10_init 241 = .ok (.return_, 1) := by decide +kernel
theorem dX10_thrown_0 : decode cX10_thrown 0 = .ok (.aload_n 0, 1) := by decide +kernel
theorem dX10_thrown_1 : decode cX10_thrown 1 = .ok (.getfield 100, 3) := by decide +kernel
theorem dX10_thrown_4 : decode cX10_thrown 4 = .ok (.ireturn, 1) := by decide +kernel
theorem dX10_throwsIf_0 : decode cX10_throwsIf 0 = .ok (.iload_n 1, 1) := by decide +kernel
theorem dX10_throwsIf_1 : decode cX10_throwsIf 1 = .ok (.ifCond .eq 8, 3) := by decide +kernel
theorem dX10_throwsIf_4 : decode cX10_throwsIf 4 = .ok (.aload_n 0, 1) := by decide +kernel
theorem dX10_throwsIf_5 : decode cX10_throwsIf 5 = .ok (.iload_n 2, 1) := by decide +kernel
theorem dX10_throwsIf_6 : decode cX10_throwsIf 6 = .ok (.putfield 100, 3) := by decide +kernel
theorem dX10_throwsIf_9 : decode cX10_throwsIf 9 = .ok (.iload_n 1, 1) := by decide +kernel
theorem dX10_throwsIf_10 : decode cX10_throwsIf 10 = .ok (.ireturn, 1) := by decide +kernel
theorem dX10_in_0 : decode cX10_in 0 = .ok (.iload_n 0, 1) := by decide +kernel
theorem dX10_in_1 : decode cX10_in 1 = .ok (.iload_n 1, 1) := by decide +kernel
theorem dX10_in_2 : decode cX10_in 2 = .ok (.if_icmp .lt 12, 3) := by decide +kernel
theorem dX10_in_5 : decode cX10_in 5 = .ok (.iload_n 0, 1) := by decide +kernel
theorem dX10_in_6 : decode cX10_in 6 = .ok (.iload_n 2, 1) := by decide +kernel
theorem dX10_in_7 : decode cX10_in 7 = .ok (.if_icmp .gt 7, 3) := by decide +kernel
theorem dX10_in_14 : decode cX10_in 14 = .ok (.iconst 0, 1) := by decide +kernel
theorem dX10_in_15 : decode cX10_in 15 = .ok (.ireturn, 1) := by decide +kernel
theorem dX10_feed_0 : decode cX10_feed 0 = .ok (.aload_n 0, 1) := by decide +kernel
theorem dX10_feed_1 : decode cX10_feed 1 = .ok (.iconst 0, 1) := by decide +kernel
theorem dX10_feed_2 : decode cX10_feed 2 = .ok (.putfield 100, 3) := by decide +kernel
theorem dX10_feed_5 : decode cX10_feed 5 = .ok (.aload_n 0, 1) := by decide +kernel
theorem dX10_feed_6 : decode cX10_feed 6 = .ok (.getfield 103, 3) := by decide +kernel
theorem dX10_feed_9 : decode cX10_feed 9 = .ok (.bipush 20, 2) := by decide +kernel
theorem dX10_feed_11 : decode cX10_feed 11 = .ok (.iadd, 1) := by decide +kernel
theorem dX10_feed_12 : decode cX10_feed 12 = .ok (.sipush 400, 3) := by decide +kernel
theorem dX10_feed_15 : decode cX10_feed 15 = .ok (.if_icmp .le 5, 3) := by decide +kernel
theorem dX10_feed_20 : decode cX10_feed 20 = .ok (.aload_n 0, 1) := by decide +kernel
theorem dX10_feed_21 : decode cX10_feed 21 = .ok (.getfield 13, 3) := by decide +kernel
theorem dX10_feed_24 : decode cX10_feed 24 = .ok (.iconst 0, 1) := by decide +kernel
theorem dX10_feed_25 : decode cX10_feed 25 = .ok (.iload_n 1, 1) := by decide +kernel
theorem dX10_feed_26 : decode cX10_feed 26 = .ok (.iastore, 1) := by decide +kernel
theorem dX10_feed_27 : decode cX10_feed 27 = .ok (.aload_n 0, 1) := by decide +kernel
theorem dX10_feed_28 : decode cX10_feed 28 = .ok (.getfield 13, 3) := by decide +kernel
theorem dX10_feed_31 : decode cX10_feed 31 = .ok (.iconst 1, 1) := by decide +kernel
theorem dX10_feed_32 : decode cX10_feed 32 = .ok (.iload_n 2, 1) := by decide +kernel
theorem dX10_feed_33 : decode cX10_feed 33 = .ok (.iastore, 1) := by decide +kernel
theorem dX10_feed_34 : decode cX10_feed 34 = .ok (.aload_n 0, 1) := by decide +kernel
theorem dX10_feed_35 : decode cX10_feed 35 = .ok (.getfield 13, 3) := by decide +kernel
theorem dX10_feed_38 : decode cX10_feed 38 = .ok (.iconst 2, 1) := by decide +kernel
theorem dX10_feed_39 : decode cX10_feed 39 = .ok (.iload_n 3, 1) := by decide +kernel
theorem dX10_feed_40 : decode cX10_feed 40 = .ok (.iastore, 1) := by decide +kernel
theorem dX10_feed_41 : decode cX10_feed 41 = .ok (.aload_n 0, 1) := by decide +kernel
theorem dX10_feed_42 : decode cX10_feed 42 = .ok (.getfield 13, 3) := by decide +kernel
theorem dX10_feed_45 : decode cX10_feed 45 = .ok (.iconst 3, 1) := by decide +kernel
theorem dX10_feed_46 : decode cX10_feed 46 = .ok (.iload 4, 2) := by decide +kernel
theorem dX10_feed_48 : decode cX10_feed 48 = .ok (.iastore, 1) := by decide +kernel
theorem dX10_feed_49 : decode cX10_feed 49 = .ok (.aload_n 0, 1) := by decide +kernel
theorem dX10_feed_50 : decode cX10_feed 50 = .ok (.getfield 13, 3) := by decide +kernel
theorem dX10_feed_53 : decode cX10_feed 53 = .ok (.iconst 4, 1) := by decide +kernel
theorem dX10_feed_54 : decode cX10_feed 54 = .ok (.iload 5, 2) := by decide +kernel
theorem dX10_feed_56 : decode cX10_feed 56 = .ok (.iastore, 1) := by decide +kernel
theorem dX10_feed_57 : decode cX10_feed 57 = .ok (.iconst 0, 1) := by decide +kernel
theorem dX10_feed_58 : decode cX10_feed 58 = .ok (.istore 6, 2) := by decide +kernel
theorem dX10_feed_60 : decode cX10_feed 60 = .ok (.iload 6, 2) := by decide +kernel
theorem dX10_feed_62 : decode cX10_feed 62 = .ok (.bipush 20, 2) := by decide +kernel
theorem dX10_feed_64 : decode cX10_feed 64 = .ok (.if_icmp .ge 42, 3) := by decide +kernel
theorem dX10_feed_67 : decode cX10_feed 67 = .ok (.aload_n 0, 1) := by decide +kernel
theorem dX10_feed_68 : decode cX10_feed 68 = .ok (.getfield 9, 3) := by decide +kernel
theorem dX10_feed_71 : decode cX10_feed 71 = .ok (.aload_n 0, 1) := by decide +kernel
theorem dX10_feed_72 : decode cX10_feed 72 = .ok (.getfield 103, 3) := by decide +kernel
theorem dX10_feed_75 : decode cX10_feed 75 = .ok (.iload 6, 2) := by decide +kernel
theorem dX10_feed_77 : decode cX10_feed 77 = .ok (.iadd, 1) := by decide +kernel
theorem dX10_feed_78 : decode cX10_feed 78 = .ok (.aload_n 0, 1) := by decide +kernel
theorem dX10_feed_79 : decode cX10_feed 79 = .ok (.getfield 13, 3) := by decide +kernel
theorem dX10_feed_82 : decode cX10_feed 82 = .ok (.iload 6, 2) := by decide +kernel
theorem dX10_feed_84 : decode cX10_feed 84 = .ok (.iconst 4, 1) := by decide +kernel
theorem dX10_feed_85 : decode cX10_feed 85 = .ok (.idiv, 1) := by decide +kernel
theorem dX10_feed_86 : decode cX10_feed 86 = .ok (.iaload, 1) := by decide +kernel
theorem dX10_feed_87 : decode cX10_feed 87 = .ok (.bipush 24, 2) := by decide +kernel
theorem dX10_feed_89 : decode cX10_feed 89 = .ok (.bipush 8, 2) := by decide +kernel
theorem dX10_feed_91 : decode cX10_feed 91 = .ok (.iload 6, 2) := by decide +kernel
theorem dX10_feed_93 : decode cX10_feed 93 = .ok (.iconst 4, 1) := by decide +kernel
theorem dX10_feed_94 : decode cX10_feed 94 = .ok (.irem, 1) := by decide +kernel
theorem dX10_feed_95 : decode cX10_feed 95 = .ok (.imul, 1) := by decide +kernel
theorem dX10_feed_96 : decode cX10_feed 96 = .ok (.isub, 1) := by decide +kernel
theorem dX10_feed_97 : decode cX10_feed 97 = .ok (.ishr, 1) := by decide +kernel
theorem dX10_feed_98 : decode cX10_feed 98 = .ok (.i2b, 1) := by decide +kernel
theorem dX10_feed_99 : decode cX10_feed 99 = .ok (.bastore, 1) := by decide +kernel
theorem dX10_feed_100 : decode cX10_feed 100 = .ok (.iinc 6 1, 3) := by decide +kernel
theorem dX10_feed_103 : decode cX10_feed 103 = .ok (.goto (-43), 3) := by decide +kernel
theorem dX10_feed_106 : decode cX10_feed 106 = .ok (.aload_n 0, 1) := by decide +kernel
theorem dX10_feed_107 : decode cX10_feed 107 = .ok (.dup, 1) := by decide +kernel
theorem dX10_feed_108 : decode cX10_feed 108 = .ok (.getfield 103, 3) := by decide +kernel
theorem dX10_feed_111 : decode cX10_feed 111 = .ok (.bipush 20, 2) := by decide +kernel
theorem dX10_feed_113 : decode cX10_feed 113 = .ok (.iadd, 1) := by decide +kernel
theorem dX10_feed_114 : decode cX10_feed 114 = .ok (.putfield 103, 3) := by decide +kernel
theorem dX10_feed_117 : decode cX10_feed 117 = .ok (.aload_n 0, 1) := by decide +kernel
theorem dX10_feed_118 : decode cX10_feed 118 = .ok (.getfield 103, 3) := by decide +kernel
theorem dX10_feed_121 : decode cX10_feed 121 = .ok (.ireturn, 1) := by decide +kernel
theorem dX10_end_0 : decode cX10_end 0 = .ok (.aload_n 0, 1) := by decide +kernel
theorem dX10_end_1 : decode cX10_end 1 = .ok (.iconst 0, 1) := by decide +kernel
theorem dX10_end_2 : decode cX10_end 2 = .ok (.putfield 100, 3) := by decide +kernel
theorem dX10_end_5 : decode cX10_end 5 = .ok (.iload_n 1, 1) := by decide +kernel
theorem dX10_end_6 : decode cX10_end 6 = .ok (.ifCond .lt 11, 3) := by decide +kernel
theorem dX10_end_9 : decode cX10_end 9 = .ok (.iload_n 1, 1) := by decide +kernel
theorem dX10_end_10 : decode cX10_end 10 = .ok (.aload_n 0, 1) := by decide +kernel
theorem dX10_end_11 : decode cX10_end 11 = .ok (.getfield 103, 3) := by decide +kernel
theorem dX10_end_14 : decode cX10_end 14 = .ok (.if_icmp .le 5, 3) := by decide +kernel
theorem dX10_end_17 : decode cX10_end 17 = .ok (.iconst 0, 1) := by decide +kernel
theorem dX10_end_18 : decode cX10_end 18 = .ok (.ireturn, 1) := by decide +kernel
theorem dX10_end_19 : decode cX10_end 19 = .ok (.aload_n 0, 1) := by decide +kernel
theorem dX10_end_20 : decode cX10_end 20 = .ok (.iload_n 1, 1) := by decide +kernel
theorem dX10_end_21 : decode cX10_end 21 = .ok (.putfield 103, 3) := by decide +kernel
theorem dX10_end_24 : decode cX10_end 24 = .ok (.iconst 1, 1) := by decide +kernel
theorem dX10_end_25 : decode cX10_end 25 = .ok (.ireturn, 1) := by decide +kernel
theorem dX10_isAt_0 : decode cX10_isAt 0 = .ok (.aload_n 0, 1) := by decide +kernel
theorem dX10_isAt_1 : decode cX10_isAt 1 = .ok (.getfield 106, 3) := by decide +kernel
theorem dX10_isAt_4 : decode cX10_isAt 4 = .ok (.aload_n 0, 1) := by decide +kernel
theorem dX10_isAt_5 : decode cX10_isAt 5 = .ok (.getfield 109, 3) := by decide +kernel
theorem dX10_isAt_8 : decode cX10_isAt 8 = .ok (.if_icmp .ge 33, 3) := by decide +kernel
theorem dX10_isAt_41 : decode cX10_isAt 41 = .ok (.iconst 0, 1) := by decide +kernel
theorem dX10_isAt_42 : decode cX10_isAt 42 = .ok (.ireturn, 1) := by decide +kernel
theorem dX10_blanks_0 : decode cX10_blanks 0 = .ok (.aload_n 0, 1) := by decide +kernel
theorem dX10_blanks_1 : decode cX10_blanks 1 = .ok (.bipush 9, 2) := by decide +kernel
theorem dX10_blanks_3 : decode cX10_blanks 3 = .ok (.bipush 10, 2) := by decide +kernel
theorem dX10_blanks_5 : decode cX10_blanks 5 = .ok (.invokevirtual 112, 3) := by decide +kernel
theorem dX10_blanks_8 : decode cX10_blanks 8 = .ok (.ifCond .ne 14, 3) := by decide +kernel
theorem dX10_blanks_11 : decode cX10_blanks 11 = .ok (.aload_n 0, 1) := by decide +kernel
theorem dX10_blanks_12 : decode cX10_blanks 12 = .ok (.bipush 32, 2) := by decide +kernel
theorem dX10_blanks_14 : decode cX10_blanks 14 = .ok (.bipush 32, 2) := by decide +kernel
theorem dX10_blanks_16 : decode cX10_blanks 16 = .ok (.invokevirtual 112, 3) := by decide +kernel
theorem dX10_blanks_19 : decode cX10_blanks 19 = .ok (.ifCond .eq 16, 3) := by decide +kernel
theorem dX10_blanks_35 : decode cX10_blanks 35 = .ok (.aload_n 0, 1) := by decide +kernel
theorem dX10_blanks_36 : decode cX10_blanks 36 = .ok (.aload_n 0, 1) := by decide +kernel
theorem dX10_blanks_37 : decode cX10_blanks 37 = .ok (.getfield 106, 3) := by decide +kernel
theorem dX10_blanks_40 : decode cX10_blanks 40 = .ok (.putfield 116, 3) := by decide +kernel
theorem dX10_blanks_43 : decode cX10_blanks 43 = .ok (.return_, 1) := by decide +kernel
theorem dX10_word_0 : decode cX10_word 0 = .ok (.aload_n 0, 1) := by decide +kernel
theorem dX10_word_1 : decode cX10_word 1 = .ok (.invokevirtual 119, 3) := by decide +kernel
theorem dX10_word_4 : decode cX10_word 4 = .ok (.aload_n 0, 1) := by decide +kernel
theorem dX10_word_5 : decode cX10_word 5 = .ok (.bipush 97, 2) := by decide +kernel
theorem dX10_word_7 : decode cX10_word 7 = .ok (.bipush 122, 2) := by decide +kernel
theorem dX10_word_9 : decode cX10_word 9 = .ok (.invokevirtual 112, 3) := by decide +kernel
theorem dX10_word_12 : decode cX10_word 12 = .ok (.ifCond .eq 16, 3) := by decide +kernel
theorem dX10_word_28 : decode cX10_word 28 = .ok (.aload_n 0, 1) := by decide +kernel
theorem dX10_word_29 : decode cX10_word 29 = .ok (.getfield 106, 3) := by decide +kernel
theorem dX10_word_32 : decode cX10_word 32 = .ok (.aload_n 0, 1) := by decide +kernel
theorem dX10_word_33 : decode cX10_word 33 = .ok (.getfield 116, 3) := by decide +kernel
theorem dX10_word_36 : decode cX10_word 36 = .ok (.if_icmp .le 7, 3) := by decide +kernel
theorem dX10_word_43 : decode cX10_word 43 = .ok (.iconst 0, 1) := by decide +kernel
theorem dX10_word_44 : decode cX10_word 44 = .ok (.ireturn, 1) := by decide +kernel
theorem dX10_begins_0 : decode cX10_begins 0 = .ok (.aload_n 0, 1) := by decide +kernel
theorem dX10_begins_1 : decode cX10_begins 1 = .ok (.iconst 0, 1) := by decide +kernel
theorem dX10_begins_2 : decode cX10_begins 2 = .ok (.putfield 100, 3) := by decide +kernel
theorem dX10_begins_5 : decode cX10_begins 5 = .ok (.aload_n 0, 1) := by decide +kernel
theorem dX10_begins_6 : decode cX10_begins 6 = .ok (.aload_n 0, 1) := by decide +kernel
theorem dX10_begins_7 : decode cX10_begins 7 = .ok (.getfield 103, 3) := by decide +kernel
theorem dX10_begins_10 : decode cX10_begins 10 = .ok (.putfield 109, 3) := by decide +kernel
theorem dX10_begins_13 : decode cX10_begins 13 = .ok (.aload_n 0, 1) := by decide +kernel
theorem dX10_begins_14 : decode cX10_begins 14 = .ok (.iconst 0, 1) := by decide +kernel
theorem dX10_begins_15 : decode cX10_begins 15 = .ok (.putfield 103, 3) := by decide +kernel
theorem dX10_begins_18 : decode cX10_begins 18 = .ok (.aload_n 0, 1) := by decide +kernel
theorem dX10_begins_19 : decode cX10_begins 19 = .ok (.iconst 0, 1) := by decide +kernel
theorem dX10_begins_20 : decode cX10_begins 20 = .ok (.putfield 106, 3) := by decide +kernel
theorem dX10_begins_23 : decode cX10_begins 23 = .ok (.aload_n 0, 1) := by decide +kernel
theorem dX10_begins_24 : decode cX10_begins 24 = .ok (.iconst (-1), 1) := by decide +kernel
theorem dX10_begins_25 : decode cX10_begins 25 = .ok (.putfield 17, 3) := by decide +kernel
theorem dX10_begins_28 : decode cX10_begins 28 = .ok (.aload_n 0, 1) := by decide +kernel
theorem dX10_begins_29 : decode cX10_begins 29 = .ok (.iconst 0, 1) := by decide +kernel
theorem dX10_begins_30 : decode cX10_begins 30 = .ok (.putfield 178, 3) := by decide +kernel
theorem dX10_begins_33 : decode cX10_begins 33 = .ok (.return_, 1) := by decide +kernel
theorem dX10_wrong_0 : decode cX10_wrong 0 = .ok (.aload_n 0, 1) := by decide +kernel
theorem dX10_wrong_1 : decode cX10_wrong 1 = .ok (.aload_n 0, 1) := by decide +kernel
theorem dX10_wrong_2 : decode cX10_wrong 2 = .ok (.getfield 116, 3) := by decide +kernel
theorem dX10_wrong_5 : decode cX10_wrong 5 = .ok (.putfield 17, 3) := by decide +kernel
theorem dX10_wrong_8 : decode cX10_wrong 8 = .ok (.aload_n 0, 1) := by decide +kernel
theorem dX10_wrong_9 : decode cX10_wrong 9 = .ok (.iconst 1, 1) := by decide +kernel
theorem dX10_wrong_10 : decode cX10_wrong 10 = .ok (.putfield 100, 3) := by decide +kernel
theorem dX10_wrong_13 : decode cX10_wrong 13 = .ok (.iconst 0, 1) := by decide +kernel
theorem dX10_wrong_14 : decode cX10_wrong 14 = .ok (.ireturn, 1) := by decide +kernel
theorem dX10_signature_0 : decode cX10_signature 0 = .ok (.aload_n 0, 1) := by decide +kernel
theorem dX10_signature_1 : decode cX10_signature 1 = .ok (.invokevirtual 181, 3) := by decide +kernel
theorem dX10_signature_4 : decode cX10_signature 4 = .ok (.aload_n 0, 1) := by decide +kernel
theorem dX10_signature_5 : decode cX10_signature 5 = .ok (.iconst 0, 1) := by decide +kernel
theorem dX10_signature_6 : decode cX10_signature 6 = .ok (.putfield 149, 3) := by decide +kernel
theorem dX10_signature_9 : decode cX10_signature 9 = .ok (.aload_n 0, 1) := by decide +kernel
theorem dX10_signature_10 : decode cX10_signature 10 = .ok (.iconst 0, 1) := by decide +kernel
theorem dX10_signature_11 : decode cX10_signature 11 = .ok (.putfield 152, 3) := by decide +kernel
theorem dX10_signature_14 : decode cX10_signature 14 = .ok (.aload_n 0, 1) := by decide +kernel
theorem dX10_signature_15 : decode cX10_signature 15 = .ok (.invokevirtual 119, 3) := by decide +kernel
theorem dX10_signature_18 : decode cX10_signature 18 = .ok (.aload_n 0, 1) := by decide +kernel
theorem dX10_signature_19 : decode cX10_signature 19 = .ok (.getfield 106, 3) := by decide +kernel
theorem dX10_signature_22 : decode cX10_signature 22 = .ok (.aload_n 0, 1) := by decide +kernel
theorem dX10_signature_23 : decode cX10_signature 23 = .ok (.getfield 109, 3) := by decide +kernel
theorem dX10_signature_26 : decode cX10_signature 26 = .ok (.if_icmp .ge 22, 3) := by decide +kernel
theorem dX10_signature_48 : decode cX10_signature 48 = .ok (.aload_n 0, 1) := by decide +kernel
theorem dX10_signature_49 : decode cX10_signature 49 = .ok (.aload_n 0, 1) := by decide +kernel
theorem dX10_signature_50 : decode cX10_signature 50 = .ok (.getfield 149, 3) := by decide +kernel
theorem dX10_signature_53 : decode cX10_signature 53 = .ok (.putfield 190, 3) := by decide +kernel
theorem dX10_signature_56 : decode cX10_signature 56 = .ok (.aload_n 0, 1) := by decide +kernel
theorem dX10_signature_57 : decode cX10_signature 57 = .ok (.aload_n 0, 1) := by decide +kernel
theorem dX10_signature_58 : decode cX10_signature 58 = .ok (.getfield 152, 3) := by decide +kernel
theorem dX10_signature_61 : decode cX10_signature 61 = .ok (.putfield 193, 3) := by decide +kernel
theorem dX10_signature_64 : decode cX10_signature 64 = .ok (.iconst 0, 1) := by decide +kernel
theorem dX10_signature_65 : decode cX10_signature 65 = .ok (.istore_n 1, 1) := by decide +kernel
theorem dX10_signature_66 : decode cX10_signature 66 = .ok (.iload_n 1, 1) := by decide +kernel
theorem dX10_signature_67 : decode cX10_signature 67 = .ok (.bipush 10, 2) := by decide +kernel
theorem dX10_signature_69 : decode cX10_signature 69 = .ok (.if_icmp .ge 45, 3) := by decide +kernel
theorem dX10_signature_72 : decode cX10_signature 72 = .ok (.aload_n 0, 1) := by decide +kernel
theorem dX10_signature_73 : decode cX10_signature 73 = .ok (.getfield 33, 3) := by decide +kernel
theorem dX10_signature_76 : decode cX10_signature 76 = .ok (.iload_n 1, 1) := by decide +kernel
theorem dX10_signature_77 : decode cX10_signature 77 = .ok (.aload_n 0, 1) := by decide +kernel
theorem dX10_signature_78 : decode cX10_signature 78 = .ok (.getfield 42, 3) := by decide +kernel
theorem dX10_signature_81 : decode cX10_signature 81 = .ok (.iload_n 1, 1) := by decide +kernel
theorem dX10_signature_82 : decode cX10_signature 82 = .ok (.iaload, 1) := by decide +kernel
theorem dX10_signature_83 : decode cX10_signature 83 = .ok (.iastore, 1) := by decide +kernel
theorem dX10_signature_84 : decode cX10_signature 84 = .ok (.aload_n 0, 1) := by decide +kernel
theorem dX10_signature_85 : decode cX10_signature 85 = .ok (.getfield 36, 3) := by decide +kernel
theorem dX10_signature_88 : decode cX10_signature 88 = .ok (.iload_n 1, 1) := by decide +kernel
theorem dX10_signature_89 : decode cX10_signature 89 = .ok (.aload_n 0, 1) := by decide +kernel
theorem dX10_signature_90 : decode cX10_signature 90 = .ok (.getfield 45, 3) := by decide +kernel
theorem dX10_signature_93 : decode cX10_signature 93 = .ok (.iload_n 1, 1) := by decide +kernel
theorem dX10_signature_94 : decode cX10_signature 94 = .ok (.iaload, 1) := by decide +kernel
theorem dX10_signature_95 : decode cX10_signature 95 = .ok (.iastore, 1) := by decide +kernel
theorem dX10_signature_96 : decode cX10_signature 96 = .ok (.aload_n 0, 1) := by decide +kernel
theorem dX10_signature_97 : decode cX10_signature 97 = .ok (.getfield 39, 3) := by decide +kernel
theorem dX10_signature_100 : decode cX10_signature 100 = .ok (.iload_n 1, 1) := by decide +kernel
theorem dX10_signature_101 : decode cX10_signature 101 = .ok (.aload_n 0, 1) := by decide +kernel
theorem dX10_signature_102 : decode cX10_signature 102 = .ok (.getfield 48, 3) := by decide +kernel
theorem dX10_signature_105 : decode cX10_signature 105 = .ok (.iload_n 1, 1) := by decide +kernel
theorem dX10_signature_106 : decode cX10_signature 106 = .ok (.iaload, 1) := by decide +kernel
theorem dX10_signature_107 : decode cX10_signature 107 = .ok (.iastore, 1) := by decide +kernel
theorem dX10_signature_108 : decode cX10_signature 108 = .ok (.iinc 1 1, 3) := by decide +kernel
theorem dX10_signature_111 : decode cX10_signature 111 = .ok (.goto (-45), 3) := by decide +kernel
theorem dX10_signature_114 : decode cX10_signature 114 = .ok (.iconst 0, 1) := by decide +kernel
theorem dX10_signature_115 : decode cX10_signature 115 = .ok (.istore_n 1, 1) := by decide +kernel
theorem dX10_signature_116 : decode cX10_signature 116 = .ok (.iload_n 1, 1) := by decide +kernel
theorem dX10_signature_117 : decode cX10_signature 117 = .ok (.bipush 15, 2) := by decide +kernel
theorem dX10_signature_119 : decode cX10_signature 119 = .ok (.if_icmp .ge 21, 3) := by decide +kernel
theorem dX10_signature_122 : decode cX10_signature 122 = .ok (.aload_n 0, 1) := by decide +kernel
theorem dX10_signature_123 : decode cX10_signature 123 = .ok (.getfield 27, 3) := by decide +kernel
theorem dX10_signature_126 : decode cX10_signature 126 = .ok (.iload_n 1, 1) := by decide +kernel
theorem dX10_signature_127 : decode cX10_signature 127 = .ok (.aload_n 0, 1) := by decide +kernel
theorem dX10_signature_128 : decode cX10_signature 128 = .ok (.getfield 30, 3) := by decide +kernel
theorem dX10_signature_131 : decode cX10_signature 131 = .ok (.iload_n 1, 1) := by decide +kernel
theorem dX10_signature_132 : decode cX10_signature 132 = .ok (.iaload, 1) := by decide +kernel
theorem dX10_signature_133 : decode cX10_signature 133 = .ok (.iastore, 1) := by decide +kernel
theorem dX10_signature_134 : decode cX10_signature 134 = .ok (.iinc 1 1, 3) := by decide +kernel
theorem dX10_signature_137 : decode cX10_signature 137 = .ok (.goto (-21), 3) := by decide +kernel
theorem dX10_signature_140 : decode cX10_signature 140 = .ok (.iconst 0, 1) := by decide +kernel
theorem dX10_signature_141 : decode cX10_signature 141 = .ok (.istore_n 1, 1) := by decide +kernel
theorem dX10_signature_142 : decode cX10_signature 142 = .ok (.iload_n 1, 1) := by decide +kernel
theorem dX10_signature_143 : decode cX10_signature 143 = .ok (.bipush 90, 2) := by decide +kernel
theorem dX10_signature_145 : decode cX10_signature 145 = .ok (.if_icmp .ge 21, 3) := by decide +kernel
theorem dX10_signature_148 : decode cX10_signature 148 = .ok (.aload_n 0, 1) := by decide +kernel
theorem dX10_signature_149 : decode cX10_signature 149 = .ok (.getfield 21, 3) := by decide +kernel
theorem dX10_signature_152 : decode cX10_signature 152 = .ok (.iload_n 1, 1) := by decide +kernel
theorem dX10_signature_153 : decode cX10_signature 153 = .ok (.aload_n 0, 1) := by decide +kernel
theorem dX10_signature_154 : decode cX10_signature 154 = .ok (.getfield 24, 3) := by decide +kernel
theorem dX10_signature_157 : decode cX10_signature 157 = .ok (.iload_n 1, 1) := by decide +kernel
theorem dX10_signature_158 : decode cX10_signature 158 = .ok (.baload, 1) := by decide +kernel
theorem dX10_signature_159 : decode cX10_signature 159 = .ok (.bastore, 1) := by decide +kernel
theorem dX10_signature_160 : decode cX10_signature 160 = .ok (.iinc 1 1, 3) := by decide +kernel
theorem dX10_signature_163 : decode cX10_signature 163 = .ok (.goto (-21), 3) := by decide +kernel
theorem dX10_signature_166 : decode cX10_signature 166 = .ok (.aload_n 0, 1) := by decide +kernel
theorem dX10_signature_167 : decode cX10_signature 167 = .ok (.iconst 0, 1) := by decide +kernel
theorem dX10_signature_168 : decode cX10_signature 168 = .ok (.putfield 196, 3) := by decide +kernel
theorem dX10_signature_171 : decode cX10_signature 171 = .ok (.aload_n 0, 1) := by decide +kernel
theorem dX10_signature_172 : decode cX10_signature 172 = .ok (.iconst 0, 1) := by decide +kernel
theorem dX10_signature_173 : decode cX10_signature 173 = .ok (.putfield 199, 3) := by decide +kernel
theorem dX10_signature_176 : decode cX10_signature 176 = .ok (.aload_n 0, 1) := by decide +kernel
theorem dX10_signature_177 : decode cX10_signature 177 = .ok (.iconst 0, 1) := by decide +kernel
theorem dX10_signature_178 : decode cX10_signature 178 = .ok (.putfield 202, 3) := by decide +kernel
theorem dX10_signature_181 : decode cX10_signature 181 = .ok (.aload_n 0, 1) := by decide +kernel
theorem dX10_signature_182 : decode cX10_signature 182 = .ok (.iconst 0, 1) := by decide +kernel
theorem dX10_signature_183 : decode cX10_signature 183 = .ok (.putfield 206, 3) := by decide +kernel
theorem dX10_signature_186 : decode cX10_signature 186 = .ok (.aload_n 0, 1) := by decide +kernel
theorem dX10_signature_187 : decode cX10_signature 187 = .ok (.getfield 190, 3) := by decide +kernel
theorem dX10_signature_190 : decode cX10_signature 190 = .ok (.ireturn, 1) := by decide +kernel
theorem dX10_readsTerm_0 : decode cX10_readsTerm 0 = .ok (.aload_n 0, 1) := by decide +kernel
theorem dX10_readsTerm_1 : decode cX10_readsTerm 1 = .ok (.invokevirtual 155, 3) := by decide +kernel
theorem dX10_readsTerm_4 : decode cX10_readsTerm 4 = .ok (.ifCond .ne 5, 3) := by decide +kernel
theorem dX10_readsTerm_7 : decode cX10_readsTerm 7 = .ok (.iconst 0, 1) := by decide +kernel
theorem dX10_readsTerm_8 : decode cX10_readsTerm 8 = .ok (.ireturn, 1) := by decide +kernel
theorem dX10_term_0 : decode cX10_term 0 = .ok (.aload_n 0, 1) := by decide +kernel
theorem dX10_term_1 : decode cX10_term 1 = .ok (.invokevirtual 181, 3) := by decide +kernel
theorem dX10_term_4 : decode cX10_term 4 = .ok (.aload_n 0, 1) := by decide +kernel
theorem dX10_term_5 : decode cX10_term 5 = .ok (.invokevirtual 236, 3) := by decide +kernel
theorem dX10_term_8 : decode cX10_term 8 = .ok (.ifCond .eq 10, 3) := by decide +kernel
theorem dX10_term_18 : decode cX10_term 18 = .ok (.aload_n 0, 1) := by decide +kernel
theorem dX10_term_19 : decode cX10_term 19 = .ok (.invokevirtual 187, 3) := by decide +kernel
theorem dX10_term_22 : decode cX10_term 22 = .ok (.ireturn, 1) := by decide +kernel
theorem dX10_rule_0 : decode cX10_rule 0 = .ok (.aload_n 0, 1) := by decide +kernel
theorem dX10_rule_1 : decode cX10_rule 1 = .ok (.invokevirtual 181, 3) := by decide +kernel
theorem dX10_rule_4 : decode cX10_rule 4 = .ok (.aload_n 0, 1) := by decide +kernel
theorem dX10_rule_5 : decode cX10_rule 5 = .ok (.invokevirtual 236, 3) := by decide +kernel
theorem dX10_rule_8 : decode cX10_rule 8 = .ok (.ifCond .eq 12, 3) := by decide +kernel
theorem dX10_rule_20 : decode cX10_rule 20 = .ok (.aload_n 0, 1) := by decide +kernel
theorem dX10_rule_21 : decode cX10_rule 21 = .ok (.invokevirtual 187, 3) := by decide +kernel
theorem dX10_rule_24 : decode cX10_rule 24 = .ok (.ireturn, 1) := by decide +kernel
theorem dX10_fault_0 : decode cX10_fault 0 = .ok (.aload_n 0, 1) := by decide +kernel
theorem dX10_fault_1 : decode cX10_fault 1 = .ok (.iconst 0, 1) := by decide +kernel
theorem dX10_fault_2 : decode cX10_fault 2 = .ok (.putfield 100, 3) := by decide +kernel
theorem dX10_fault_5 : decode cX10_fault 5 = .ok (.aload_n 0, 1) := by decide +kernel
theorem dX10_fault_6 : decode cX10_fault 6 = .ok (.getfield 17, 3) := by decide +kernel
theorem dX10_fault_9 : decode cX10_fault 9 = .ok (.ireturn, 1) := by decide +kernel
theorem dX10_noRule_0 : decode cX10_noRule 0 = .ok (.aload_n 0, 1) := by decide +kernel
theorem dX10_noRule_1 : decode cX10_noRule 1 = .ok (.iload_n 1, 1) := by decide +kernel
theorem dX10_noRule_2 : decode cX10_noRule 2 = .ok (.iconst 0, 1) := by decide +kernel
theorem dX10_noRule_3 : decode cX10_noRule 3 = .ok (.aload_n 0, 1) := by decide +kernel
theorem dX10_noRule_4 : decode cX10_noRule 4 = .ok (.getfield 199, 3) := by decide +kernel
theorem dX10_noRule_7 : decode cX10_noRule 7 = .ok (.iconst 1, 1) := by decide +kernel
theorem dX10_noRule_8 : decode cX10_noRule 8 = .ok (.isub, 1) := by decide +kernel
theorem dX10_noRule_9 : decode cX10_noRule 9 = .ok (.invokestatic 132, 3) := by decide +kernel
theorem dX10_noRule_12 : decode cX10_noRule 12 = .ok (.ifCond .ne 7, 3) := by decide +kernel
theorem dX10_noRule_15 : decode cX10_noRule 15 = .ok (.iconst 1, 1) := by decide +kernel
theorem dX10_noRule_16 : decode cX10_noRule 16 = .ok (.goto 4, 3) := by decide +kernel
theorem dX10_noRule_20 : decode cX10_noRule 20 = .ok (.iconst 1, 1) := by decide +kernel
theorem dX10_noRule_21 : decode cX10_noRule 21 = .ok (.invokevirtual 264, 3) := by decide +kernel
theorem dX10_noRule_24 : decode cX10_noRule 24 = .ok (.ireturn, 1) := by decide +kernel
theorem dX10_noTerm_0 : decode cX10_noTerm 0 = .ok (.aload_n 0, 1) := by decide +kernel
theorem dX10_noTerm_1 : decode cX10_noTerm 1 = .ok (.iload_n 1, 1) := by decide +kernel
theorem dX10_noTerm_2 : decode cX10_noTerm 2 = .ok (.iconst 0, 1) := by decide +kernel
theorem dX10_noTerm_3 : decode cX10_noTerm 3 = .ok (.aload_n 0, 1) := by decide +kernel
theorem dX10_noTerm_4 : decode cX10_noTerm 4 = .ok (.getfield 196, 3) := by decide +kernel
theorem dX10_noTerm_7 : decode cX10_noTerm 7 = .ok (.iconst 1, 1) := by decide +kernel
theorem dX10_noTerm_8 : decode cX10_noTerm 8 = .ok (.isub, 1) := by decide +kernel
theorem dX10_noTerm_9 : decode cX10_noTerm 9 = .ok (.invokestatic 132, 3) := by decide +kernel
theorem dX10_noTerm_12 : decode cX10_noTerm 12 = .ok (.ifCond .ne 7, 3) := by decide +kernel
theorem dX10_noTerm_15 : decode cX10_noTerm 15 = .ok (.iconst 1, 1) := by decide +kernel
theorem dX10_noTerm_16 : decode cX10_noTerm 16 = .ok (.goto 4, 3) := by decide +kernel
theorem dX10_noTerm_20 : decode cX10_noTerm 20 = .ok (.iconst 1, 1) := by decide +kernel
theorem dX10_noTerm_21 : decode cX10_noTerm 21 = .ok (.invokevirtual 264, 3) := by decide +kernel
theorem dX10_noTerm_24 : decode cX10_noTerm 24 = .ok (.ireturn, 1) := by decide +kernel
theorem dX10_turn_0 : decode cX10_turn 0 = .ok (.aload_n 0, 1) := by decide +kernel
theorem dX10_turn_1 : decode cX10_turn 1 = .ok (.iconst 0, 1) := by decide +kernel
theorem dX10_turn_2 : decode cX10_turn 2 = .ok (.putfield 100, 3) := by decide +kernel
theorem dX10_turn_5 : decode cX10_turn 5 = .ok (.aload_n 0, 1) := by decide +kernel
theorem dX10_turn_6 : decode cX10_turn 6 = .ok (.iload_n 1, 1) := by decide +kernel
theorem dX10_turn_7 : decode cX10_turn 7 = .ok (.invokevirtual 278, 3) := by decide +kernel
theorem dX10_turn_10 : decode cX10_turn 10 = .ok (.ifCond .eq 5, 3) := by decide +kernel
theorem dX10_turn_13 : decode cX10_turn 13 = .ok (.iconst 0, 1) := by decide +kernel
theorem dX10_turn_14 : decode cX10_turn 14 = .ok (.ireturn, 1) := by decide +kernel
theorem dX10_rulesOn_0 : decode cX10_rulesOn 0 = .ok (.aload_n 0, 1) := by decide +kernel
theorem dX10_rulesOn_1 : decode cX10_rulesOn 1 = .ok (.getfield 275, 3) := by decide +kernel
theorem dX10_rulesOn_4 : decode cX10_rulesOn 4 = .ok (.iconst 1, 1) := by decide +kernel
theorem dX10_rulesOn_5 : decode cX10_rulesOn 5 = .ok (.aload_n 0, 1) := by decide +kernel
theorem dX10_rulesOn_6 : decode cX10_rulesOn 6 = .ok (.getfield 199, 3) := by decide +kernel
theorem dX10_rulesOn_9 : decode cX10_rulesOn 9 = .ok (.ishl, 1) := by decide +kernel
theorem dX10_rulesOn_10 : decode cX10_rulesOn 10 = .ok (.iconst 1, 1) := by decide +kernel
theorem dX10_rulesOn_11 : decode cX10_rulesOn 11 = .ok (.isub, 1) := by decide +kernel
theorem dX10_rulesOn_12 : decode cX10_rulesOn 12 = .ok (.iand, 1) := by decide +kernel
theorem dX10_rulesOn_13 : decode cX10_rulesOn 13 = .ok (.ireturn, 1) := by decide +kernel
