theorem dX10_comparesStep_43 : decode cX10_comparesStep 43 = .ok (.bipush 21, 2) := by decide +kernel
theorem dX10_comparesStep_45 : decode cX10_comparesStep 45 = .ok (.iload_n 1, 1) := by decide +kernel
theorem dX10_comparesStep_46 : decode cX10_comparesStep 46 = .ok (.imul, 1) := by decide +kernel
theorem dX10_comparesStep_47 : decode cX10_comparesStep 47 = .ok (.iload 4, 2) := by decide +kernel
theorem dX10_comparesStep_49 : decode cX10_comparesStep 49 = .ok (.iadd, 1) := by decide +kernel
theorem dX10_comparesStep_50 : decode cX10_comparesStep 50 = .ok (.iload_n 2, 1) := by decide +kernel
theorem dX10_comparesStep_51 : decode cX10_comparesStep 51 = .ok (.isub, 1) := by decide +kernel
theorem dX10_comparesStep_52 : decode cX10_comparesStep 52 = .ok (.iaload, 1) := by decide +kernel
theorem dX10_comparesStep_53 : decode cX10_comparesStep 53 = .ok (.aload_n 0, 1) := by decide +kernel
theorem dX10_comparesStep_54 : decode cX10_comparesStep 54 = .ok (.getfield 52, 3) := by decide +kernel
theorem dX10_comparesStep_57 : decode cX10_comparesStep 57 = .ok (.iload 4, 2) := by decide +kernel
theorem dX10_comparesStep_59 : decode cX10_comparesStep 59 = .ok (.iaload, 1) := by decide +kernel
theorem dX10_comparesStep_60 : decode cX10_comparesStep 60 = .ok (.if_icmp .ge 7, 3) := by decide +kernel
theorem dX10_comparesStep_63 : decode cX10_comparesStep 63 = .ok (.iconst (-1), 1) := by decide +kernel
theorem dX10_comparesStep_64 : decode cX10_comparesStep 64 = .ok (.goto 4, 3) := by decide +kernel
theorem dX10_comparesStep_67 : decode cX10_comparesStep 67 = .ok (.iconst 1, 1) := by decide +kernel
theorem dX10_comparesStep_68 : decode cX10_comparesStep 68 = .ok (.ireturn, 1) := by decide +kernel
theorem dX10_comparesStep_69 : decode cX10_comparesStep 69 = .ok (.iinc 4 1, 3) := by decide +kernel
theorem dX10_comparesStep_72 : decode cX10_comparesStep 72 = .ok (.goto (-63), 3) := by decide +kernel
theorem dX10_comparesStep_75 : decode cX10_comparesStep 75 = .ok (.iconst 0, 1) := by decide +kernel
theorem dX10_comparesStep_76 : decode cX10_comparesStep 76 = .ok (.ireturn, 1) := by decide +kernel
theorem dX10_addsStep_0 : decode cX10_addsStep 0 = .ok (.aload_n 0, 1) := by decide +kernel
theorem dX10_addsStep_1 : decode cX10_addsStep 1 = .ok (.iload_n 3, 1) := by decide +kernel
theorem dX10_addsStep_2 : decode cX10_addsStep 2 = .ok (.invokevirtual 258, 3) := by decide +kernel
theorem dX10_addsStep_5 : decode cX10_addsStep 5 = .ok (.ifCond .ne 13, 3) := by decide +kernel
theorem dX10_addsStep_8 : decode cX10_addsStep 8 = .ok (.aload_n 0, 1) := by decide +kernel
theorem dX10_addsStep_9 : decode cX10_addsStep 9 = .ok (.iload_n 3, 1) := by decide +kernel
theorem dX10_addsStep_10 : decode cX10_addsStep 10 = .ok (.iload 4, 2) := by decide +kernel
theorem dX10_addsStep_12 : decode cX10_addsStep 12 = .ok (.invokevirtual 248, 3) := by decide +kernel
theorem dX10_addsStep_15 : decode cX10_addsStep 15 = .ok (.ifCond .eq 4, 3) := by decide +kernel
theorem dX10_addsStep_18 : decode cX10_addsStep 18 = .ok (.return_, 1) := by decide +kernel
theorem dX10_addsStep_19 : decode cX10_addsStep 19 = .ok (.aload_n 0, 1) := by decide +kernel
theorem dX10_addsStep_20 : decode cX10_addsStep 20 = .ok (.getfield 342, 3) := by decide +kernel
theorem dX10_addsStep_23 : decode cX10_addsStep 23 = .ok (.istore 5, 2) := by decide +kernel
theorem dX10_addsStep_25 : decode cX10_addsStep 25 = .ok (.iload 5, 2) := by decide +kernel
theorem dX10_addsStep_27 : decode cX10_addsStep 27 = .ok (.ifCond .le 47, 3) := by decide +kernel
theorem dX10_addsStep_30 : decode cX10_addsStep 30 = .ok (.aload_n 0, 1) := by decide +kernel
theorem dX10_addsStep_31 : decode cX10_addsStep 31 = .ok (.getfield 76, 3) := by decide +kernel
theorem dX10_addsStep_34 : decode cX10_addsStep 34 = .ok (.iload 5, 2) := by decide +kernel
theorem dX10_addsStep_36 : decode cX10_addsStep 36 = .ok (.iconst 1, 1) := by decide +kernel
theorem dX10_addsStep_37 : decode cX10_addsStep 37 = .ok (.isub, 1) := by decide +kernel
theorem dX10_addsStep_38 : decode cX10_addsStep 38 = .ok (.iaload, 1) := by decide +kernel
theorem dX10_addsStep_39 : decode cX10_addsStep 39 = .ok (.iload_n 1, 1) := by decide +kernel
theorem dX10_addsStep_40 : decode cX10_addsStep 40 = .ok (.if_icmp .ne 34, 3) := by decide +kernel
theorem dX10_addsStep_43 : decode cX10_addsStep 43 = .ok (.aload_n 0, 1) := by decide +kernel
theorem dX10_addsStep_44 : decode cX10_addsStep 44 = .ok (.getfield 79, 3) := by decide +kernel
theorem dX10_addsStep_47 : decode cX10_addsStep 47 = .ok (.iload 5, 2) := by decide +kernel
theorem dX10_addsStep_49 : decode cX10_addsStep 49 = .ok (.iconst 1, 1) := by decide +kernel
theorem dX10_addsStep_50 : decode cX10_addsStep 50 = .ok (.isub, 1) := by decide +kernel
theorem dX10_addsStep_51 : decode cX10_addsStep 51 = .ok (.iaload, 1) := by decide +kernel
theorem dX10_addsStep_52 : decode cX10_addsStep 52 = .ok (.iload_n 2, 1) := by decide +kernel
theorem dX10_addsStep_53 : decode cX10_addsStep 53 = .ok (.if_icmp .ne 21, 3) := by decide +kernel
theorem dX10_addsStep_56 : decode cX10_addsStep 56 = .ok (.aload_n 0, 1) := by decide +kernel
theorem dX10_addsStep_57 : decode cX10_addsStep 57 = .ok (.iload 5, 2) := by decide +kernel
theorem dX10_addsStep_59 : decode cX10_addsStep 59 = .ok (.iconst 1, 1) := by decide +kernel
theorem dX10_addsStep_60 : decode cX10_addsStep 60 = .ok (.isub, 1) := by decide +kernel
theorem dX10_addsStep_61 : decode cX10_addsStep 61 = .ok (.iload_n 3, 1) := by decide +kernel
theorem dX10_addsStep_62 : decode cX10_addsStep 62 = .ok (.invokevirtual 345, 3) := by decide +kernel
theorem dX10_addsStep_65 : decode cX10_addsStep 65 = .ok (.ifCond .le 9, 3) := by decide +kernel
theorem dX10_addsStep_68 : decode cX10_addsStep 68 = .ok (.iinc 5 (-1), 3) := by decide +kernel
theorem dX10_addsStep_71 : decode cX10_addsStep 71 = .ok (.goto (-46), 3) := by decide +kernel
theorem dX10_addsStep_74 : decode cX10_addsStep 74 = .ok (.iload 5, 2) := by decide +kernel
theorem dX10_addsStep_76 : decode cX10_addsStep 76 = .ok (.ifCond .le 42, 3) := by decide +kernel
theorem dX10_addsStep_79 : decode cX10_addsStep 79 = .ok (.aload_n 0, 1) := by decide +kernel
theorem dX10_addsStep_80 : decode cX10_addsStep 80 = .ok (.getfield 76, 3) := by decide +kernel
theorem dX10_addsStep_83 : decode cX10_addsStep 83 = .ok (.iload 5, 2) := by decide +kernel
theorem dX10_addsStep_85 : decode cX10_addsStep 85 = .ok (.iconst 1, 1) := by decide +kernel
theorem dX10_addsStep_86 : decode cX10_addsStep 86 = .ok (.isub, 1) := by decide +kernel
theorem dX10_addsStep_87 : decode cX10_addsStep 87 = .ok (.iaload, 1) := by decide +kernel
theorem dX10_addsStep_88 : decode cX10_addsStep 88 = .ok (.iload_n 1, 1) := by decide +kernel
theorem dX10_addsStep_89 : decode cX10_addsStep 89 = .ok (.if_icmp .ne 29, 3) := by decide +kernel
theorem dX10_addsStep_92 : decode cX10_addsStep 92 = .ok (.aload_n 0, 1) := by decide +kernel
theorem dX10_addsStep_93 : decode cX10_addsStep 93 = .ok (.getfield 79, 3) := by decide +kernel
theorem dX10_addsStep_96 : decode cX10_addsStep 96 = .ok (.iload 5, 2) := by decide +kernel
theorem dX10_addsStep_98 : decode cX10_addsStep 98 = .ok (.iconst 1, 1) := by decide +kernel
theorem dX10_addsStep_99 : decode cX10_addsStep 99 = .ok (.isub, 1) := by decide +kernel
theorem dX10_addsStep_100 : decode cX10_addsStep 100 = .ok (.iaload, 1) := by decide +kernel
theorem dX10_addsStep_101 : decode cX10_addsStep 101 = .ok (.iload_n 2, 1) := by decide +kernel
theorem dX10_addsStep_102 : decode cX10_addsStep 102 = .ok (.if_icmp .ne 16, 3) := by decide +kernel
theorem dX10_addsStep_105 : decode cX10_addsStep 105 = .ok (.aload_n 0, 1) := by decide +kernel
theorem dX10_addsStep_106 : decode cX10_addsStep 106 = .ok (.iload 5, 2) := by decide +kernel
theorem dX10_addsStep_108 : decode cX10_addsStep 108 = .ok (.iconst 1, 1) := by decide +kernel
theorem dX10_addsStep_109 : decode cX10_addsStep 109 = .ok (.isub, 1) := by decide +kernel
theorem dX10_addsStep_110 : decode cX10_addsStep 110 = .ok (.iload_n 3, 1) := by decide +kernel
theorem dX10_addsStep_111 : decode cX10_addsStep 111 = .ok (.invokevirtual 345, 3) := by decide +kernel
theorem dX10_addsStep_114 : decode cX10_addsStep 114 = .ok (.ifCond .ne 4, 3) := by decide +kernel
theorem dX10_addsStep_117 : decode cX10_addsStep 117 = .ok (.return_, 1) := by decide +kernel
theorem dX10_addsStep_118 : decode cX10_addsStep 118 = .ok (.aload_n 0, 1) := by decide +kernel
theorem dX10_addsStep_119 : decode cX10_addsStep 119 = .ok (.getfield 342, 3) := by decide +kernel
theorem dX10_addsStep_122 : decode cX10_addsStep 122 = .ok (.sipush 200, 3) := by decide +kernel
theorem dX10_addsStep_125 : decode cX10_addsStep 125 = .ok (.if_icmp .ne 9, 3) := by decide +kernel
theorem dX10_addsStep_128 : decode cX10_addsStep 128 = .ok (.aload_n 0, 1) := by decide +kernel
theorem dX10_addsStep_129 : decode cX10_addsStep 129 = .ok (.iconst 1, 1) := by decide +kernel
theorem dX10_addsStep_130 : decode cX10_addsStep 130 = .ok (.putfield 296, 3) := by decide +kernel
theorem dX10_addsStep_133 : decode cX10_addsStep 133 = .ok (.return_, 1) := by decide +kernel
theorem dX10_addsStep_134 : decode cX10_addsStep 134 = .ok (.aload_n 0, 1) := by decide +kernel
theorem dX10_addsStep_135 : decode cX10_addsStep 135 = .ok (.getfield 342, 3) := by decide +kernel
theorem dX10_addsStep_138 : decode cX10_addsStep 138 = .ok (.istore 6, 2) := by decide +kernel
theorem dX10_addsStep_140 : decode cX10_addsStep 140 = .ok (.iload 6, 2) := by decide +kernel
theorem dX10_addsStep_142 : decode cX10_addsStep 142 = .ok (.iload 5, 2) := by decide +kernel
theorem dX10_addsStep_144 : decode cX10_addsStep 144 = .ok (.if_icmp .le 41, 3) := by decide +kernel
theorem dX10_addsStep_147 : decode cX10_addsStep 147 = .ok (.aload_n 0, 1) := by decide +kernel
theorem dX10_addsStep_148 : decode cX10_addsStep 148 = .ok (.getfield 76, 3) := by decide +kernel
theorem dX10_addsStep_151 : decode cX10_addsStep 151 = .ok (.iload 6, 2) := by decide +kernel
theorem dX10_addsStep_153 : decode cX10_addsStep 153 = .ok (.aload_n 0, 1) := by decide +kernel
theorem dX10_addsStep_154 : decode cX10_addsStep 154 = .ok (.getfield 76, 3) := by decide +kernel
theorem dX10_addsStep_157 : decode cX10_addsStep 157 = .ok (.iload 6, 2) := by decide +kernel
theorem dX10_addsStep_159 : decode cX10_addsStep 159 = .ok (.iconst 1, 1) := by decide +kernel
theorem dX10_addsStep_160 : decode cX10_addsStep 160 = .ok (.isub, 1) := by decide +kernel
theorem dX10_addsStep_161 : decode cX10_addsStep 161 = .ok (.iaload, 1) := by decide +kernel
theorem dX10_addsStep_162 : decode cX10_addsStep 162 = .ok (.iastore, 1) := by decide +kernel
theorem dX10_addsStep_163 : decode cX10_addsStep 163 = .ok (.aload_n 0, 1) := by decide +kernel
theorem dX10_addsStep_164 : decode cX10_addsStep 164 = .ok (.getfield 79, 3) := by decide +kernel
theorem dX10_addsStep_167 : decode cX10_addsStep 167 = .ok (.iload 6, 2) := by decide +kernel
theorem dX10_addsStep_169 : decode cX10_addsStep 169 = .ok (.aload_n 0, 1) := by decide +kernel
theorem dX10_addsStep_170 : decode cX10_addsStep 170 = .ok (.getfield 79, 3) := by decide +kernel
theorem dX10_addsStep_173 : decode cX10_addsStep 173 = .ok (.iload 6, 2) := by decide +kernel
theorem dX10_addsStep_175 : decode cX10_addsStep 175 = .ok (.iconst 1, 1) := by decide +kernel
theorem dX10_addsStep_176 : decode cX10_addsStep 176 = .ok (.isub, 1) := by decide +kernel
theorem dX10_addsStep_177 : decode cX10_addsStep 177 = .ok (.iaload, 1) := by decide +kernel
theorem dX10_addsStep_178 : decode cX10_addsStep 178 = .ok (.iastore, 1) := by decide +kernel
theorem dX10_addsStep_179 : decode cX10_addsStep 179 = .ok (.iinc 6 (-1), 3) := by decide +kernel
theorem dX10_addsStep_182 : decode cX10_addsStep 182 = .ok (.goto (-42), 3) := by decide +kernel
theorem dX10_addsStep_185 : decode cX10_addsStep 185 = .ok (.bipush 21, 2) := by decide +kernel
theorem dX10_addsStep_187 : decode cX10_addsStep 187 = .ok (.aload_n 0, 1) := by decide +kernel
theorem dX10_addsStep_188 : decode cX10_addsStep 188 = .ok (.getfield 342, 3) := by decide +kernel
theorem dX10_addsStep_191 : decode cX10_addsStep 191 = .ok (.imul, 1) := by decide +kernel
theorem dX10_addsStep_192 : decode cX10_addsStep 192 = .ok (.iconst 1, 1) := by decide +kernel
theorem dX10_addsStep_193 : decode cX10_addsStep 193 = .ok (.isub, 1) := by decide +kernel
theorem dX10_addsStep_194 : decode cX10_addsStep 194 = .ok (.istore 6, 2) := by decide +kernel
theorem dX10_addsStep_196 : decode cX10_addsStep 196 = .ok (.iload 6, 2) := by decide +kernel
theorem dX10_addsStep_198 : decode cX10_addsStep 198 = .ok (.bipush 21, 2) := by decide +kernel
theorem dX10_addsStep_200 : decode cX10_addsStep 200 = .ok (.iload 5, 2) := by decide +kernel
theorem dX10_addsStep_202 : decode cX10_addsStep 202 = .ok (.imul, 1) := by decide +kernel
theorem dX10_addsStep_203 : decode cX10_addsStep 203 = .ok (.if_icmp .lt 26, 3) := by decide +kernel
theorem dX10_addsStep_206 : decode cX10_addsStep 206 = .ok (.aload_n 0, 1) := by decide +kernel
theorem dX10_addsStep_207 : decode cX10_addsStep 207 = .ok (.getfield 82, 3) := by decide +kernel
theorem dX10_addsStep_210 : decode cX10_addsStep 210 = .ok (.iload 6, 2) := by decide +kernel
theorem dX10_addsStep_212 : decode cX10_addsStep 212 = .ok (.bipush 21, 2) := by decide +kernel
theorem dX10_addsStep_214 : decode cX10_addsStep 214 = .ok (.iadd, 1) := by decide +kernel
theorem dX10_addsStep_215 : decode cX10_addsStep 215 = .ok (.aload_n 0, 1) := by decide +kernel
theorem dX10_addsStep_216 : decode cX10_addsStep 216 = .ok (.getfield 82, 3) := by decide +kernel
theorem dX10_addsStep_219 : decode cX10_addsStep 219 = .ok (.iload 6, 2) := by decide +kernel
theorem dX10_addsStep_221 : decode cX10_addsStep 221 = .ok (.iaload, 1) := by decide +kernel
theorem dX10_addsStep_222 : decode cX10_addsStep 222 = .ok (.iastore, 1) := by decide +kernel
theorem dX10_addsStep_223 : decode cX10_addsStep 223 = .ok (.iinc 6 (-1), 3) := by decide +kernel
theorem dX10_addsStep_226 : decode cX10_addsStep 226 = .ok (.goto (-30), 3) := by decide +kernel
theorem dX10_addsStep_229 : decode cX10_addsStep 229 = .ok (.aload_n 0, 1) := by decide +kernel
theorem dX10_addsStep_230 : decode cX10_addsStep 230 = .ok (.getfield 76, 3) := by decide +kernel
theorem dX10_addsStep_233 : decode cX10_addsStep 233 = .ok (.iload 5, 2) := by decide +kernel
theorem dX10_addsStep_235 : decode cX10_addsStep 235 = .ok (.iload_n 1, 1) := by decide +kernel
theorem dX10_addsStep_236 : decode cX10_addsStep 236 = .ok (.iastore, 1) := by decide +kernel
theorem dX10_addsStep_237 : decode cX10_addsStep 237 = .ok (.aload_n 0, 1) := by decide +kernel
theorem dX10_addsStep_238 : decode cX10_addsStep 238 = .ok (.getfield 79, 3) := by decide +kernel
theorem dX10_addsStep_241 : decode cX10_addsStep 241 = .ok (.iload 5, 2) := by decide +kernel
theorem dX10_addsStep_243 : decode cX10_addsStep 243 = .ok (.iload_n 2, 1) := by decide +kernel
theorem dX10_addsStep_244 : decode cX10_addsStep 244 = .ok (.iastore, 1) := by decide +kernel
theorem dX10_addsStep_245 : decode cX10_addsStep 245 = .ok (.aload_n 0, 1) := by decide +kernel
theorem dX10_addsStep_246 : decode cX10_addsStep 246 = .ok (.iload_n 3, 1) := by decide +kernel
theorem dX10_addsStep_247 : decode cX10_addsStep 247 = .ok (.invokevirtual 213, 3) := by decide +kernel
theorem dX10_addsStep_250 : decode cX10_addsStep 250 = .ok (.istore 6, 2) := by decide +kernel
theorem dX10_addsStep_252 : decode cX10_addsStep 252 = .ok (.iload_n 3, 1) := by decide +kernel
theorem dX10_addsStep_253 : decode cX10_addsStep 253 = .ok (.istore 7, 2) := by decide +kernel
theorem dX10_addsStep_255 : decode cX10_addsStep 255 = .ok (.iload 7, 2) := by decide +kernel
theorem dX10_addsStep_257 : decode cX10_addsStep 257 = .ok (.iload 6, 2) := by decide +kernel
theorem dX10_addsStep_259 : decode cX10_addsStep 259 = .ok (.if_icmp .ge 31, 3) := by decide +kernel
theorem dX10_addsStep_262 : decode cX10_addsStep 262 = .ok (.aload_n 0, 1) := by decide +kernel
theorem dX10_addsStep_263 : decode cX10_addsStep 263 = .ok (.getfield 82, 3) := by decide +kernel
theorem dX10_addsStep_266 : decode cX10_addsStep 266 = .ok (.bipush 21, 2) := by decide +kernel
theorem dX10_addsStep_268 : decode cX10_addsStep 268 = .ok (.iload 5, 2) := by decide +kernel
theorem dX10_addsStep_270 : decode cX10_addsStep 270 = .ok (.imul, 1) := by decide +kernel
theorem dX10_addsStep_271 : decode cX10_addsStep 271 = .ok (.iload 7, 2) := by decide +kernel
theorem dX10_addsStep_273 : decode cX10_addsStep 273 = .ok (.iadd, 1) := by decide +kernel
theorem dX10_addsStep_274 : decode cX10_addsStep 274 = .ok (.iload_n 3, 1) := by decide +kernel
theorem dX10_addsStep_275 : decode cX10_addsStep 275 = .ok (.isub, 1) := by decide +kernel
theorem dX10_addsStep_276 : decode cX10_addsStep 276 = .ok (.aload_n 0, 1) := by decide +kernel
theorem dX10_addsStep_277 : decode cX10_addsStep 277 = .ok (.getfield 52, 3) := by decide +kernel
theorem dX10_addsStep_280 : decode cX10_addsStep 280 = .ok (.iload 7, 2) := by decide +kernel
theorem dX10_addsStep_282 : decode cX10_addsStep 282 = .ok (.iaload, 1) := by decide +kernel
theorem dX10_addsStep_283 : decode cX10_addsStep 283 = .ok (.iastore, 1) := by decide +kernel
theorem dX10_addsStep_284 : decode cX10_addsStep 284 = .ok (.iinc 7 1, 3) := by decide +kernel
theorem dX10_addsStep_287 : decode cX10_addsStep 287 = .ok (.goto (-32), 3) := by decide +kernel
theorem dX10_addsStep_290 : decode cX10_addsStep 290 = .ok (.aload_n 0, 1) := by decide +kernel
theorem dX10_addsStep_291 : decode cX10_addsStep 291 = .ok (.dup, 1) := by decide +kernel
theorem dX10_addsStep_292 : decode cX10_addsStep 292 = .ok (.getfield 342, 3) := by decide +kernel
theorem dX10_addsStep_295 : decode cX10_addsStep 295 = .ok (.iconst 1, 1) := by decide +kernel
theorem dX10_addsStep_296 : decode cX10_addsStep 296 = .ok (.iadd, 1) := by decide +kernel
theorem dX10_addsStep_297 : decode cX10_addsStep 297 = .ok (.putfield 342, 3) := by decide +kernel
theorem dX10_addsStep_300 : decode cX10_addsStep 300 = .ok (.return_, 1) := by decide +kernel
theorem dX10_goesAll_0 : decode cX10_goesAll 0 = .ok (.aload_n 0, 1) := by decide +kernel
theorem dX10_goesAll_1 : decode cX10_goesAll 1 = .ok (.getfield 178, 3) := by decide +kernel
theorem dX10_goesAll_4 : decode cX10_goesAll 4 = .ok (.istore 5, 2) := by decide +kernel
theorem dX10_goesAll_6 : decode cX10_goesAll 6 = .ok (.iconst 0, 1) := by decide +kernel
theorem dX10_goesAll_7 : decode cX10_goesAll 7 = .ok (.istore 6, 2) := by decide +kernel
theorem dX10_goesAll_9 : decode cX10_goesAll 9 = .ok (.iload 6, 2) := by decide +kernel
theorem dX10_goesAll_11 : decode cX10_goesAll 11 = .ok (.aload_n 0, 1) := by decide +kernel
theorem dX10_goesAll_12 : decode cX10_goesAll 12 = .ok (.getfield 287, 3) := by decide +kernel
theorem dX10_goesAll_15 : decode cX10_goesAll 15 = .ok (.if_icmp .ge 49, 3) := by decide +kernel
theorem dX10_goesAll_18 : decode cX10_goesAll 18 = .ok (.aload_n 0, 1) := by decide +kernel
theorem dX10_goesAll_19 : decode cX10_goesAll 19 = .ok (.getfield 296, 3) := by decide +kernel
theorem dX10_goesAll_22 : decode cX10_goesAll 22 = .ok (.ifCond .ne 42, 3) := by decide +kernel
theorem dX10_goesAll_25 : decode cX10_goesAll 25 = .ok (.aload_n 0, 1) := by decide +kernel
theorem dX10_goesAll_26 : decode cX10_goesAll 26 = .ok (.iload 4, 2) := by decide +kernel
theorem dX10_goesAll_28 : decode cX10_goesAll 28 = .ok (.iload 6, 2) := by decide +kernel
theorem dX10_goesAll_30 : decode cX10_goesAll 30 = .ok (.invokevirtual 336, 3) := by decide +kernel
theorem dX10_goesAll_33 : decode cX10_goesAll 33 = .ok (.istore 7, 2) := by decide +kernel
theorem dX10_goesAll_35 : decode cX10_goesAll 35 = .ok (.aload_n 0, 1) := by decide +kernel
theorem dX10_goesAll_36 : decode cX10_goesAll 36 = .ok (.iload_n 2, 1) := by decide +kernel
theorem dX10_goesAll_37 : decode cX10_goesAll 37 = .ok (.iload_n 3, 1) := by decide +kernel
theorem dX10_goesAll_38 : decode cX10_goesAll 38 = .ok (.aload_n 0, 1) := by decide +kernel
theorem dX10_goesAll_39 : decode cX10_goesAll 39 = .ok (.iload_n 1, 1) := by decide +kernel
theorem dX10_goesAll_40 : decode cX10_goesAll 40 = .ok (.iload_n 1, 1) := by decide +kernel
theorem dX10_goesAll_41 : decode cX10_goesAll 41 = .ok (.iload_n 2, 1) := by decide +kernel
theorem dX10_goesAll_42 : decode cX10_goesAll 42 = .ok (.iadd, 1) := by decide +kernel
theorem dX10_goesAll_43 : decode cX10_goesAll 43 = .ok (.iload 7, 2) := by decide +kernel
theorem dX10_goesAll_45 : decode cX10_goesAll 45 = .ok (.invokevirtual 339, 3) := by decide +kernel
theorem dX10_goesAll_48 : decode cX10_goesAll 48 = .ok (.iload_n 1, 1) := by decide +kernel
theorem dX10_goesAll_49 : decode cX10_goesAll 49 = .ok (.invokevirtual 348, 3) := by decide +kernel
theorem dX10_goesAll_52 : decode cX10_goesAll 52 = .ok (.aload_n 0, 1) := by decide +kernel
theorem dX10_goesAll_53 : decode cX10_goesAll 53 = .ok (.iload 5, 2) := by decide +kernel
theorem dX10_goesAll_55 : decode cX10_goesAll 55 = .ok (.putfield 178, 3) := by decide +kernel
theorem dX10_goesAll_58 : decode cX10_goesAll 58 = .ok (.iinc 6 1, 3) := by decide +kernel
theorem dX10_goesAll_61 : decode cX10_goesAll 61 = .ok (.goto (-52), 3) := by decide +kernel
theorem dX10_goesAll_64 : decode cX10_goesAll 64 = .ok (.return_, 1) := by decide +kernel
theorem dX10_goesSome_0 : decode cX10_goesSome 0 = .ok (.iload_n 1, 1) := by decide +kernel
theorem dX10_goesSome_1 : decode cX10_goesSome 1 = .ok (.iload_n 2, 1) := by decide +kernel
theorem dX10_goesSome_2 : decode cX10_goesSome 2 = .ok (.iadd, 1) := by decide +kernel
theorem dX10_goesSome_3 : decode cX10_goesSome 3 = .ok (.istore 7, 2) := by decide +kernel
theorem dX10_goesSome_5 : decode cX10_goesSome 5 = .ok (.aload_n 0, 1) := by decide +kernel
theorem dX10_goesSome_6 : decode cX10_goesSome 6 = .ok (.iload 7, 2) := by decide +kernel
theorem dX10_goesSome_8 : decode cX10_goesSome 8 = .ok (.invokevirtual 220, 3) := by decide +kernel
theorem dX10_goesSome_11 : decode cX10_goesSome 11 = .ok (.istore 8, 2) := by decide +kernel
theorem dX10_goesSome_13 : decode cX10_goesSome 13 = .ok (.aload_n 0, 1) := by decide +kernel
theorem dX10_goesSome_14 : decode cX10_goesSome 14 = .ok (.getfield 178, 3) := by decide +kernel
theorem dX10_goesSome_17 : decode cX10_goesSome 17 = .ok (.istore 9, 2) := by decide +kernel
theorem dX10_goesSome_19 : decode cX10_goesSome 19 = .ok (.aload_n 0, 1) := by decide +kernel
theorem dX10_goesSome_20 : decode cX10_goesSome 20 = .ok (.getfield 178, 3) := by decide +kernel
theorem dX10_goesSome_23 : decode cX10_goesSome 23 = .ok (.istore 10, 2) := by decide +kernel
theorem dX10_goesSome_25 : decode cX10_goesSome 25 = .ok (.aload_n 0, 1) := by decide +kernel
theorem dX10_goesSome_26 : decode cX10_goesSome 26 = .ok (.iload 7, 2) := by decide +kernel
theorem dX10_goesSome_28 : decode cX10_goesSome 28 = .ok (.iload 6, 2) := by decide +kernel
theorem dX10_goesSome_30 : decode cX10_goesSome 30 = .ok (.iconst 0, 1) := by decide +kernel
theorem dX10_goesSome_31 : decode cX10_goesSome 31 = .ok (.invokevirtual 352, 3) := by decide +kernel
theorem dX10_goesSome_34 : decode cX10_goesSome 34 = .ok (.aload_n 0, 1) := by decide +kernel
theorem dX10_goesSome_35 : decode cX10_goesSome 35 = .ok (.iload 8, 2) := by decide +kernel
theorem dX10_goesSome_37 : decode cX10_goesSome 37 = .ok (.iload 10, 2) := by decide +kernel
theorem dX10_goesSome_39 : decode cX10_goesSome 39 = .ok (.invokevirtual 239, 3) := by decide +kernel
theorem dX10_goesSome_42 : decode cX10_goesSome 42 = .ok (.istore 10, 2) := by decide +kernel
theorem dX10_goesSome_44 : decode cX10_goesSome 44 = .ok (.aload_n 0, 1) := by decide +kernel
theorem dX10_goesSome_45 : decode cX10_goesSome 45 = .ok (.iload 4, 2) := by decide +kernel
theorem dX10_goesSome_47 : decode cX10_goesSome 47 = .ok (.iload 10, 2) := by decide +kernel
theorem dX10_goesSome_49 : decode cX10_goesSome 49 = .ok (.invokevirtual 356, 3) := by decide +kernel
theorem dX10_goesSome_52 : decode cX10_goesSome 52 = .ok (.aload_n 0, 1) := by decide +kernel
theorem dX10_goesSome_53 : decode cX10_goesSome 53 = .ok (.getfield 178, 3) := by decide +kernel
theorem dX10_goesSome_56 : decode cX10_goesSome 56 = .ok (.istore 11, 2) := by decide +kernel
theorem dX10_goesSome_58 : decode cX10_goesSome 58 = .ok (.iconst 0, 1) := by decide +kernel
theorem dX10_goesSome_59 : decode cX10_goesSome 59 = .ok (.istore 12, 2) := by decide +kernel
theorem dX10_goesSome_61 : decode cX10_goesSome 61 = .ok (.iload 12, 2) := by decide +kernel
theorem dX10_goesSome_63 : decode cX10_goesSome 63 = .ok (.aload_n 0, 1) := by decide +kernel
theorem dX10_goesSome_64 : decode cX10_goesSome 64 = .ok (.getfield 287, 3) := by decide +kernel
theorem dX10_goesSome_67 : decode cX10_goesSome 67 = .ok (.if_icmp .ge 73, 3) := by decide +kernel
theorem dX10_goesSome_70 : decode cX10_goesSome 70 = .ok (.aload_n 0, 1) := by decide +kernel
theorem dX10_goesSome_71 : decode cX10_goesSome 71 = .ok (.getfield 296, 3) := by decide +kernel
theorem dX10_goesSome_74 : decode cX10_goesSome 74 = .ok (.ifCond .ne 66, 3) := by decide +kernel
theorem dX10_goesSome_77 : decode cX10_goesSome 77 = .ok (.aload_n 0, 1) := by decide +kernel
theorem dX10_goesSome_78 : decode cX10_goesSome 78 = .ok (.getfield 178, 3) := by decide +kernel
theorem dX10_goesSome_81 : decode cX10_goesSome 81 = .ok (.istore 13, 2) := by decide +kernel
theorem dX10_goesSome_83 : decode cX10_goesSome 83 = .ok (.aload_n 0, 1) := by decide +kernel
theorem dX10_goesSome_84 : decode cX10_goesSome 84 = .ok (.iload 5, 2) := by decide +kernel
theorem dX10_goesSome_86 : decode cX10_goesSome 86 = .ok (.iload 12, 2) := by decide +kernel
theorem dX10_goesSome_88 : decode cX10_goesSome 88 = .ok (.invokevirtual 336, 3) := by decide +kernel
theorem dX10_goesSome_91 : decode cX10_goesSome 91 = .ok (.istore 14, 2) := by decide +kernel
theorem dX10_goesSome_93 : decode cX10_goesSome 93 = .ok (.aload_n 0, 1) := by decide +kernel
theorem dX10_goesSome_94 : decode cX10_goesSome 94 = .ok (.iload 7, 2) := by decide +kernel
theorem dX10_goesSome_96 : decode cX10_goesSome 96 = .ok (.iload 6, 2) := by decide +kernel
theorem dX10_goesSome_98 : decode cX10_goesSome 98 = .ok (.iconst 1, 1) := by decide +kernel
theorem dX10_goesSome_99 : decode cX10_goesSome 99 = .ok (.invokevirtual 352, 3) := by decide +kernel
theorem dX10_goesSome_102 : decode cX10_goesSome 102 = .ok (.aload_n 0, 1) := by decide +kernel
theorem dX10_goesSome_103 : decode cX10_goesSome 103 = .ok (.iload 8, 2) := by decide +kernel
theorem dX10_goesSome_105 : decode cX10_goesSome 105 = .ok (.iload 13, 2) := by decide +kernel
theorem dX10_goesSome_107 : decode cX10_goesSome 107 = .ok (.invokevirtual 239, 3) := by decide +kernel
theorem dX10_goesSome_110 : decode cX10_goesSome 110 = .ok (.istore 14, 2) := by decide +kernel
theorem dX10_goesSome_112 : decode cX10_goesSome 112 = .ok (.aload_n 0, 1) := by decide +kernel
theorem dX10_goesSome_113 : decode cX10_goesSome 113 = .ok (.iload_n 2, 1) := by decide +kernel
theorem dX10_goesSome_114 : decode cX10_goesSome 114 = .ok (.iload_n 3, 1) := by decide +kernel
theorem dX10_goesSome_115 : decode cX10_goesSome 115 = .ok (.aload_n 0, 1) := by decide +kernel
theorem dX10_goesSome_116 : decode cX10_goesSome 116 = .ok (.iload_n 1, 1) := by decide +kernel
theorem dX10_goesSome_117 : decode cX10_goesSome 117 = .ok (.iload 7, 2) := by decide +kernel
theorem dX10_goesSome_119 : decode cX10_goesSome 119 = .ok (.iload 14, 2) := by decide +kernel
theorem dX10_goesSome_121 : decode cX10_goesSome 121 = .ok (.invokevirtual 339, 3) := by decide +kernel
theorem dX10_goesSome_124 : decode cX10_goesSome 124 = .ok (.iload_n 1, 1) := by decide +kernel
theorem dX10_goesSome_125 : decode cX10_goesSome 125 = .ok (.invokevirtual 348, 3) := by decide +kernel
theorem dX10_goesSome_128 : decode cX10_goesSome 128 = .ok (.aload_n 0, 1) := by decide +kernel
theorem dX10_goesSome_129 : decode cX10_goesSome 129 = .ok (.iload 11, 2) := by decide +kernel
theorem dX10_goesSome_131 : decode cX10_goesSome 131 = .ok (.putfield 178, 3) := by decide +kernel
theorem dX10_goesSome_134 : decode cX10_goesSome 134 = .ok (.iinc 12 1, 3) := by decide +kernel
theorem dX10_goesSome_137 : decode cX10_goesSome 137 = .ok (.goto (-76), 3) := by decide +kernel
theorem dX10_goesSome_140 : decode cX10_goesSome 140 = .ok (.aload_n 0, 1) := by decide +kernel
theorem dX10_goesSome_141 : decode cX10_goesSome 141 = .ok (.iload 9, 2) := by decide +kernel
theorem dX10_goesSome_143 : decode cX10_goesSome 143 = .ok (.putfield 178, 3) := by decide +kernel
theorem dX10_goesSome_146 : decode cX10_goesSome 146 = .ok (.return_, 1) := by decide +kernel
theorem dX10_laysSteps_0 : decode cX10_laysSteps 0 = .ok (.aload_n 0, 1) := by decide +kernel
theorem dX10_laysSteps_1 : decode cX10_laysSteps 1 = .ok (.iconst 0, 1) := by decide +kernel
theorem dX10_laysSteps_2 : decode cX10_laysSteps 2 = .ok (.putfield 342, 3) := by decide +kernel
theorem dX10_laysSteps_5 : decode cX10_laysSteps 5 = .ok (.iload_n 3, 1) := by decide +kernel
theorem dX10_laysSteps_6 : decode cX10_laysSteps 6 = .ok (.ifCond .eq 7, 3) := by decide +kernel
theorem dX10_laysSteps_9 : decode cX10_laysSteps 9 = .ok (.iconst 1, 1) := by decide +kernel
theorem dX10_laysSteps_10 : decode cX10_laysSteps 10 = .ok (.goto 10, 3) := by decide +kernel
theorem dX10_laysSteps_13 : decode cX10_laysSteps 13 = .ok (.aload_n 0, 1) := by decide +kernel
theorem dX10_laysSteps_14 : decode cX10_laysSteps 14 = .ok (.iload_n 1, 1) := by decide +kernel
theorem dX10_laysSteps_15 : decode cX10_laysSteps 15 = .ok (.invokevirtual 213, 3) := by decide +kernel
theorem dX10_laysSteps_18 : decode cX10_laysSteps 18 = .ok (.iload_n 1, 1) := by decide +kernel
theorem dX10_laysSteps_19 : decode cX10_laysSteps 19 = .ok (.isub, 1) := by decide +kernel
theorem dX10_laysSteps_20 : decode cX10_laysSteps 20 = .ok (.istore 4, 2) := by decide +kernel
theorem dX10_laysSteps_22 : decode cX10_laysSteps 22 = .ok (.iconst 0, 1) := by decide +kernel
theorem dX10_laysSteps_23 : decode cX10_laysSteps 23 = .ok (.istore 5, 2) := by decide +kernel
theorem dX10_laysSteps_25 : decode cX10_laysSteps 25 = .ok (.iload 5, 2) := by decide +kernel
theorem dX10_laysSteps_27 : decode cX10_laysSteps 27 = .ok (.iload 4, 2) := by decide +kernel
theorem dX10_laysSteps_29 : decode cX10_laysSteps 29 = .ok (.if_icmp .ge 200, 3) := by decide +kernel
theorem dX10_laysSteps_32 : decode cX10_laysSteps 32 = .ok (.iconst 0, 1) := by decide +kernel
theorem dX10_laysSteps_33 : decode cX10_laysSteps 33 = .ok (.istore 6, 2) := by decide +kernel
theorem dX10_laysSteps_35 : decode cX10_laysSteps 35 = .ok (.iload 6, 2) := by decide +kernel
theorem dX10_laysSteps_37 : decode cX10_laysSteps 37 = .ok (.aload_n 0, 1) := by decide +kernel
theorem dX10_laysSteps_38 : decode cX10_laysSteps 38 = .ok (.getfield 199, 3) := by decide +kernel
theorem dX10_laysSteps_41 : decode cX10_laysSteps 41 = .ok (.if_icmp .ge 182, 3) := by decide +kernel
theorem dX10_laysSteps_44 : decode cX10_laysSteps 44 = .ok (.aload_n 0, 1) := by decide +kernel
theorem dX10_laysSteps_45 : decode cX10_laysSteps 45 = .ok (.getfield 296, 3) := by decide +kernel
theorem dX10_laysSteps_48 : decode cX10_laysSteps 48 = .ok (.ifCond .ne 175, 3) := by decide +kernel
theorem dX10_laysSteps_51 : decode cX10_laysSteps 51 = .ok (.iload_n 2, 1) := by decide +kernel
theorem dX10_laysSteps_52 : decode cX10_laysSteps 52 = .ok (.iload 6, 2) := by decide +kernel
theorem dX10_laysSteps_54 : decode cX10_laysSteps 54 = .ok (.invokestatic 281, 3) := by decide +kernel
theorem dX10_laysSteps_57 : decode cX10_laysSteps 57 = .ok (.ifCond .ne 6, 3) := by decide +kernel
theorem dX10_laysSteps_60 : decode cX10_laysSteps 60 = .ok (.goto 157, 3) := by decide +kernel
theorem dX10_laysSteps_63 : decode cX10_laysSteps 63 = .ok (.aload_n 0, 1) := by decide +kernel
theorem dX10_laysSteps_64 : decode cX10_laysSteps 64 = .ok (.getfield 178, 3) := by decide +kernel
theorem dX10_laysSteps_67 : decode cX10_laysSteps 67 = .ok (.istore 7, 2) := by decide +kernel
theorem dX10_laysSteps_69 : decode cX10_laysSteps 69 = .ok (.aload_n 0, 1) := by decide +kernel
theorem dX10_laysSteps_70 : decode cX10_laysSteps 70 = .ok (.aload_n 0, 1) := by decide +kernel
theorem dX10_laysSteps_71 : decode cX10_laysSteps 71 = .ok (.iload 6, 2) := by decide +kernel
theorem dX10_laysSteps_73 : decode cX10_laysSteps 73 = .ok (.iconst 0, 1) := by decide +kernel
theorem dX10_laysSteps_74 : decode cX10_laysSteps 74 = .ok (.invokevirtual 271, 3) := by decide +kernel
theorem dX10_laysSteps_77 : decode cX10_laysSteps 77 = .ok (.invokevirtual 245, 3) := by decide +kernel
theorem dX10_laysSteps_80 : decode cX10_laysSteps 80 = .ok (.istore 8, 2) := by decide +kernel
theorem dX10_laysSteps_82 : decode cX10_laysSteps 82 = .ok (.aload_n 0, 1) := by decide +kernel
theorem dX10_laysSteps_83 : decode cX10_laysSteps 83 = .ok (.aload_n 0, 1) := by decide +kernel
theorem dX10_laysSteps_84 : decode cX10_laysSteps 84 = .ok (.iload 6, 2) := by decide +kernel
theorem dX10_laysSteps_86 : decode cX10_laysSteps 86 = .ok (.iconst 1, 1) := by decide +kernel
theorem dX10_laysSteps_87 : decode cX10_laysSteps 87 = .ok (.invokevirtual 271, 3) := by decide +kernel
theorem dX10_laysSteps_90 : decode cX10_laysSteps 90 = .ok (.invokevirtual 245, 3) := by decide +kernel
theorem dX10_laysSteps_93 : decode cX10_laysSteps 93 = .ok (.istore 9, 2) := by decide +kernel
theorem dX10_laysSteps_95 : decode cX10_laysSteps 95 = .ok (.aload_n 0, 1) := by decide +kernel
theorem dX10_laysSteps_96 : decode cX10_laysSteps 96 = .ok (.iload 8, 2) := by decide +kernel
theorem dX10_laysSteps_98 : decode cX10_laysSteps 98 = .ok (.iload_n 1, 1) := by decide +kernel
theorem dX10_laysSteps_99 : decode cX10_laysSteps 99 = .ok (.iload 5, 2) := by decide +kernel
theorem dX10_laysSteps_101 : decode cX10_laysSteps 101 = .ok (.iadd, 1) := by decide +kernel
theorem dX10_laysSteps_102 : decode cX10_laysSteps 102 = .ok (.invokevirtual 356, 3) := by decide +kernel
theorem dX10_laysSteps_105 : decode cX10_laysSteps 105 = .ok (.aload_n 0, 1) := by decide +kernel
theorem dX10_laysSteps_106 : decode cX10_laysSteps 106 = .ok (.iload_n 1, 1) := by decide +kernel
theorem dX10_laysSteps_107 : decode cX10_laysSteps 107 = .ok (.iload 5, 2) := by decide +kernel
theorem dX10_laysSteps_109 : decode cX10_laysSteps 109 = .ok (.iload 6, 2) := by decide +kernel
theorem dX10_laysSteps_111 : decode cX10_laysSteps 111 = .ok (.iload 9, 2) := by decide +kernel
theorem dX10_laysSteps_113 : decode cX10_laysSteps 113 = .ok (.invokevirtual 359, 3) := by decide +kernel
theorem dX10_laysSteps_116 : decode cX10_laysSteps 116 = .ok (.aload_n 0, 1) := by decide +kernel
theorem dX10_laysSteps_117 : decode cX10_laysSteps 117 = .ok (.iload 8, 2) := by decide +kernel
theorem dX10_laysSteps_119 : decode cX10_laysSteps 119 = .ok (.invokevirtual 220, 3) := by decide +kernel
theorem dX10_laysSteps_122 : decode cX10_laysSteps 122 = .ok (.istore 10, 2) := by decide +kernel
theorem dX10_laysSteps_124 : decode cX10_laysSteps 124 = .ok (.aload_n 0, 1) := by decide +kernel
theorem dX10_laysSteps_125 : decode cX10_laysSteps 125 = .ok (.getfield 33, 3) := by decide +kernel
theorem dX10_laysSteps_128 : decode cX10_laysSteps 128 = .ok (.iload 10, 2) := by decide +kernel
theorem dX10_laysSteps_130 : decode cX10_laysSteps 130 = .ok (.iaload, 1) := by decide +kernel
theorem dX10_laysSteps_131 : decode cX10_laysSteps 131 = .ok (.iconst 2, 1) := by decide +kernel
theorem dX10_laysSteps_132 : decode cX10_laysSteps 132 = .ok (.if_icmp .ne 79, 3) := by decide +kernel
theorem dX10_laysSteps_135 : decode cX10_laysSteps 135 = .ok (.aload_n 0, 1) := by decide +kernel
theorem dX10_laysSteps_136 : decode cX10_laysSteps 136 = .ok (.iload_n 1, 1) := by decide +kernel
theorem dX10_laysSteps_137 : decode cX10_laysSteps 137 = .ok (.iload 5, 2) := by decide +kernel
theorem dX10_laysSteps_139 : decode cX10_laysSteps 139 = .ok (.iadd, 1) := by decide +kernel
theorem dX10_laysSteps_140 : decode cX10_laysSteps 140 = .ok (.invokevirtual 220, 3) := by decide +kernel
theorem dX10_laysSteps_143 : decode cX10_laysSteps 143 = .ok (.iload 10, 2) := by decide +kernel
theorem dX10_laysSteps_145 : decode cX10_laysSteps 145 = .ok (.if_icmp .ne 66, 3) := by decide +kernel
theorem dX10_laysSteps_148 : decode cX10_laysSteps 148 = .ok (.aload_n 0, 1) := by decide +kernel
theorem dX10_laysSteps_149 : decode cX10_laysSteps 149 = .ok (.getfield 39, 3) := by decide +kernel
theorem dX10_laysSteps_152 : decode cX10_laysSteps 152 = .ok (.iload 10, 2) := by decide +kernel
theorem dX10_laysSteps_154 : decode cX10_laysSteps 154 = .ok (.iaload, 1) := by decide +kernel
theorem dX10_laysSteps_155 : decode cX10_laysSteps 155 = .ok (.iconst (-1), 1) := by decide +kernel
theorem dX10_laysSteps_156 : decode cX10_laysSteps 156 = .ok (.if_icmp .ne 7, 3) := by decide +kernel
theorem dX10_laysSteps_159 : decode cX10_laysSteps 159 = .ok (.iconst 1, 1) := by decide +kernel
theorem dX10_laysSteps_160 : decode cX10_laysSteps 160 = .ok (.goto 4, 3) := by decide +kernel
theorem dX10_laysSteps_163 : decode cX10_laysSteps 163 = .ok (.iconst 0, 1) := by decide +kernel
theorem dX10_laysSteps_164 : decode cX10_laysSteps 164 = .ok (.istore 11, 2) := by decide +kernel
theorem dX10_laysSteps_166 : decode cX10_laysSteps 166 = .ok (.iload 11, 2) := by decide +kernel
theorem dX10_laysSteps_168 : decode cX10_laysSteps 168 = .ok (.iconst 1, 1) := by decide +kernel
theorem dX10_laysSteps_169 : decode cX10_laysSteps 169 = .ok (.aload_n 0, 1) := by decide +kernel
theorem dX10_laysSteps_170 : decode cX10_laysSteps 170 = .ok (.iload_n 1, 1) := by decide +kernel
theorem dX10_laysSteps_171 : decode cX10_laysSteps 171 = .ok (.iload 5, 2) := by decide +kernel
theorem dX10_laysSteps_173 : decode cX10_laysSteps 173 = .ok (.iadd, 1) := by decide +kernel
theorem dX10_laysSteps_174 : decode cX10_laysSteps 174 = .ok (.invokevirtual 209, 3) := by decide +kernel
theorem dX10_laysSteps_177 : decode cX10_laysSteps 177 = .ok (.ishl, 1) := by decide +kernel
theorem dX10_laysSteps_178 : decode cX10_laysSteps 178 = .ok (.iconst 1, 1) := by decide +kernel
theorem dX10_laysSteps_179 : decode cX10_laysSteps 179 = .ok (.isub, 1) := by decide +kernel
theorem dX10_laysSteps_180 : decode cX10_laysSteps 180 = .ok (.if_icmp .ge 31, 3) := by decide +kernel
theorem dX10_laysSteps_183 : decode cX10_laysSteps 183 = .ok (.aload_n 0, 1) := by decide +kernel
theorem dX10_laysSteps_184 : decode cX10_laysSteps 184 = .ok (.getfield 296, 3) := by decide +kernel
theorem dX10_laysSteps_187 : decode cX10_laysSteps 187 = .ok (.ifCond .ne 24, 3) := by decide +kernel
theorem dX10_laysSteps_190 : decode cX10_laysSteps 190 = .ok (.aload_n 0, 1) := by decide +kernel
theorem dX10_laysSteps_191 : decode cX10_laysSteps 191 = .ok (.iload_n 1, 1) := by decide +kernel
theorem dX10_laysSteps_192 : decode cX10_laysSteps 192 = .ok (.iload 5, 2) := by decide +kernel
theorem dX10_laysSteps_194 : decode cX10_laysSteps 194 = .ok (.iload 6, 2) := by decide +kernel
theorem dX10_laysSteps_196 : decode cX10_laysSteps 196 = .ok (.iload 8, 2) := by decide +kernel
theorem dX10_laysSteps_198 : decode cX10_laysSteps 198 = .ok (.iload 9, 2) := by decide +kernel
theorem dX10_laysSteps_200 : decode cX10_laysSteps 200 = .ok (.iload 11, 2) := by decide +kernel
theorem dX10_laysSteps_202 : decode cX10_laysSteps 202 = .ok (.invokevirtual 362, 3) := by decide +kernel
theorem dX10_laysSteps_205 : decode cX10_laysSteps 205 = .ok (.iinc 11 1, 3) := by decide +kernel
theorem dX10_laysSteps_208 : decode cX10_laysSteps 208 = .ok (.goto (-42), 3) := by decide +kernel
theorem dX10_laysSteps_211 : decode cX10_laysSteps 211 = .ok (.aload_n 0, 1) := by decide +kernel
theorem dX10_laysSteps_212 : decode cX10_laysSteps 212 = .ok (.iload 7, 2) := by decide +kernel
theorem dX10_laysSteps_214 : decode cX10_laysSteps 214 = .ok (.putfield 178, 3) := by decide +kernel
theorem dX10_laysSteps_217 : decode cX10_laysSteps 217 = .ok (.iinc 6 1, 3) := by decide +kernel
theorem dX10_laysSteps_220 : decode cX10_laysSteps 220 = .ok (.goto (-185), 3) := by decide +kernel
theorem dX10_laysSteps_223 : decode cX10_laysSteps 223 = .ok (.iinc 5 1, 3) := by decide +kernel
theorem dX10_laysSteps_226 : decode cX10_laysSteps 226 = .ok (.goto (-201), 3) := by decide +kernel
theorem dX10_laysSteps_229 : decode cX10_laysSteps 229 = .ok (.return_, 1) := by decide +kernel
theorem dX10_matches_0 : decode cX10_matches 0 = .ok (.aload_n 0, 1) := by decide +kernel
theorem dX10_matches_1 : decode cX10_matches 1 = .ok (.iconst 0, 1) := by decide +kernel
theorem dX10_matches_2 : decode cX10_matches 2 = .ok (.putfield 100, 3) := by decide +kernel
theorem dX10_matches_5 : decode cX10_matches 5 = .ok (.aload_n 0, 1) := by decide +kernel
theorem dX10_matches_6 : decode cX10_matches 6 = .ok (.iload_n 1, 1) := by decide +kernel
theorem dX10_matches_7 : decode cX10_matches 7 = .ok (.invokevirtual 371, 3) := by decide +kernel
theorem dX10_matches_10 : decode cX10_matches 10 = .ok (.ifCond .ne 11, 3) := by decide +kernel
theorem dX10_matches_13 : decode cX10_matches 13 = .ok (.aload_n 0, 1) := by decide +kernel
theorem dX10_matches_14 : decode cX10_matches 14 = .ok (.iload_n 2, 1) := by decide +kernel
theorem dX10_matches_15 : decode cX10_matches 15 = .ok (.invokevirtual 371, 3) := by decide +kernel
theorem dX10_matches_18 : decode cX10_matches 18 = .ok (.ifCond .eq 5, 3) := by decide +kernel
theorem dX10_matches_21 : decode cX10_matches 21 = .ok (.iconst 0, 1) := by decide +kernel
theorem dX10_matches_22 : decode cX10_matches 22 = .ok (.ireturn, 1) := by decide +kernel
theorem dX10_matches_23 : decode cX10_matches 23 = .ok (.aload_n 0, 1) := by decide +kernel
theorem dX10_matches_24 : decode cX10_matches 24 = .ok (.iload_n 1, 1) := by decide +kernel
theorem dX10_matches_25 : decode cX10_matches 25 = .ok (.invokevirtual 374, 3) := by decide +kernel
theorem dX10_matches_28 : decode cX10_matches 28 = .ok (.istore_n 3, 1) := by decide +kernel
theorem dX10_matches_29 : decode cX10_matches 29 = .ok (.aload_n 0, 1) := by decide +kernel
theorem dX10_matches_30 : decode cX10_matches 30 = .ok (.iload_n 3, 1) := by decide +kernel
theorem dX10_matches_31 : decode cX10_matches 31 = .ok (.aload_n 0, 1) := by decide +kernel
theorem dX10_matches_32 : decode cX10_matches 32 = .ok (.aload_n 0, 1) := by decide +kernel
theorem dX10_matches_33 : decode cX10_matches 33 = .ok (.iload_n 2, 1) := by decide +kernel
theorem dX10_matches_34 : decode cX10_matches 34 = .ok (.invokevirtual 242, 3) := by decide +kernel
theorem dX10_matches_37 : decode cX10_matches 37 = .ok (.invokevirtual 245, 3) := by decide +kernel
theorem dX10_matches_40 : decode cX10_matches 40 = .ok (.invokevirtual 356, 3) := by decide +kernel
theorem dX10_matches_43 : decode cX10_matches 43 = .ok (.aload_n 0, 1) := by decide +kernel
theorem dX10_matches_44 : decode cX10_matches 44 = .ok (.iconst 2, 1) := by decide +kernel
theorem dX10_matches_45 : decode cX10_matches 45 = .ok (.invokevirtual 380, 3) := by decide +kernel
theorem dX10_matches_48 : decode cX10_matches 48 = .ok (.ifCond .eq 7, 3) := by decide +kernel
theorem dX10_matches_51 : decode cX10_matches 51 = .ok (.iconst 0, 1) := by decide +kernel
theorem dX10_matches_52 : decode cX10_matches 52 = .ok (.goto 7, 3) := by decide +kernel
theorem dX10_matches_55 : decode cX10_matches 55 = .ok (.aload_n 0, 1) := by decide +kernel
theorem dX10_matches_56 : decode cX10_matches 56 = .ok (.getfield 287, 3) := by decide +kernel
theorem dX10_matches_59 : decode cX10_matches 59 = .ok (.ireturn, 1) := by decide +kernel
theorem dX10_bound_0 : decode cX10_bound 0 = .ok (.aload_n 0, 1) := by decide +kernel
theorem dX10_bound_1 : decode cX10_bound 1 = .ok (.iconst 0, 1) := by decide +kernel
theorem dX10_bound_2 : decode cX10_bound 2 = .ok (.putfield 100, 3) := by decide +kernel
theorem dX10_bound_5 : decode cX10_bound 5 = .ok (.aload_n 0, 1) := by decide +kernel
theorem dX10_bound_6 : decode cX10_bound 6 = .ok (.iload_n 1, 1) := by decide +kernel
theorem dX10_bound_7 : decode cX10_bound 7 = .ok (.invokevirtual 371, 3) := by decide +kernel
theorem dX10_bound_10 : decode cX10_bound 10 = .ok (.ifCond .ne 20, 3) := by decide +kernel
theorem dX10_bound_13 : decode cX10_bound 13 = .ok (.aload_n 0, 1) := by decide +kernel
theorem dX10_bound_14 : decode cX10_bound 14 = .ok (.iload_n 2, 1) := by decide +kernel
theorem dX10_bound_15 : decode cX10_bound 15 = .ok (.invokevirtual 371, 3) := by decide +kernel
theorem dX10_bound_18 : decode cX10_bound 18 = .ok (.ifCond .ne 12, 3) := by decide +kernel
theorem dX10_bound_21 : decode cX10_bound 21 = .ok (.aload_n 0, 1) := by decide +kernel
theorem dX10_bound_22 : decode cX10_bound 22 = .ok (.iload 4, 2) := by decide +kernel
theorem dX10_bound_24 : decode cX10_bound 24 = .ok (.invokevirtual 383, 3) := by decide +kernel
theorem dX10_bound_27 : decode cX10_bound 27 = .ok (.ifCond .eq 5, 3) := by decide +kernel
theorem dX10_bound_30 : decode cX10_bound 30 = .ok (.iconst 0, 1) := by decide +kernel
theorem dX10_bound_31 : decode cX10_bound 31 = .ok (.ireturn, 1) := by decide +kernel
theorem dX10_bound_32 : decode cX10_bound 32 = .ok (.aload_n 0, 1) := by decide +kernel
theorem dX10_bound_33 : decode cX10_bound 33 = .ok (.iload_n 1, 1) := by decide +kernel
theorem dX10_bound_34 : decode cX10_bound 34 = .ok (.invokevirtual 374, 3) := by decide +kernel
theorem dX10_bound_37 : decode cX10_bound 37 = .ok (.istore 5, 2) := by decide +kernel
theorem dX10_bound_39 : decode cX10_bound 39 = .ok (.aload_n 0, 1) := by decide +kernel
theorem dX10_bound_40 : decode cX10_bound 40 = .ok (.iload 5, 2) := by decide +kernel
theorem dX10_bound_42 : decode cX10_bound 42 = .ok (.aload_n 0, 1) := by decide +kernel
theorem dX10_bound_43 : decode cX10_bound 43 = .ok (.aload_n 0, 1) := by decide +kernel
theorem dX10_bound_44 : decode cX10_bound 44 = .ok (.iload_n 2, 1) := by decide +kernel
theorem dX10_bound_45 : decode cX10_bound 45 = .ok (.invokevirtual 242, 3) := by decide +kernel
theorem dX10_bound_48 : decode cX10_bound 48 = .ok (.invokevirtual 245, 3) := by decide +kernel
theorem dX10_bound_51 : decode cX10_bound 51 = .ok (.invokevirtual 356, 3) := by decide +kernel
theorem dX10_bound_54 : decode cX10_bound 54 = .ok (.aload_n 0, 1) := by decide +kernel
theorem dX10_bound_55 : decode cX10_bound 55 = .ok (.iconst 3, 1) := by decide +kernel
theorem dX10_bound_56 : decode cX10_bound 56 = .ok (.invokevirtual 380, 3) := by decide +kernel
theorem dX10_bound_59 : decode cX10_bound 59 = .ok (.ifCond .ne 42, 3) := by decide +kernel
theorem dX10_bound_62 : decode cX10_bound 62 = .ok (.aload_n 0, 1) := by decide +kernel
theorem dX10_bound_63 : decode cX10_bound 63 = .ok (.iload_n 3, 1) := by decide +kernel
theorem dX10_bound_64 : decode cX10_bound 64 = .ok (.iconst 0, 1) := by decide +kernel
theorem dX10_bound_65 : decode cX10_bound 65 = .ok (.aload_n 0, 1) := by decide +kernel
theorem dX10_bound_66 : decode cX10_bound 66 = .ok (.getfield 287, 3) := by decide +kernel
theorem dX10_bound_69 : decode cX10_bound 69 = .ok (.iconst 1, 1) := by decide +kernel
theorem dX10_bound_70 : decode cX10_bound 70 = .ok (.isub, 1) := by decide +kernel
theorem dX10_bound_71 : decode cX10_bound 71 = .ok (.invokestatic 132, 3) := by decide +kernel
theorem dX10_bound_74 : decode cX10_bound 74 = .ok (.ifCond .eq 15, 3) := by decide +kernel
theorem dX10_bound_77 : decode cX10_bound 77 = .ok (.aload_n 0, 1) := by decide +kernel
theorem dX10_bound_78 : decode cX10_bound 78 = .ok (.getfield 290, 3) := by decide +kernel
theorem dX10_bound_81 : decode cX10_bound 81 = .ok (.iload 4, 2) := by decide +kernel
theorem dX10_bound_83 : decode cX10_bound 83 = .ok (.invokestatic 281, 3) := by decide +kernel
theorem dX10_bound_86 : decode cX10_bound 86 = .ok (.ifCond .ne 7, 3) := by decide +kernel
theorem dX10_bound_89 : decode cX10_bound 89 = .ok (.iconst 1, 1) := by decide +kernel
theorem dX10_bound_90 : decode cX10_bound 90 = .ok (.goto 4, 3) := by decide +kernel
theorem dX10_bound_93 : decode cX10_bound 93 = .ok (.iconst 0, 1) := by decide +kernel
theorem dX10_bound_94 : decode cX10_bound 94 = .ok (.iconst 2, 1) := by decide +kernel
theorem dX10_bound_95 : decode cX10_bound 95 = .ok (.invokevirtual 264, 3) := by decide +kernel
theorem dX10_bound_98 : decode cX10_bound 98 = .ok (.ifCond .eq 5, 3) := by decide +kernel
theorem dX10_bound_101 : decode cX10_bound 101 = .ok (.iconst 0, 1) := by decide +kernel
theorem dX10_bound_102 : decode cX10_bound 102 = .ok (.ireturn, 1) := by decide +kernel
theorem dX10_bound_103 : decode cX10_bound 103 = .ok (.aload_n 0, 1) := by decide +kernel
theorem dX10_bound_104 : decode cX10_bound 104 = .ok (.iconst 0, 1) := by decide +kernel
theorem dX10_bound_105 : decode cX10_bound 105 = .ok (.putfield 178, 3) := by decide +kernel
theorem dX10_bound_108 : decode cX10_bound 108 = .ok (.aload_n 0, 1) := by decide +kernel
theorem dX10_bound_109 : decode cX10_bound 109 = .ok (.getfield 52, 3) := by decide +kernel
theorem dX10_bound_112 : decode cX10_bound 112 = .ok (.iconst 0, 1) := by decide +kernel
theorem dX10_bound_113 : decode cX10_bound 113 = .ok (.iload 4, 2) := by decide +kernel
theorem dX10_bound_115 : decode cX10_bound 115 = .ok (.iastore, 1) := by decide +kernel
theorem dX10_bound_116 : decode cX10_bound 116 = .ok (.aload_n 0, 1) := by decide +kernel
theorem dX10_bound_117 : decode cX10_bound 117 = .ok (.iconst 1, 1) := by decide +kernel
theorem dX10_bound_118 : decode cX10_bound 118 = .ok (.putfield 178, 3) := by decide +kernel
theorem dX10_bound_121 : decode cX10_bound 121 = .ok (.aload_n 0, 1) := by decide +kernel
theorem dX10_bound_122 : decode cX10_bound 122 = .ok (.aload_n 0, 1) := by decide +kernel
theorem dX10_bound_123 : decode cX10_bound 123 = .ok (.iconst 0, 1) := by decide +kernel
theorem dX10_bound_124 : decode cX10_bound 124 = .ok (.iload_n 3, 1) := by decide +kernel
theorem dX10_bound_125 : decode cX10_bound 125 = .ok (.invokevirtual 336, 3) := by decide +kernel
theorem dX10_bound_128 : decode cX10_bound 128 = .ok (.invokevirtual 377, 3) := by decide +kernel
theorem dX10_bound_131 : decode cX10_bound 131 = .ok (.ireturn, 1) := by decide +kernel
theorem dX10_stepsOf_0 : decode cX10_stepsOf 0 = .ok (.aload_n 0, 1) := by decide +kernel
theorem dX10_stepsOf_1 : decode cX10_stepsOf 1 = .ok (.aload_n 0, 1) := by decide +kernel
theorem dX10_stepsOf_2 : decode cX10_stepsOf 2 = .ok (.iload_n 1, 1) := by decide +kernel
theorem dX10_stepsOf_3 : decode cX10_stepsOf 3 = .ok (.invokevirtual 374, 3) := by decide +kernel
theorem dX10_stepsOf_6 : decode cX10_stepsOf 6 = .ok (.aload_n 0, 1) := by decide +kernel
theorem dX10_stepsOf_7 : decode cX10_stepsOf 7 = .ok (.invokevirtual 389, 3) := by decide +kernel
theorem dX10_stepsOf_10 : decode cX10_stepsOf 10 = .ok (.iconst 0, 1) := by decide +kernel
theorem dX10_stepsOf_11 : decode cX10_stepsOf 11 = .ok (.invokevirtual 392, 3) := by decide +kernel
theorem dX10_stepsOf_14 : decode cX10_stepsOf 14 = .ok (.aload_n 0, 1) := by decide +kernel
theorem dX10_stepsOf_15 : decode cX10_stepsOf 15 = .ok (.iload_n 2, 1) := by decide +kernel
theorem dX10_stepsOf_16 : decode cX10_stepsOf 16 = .ok (.invokevirtual 380, 3) := by decide +kernel
theorem dX10_stepsOf_19 : decode cX10_stepsOf 19 = .ok (.ifCond .ne 7, 3) := by decide +kernel
theorem dX10_stepsOf_22 : decode cX10_stepsOf 22 = .ok (.iconst 1, 1) := by decide +kernel
theorem dX10_stepsOf_23 : decode cX10_stepsOf 23 = .ok (.goto 4, 3) := by decide +kernel
theorem dX10_stepsOf_26 : decode cX10_stepsOf 26 = .ok (.iconst 0, 1) := by decide +kernel
theorem dX10_stepsOf_27 : decode cX10_stepsOf 27 = .ok (.ireturn, 1) := by decide +kernel
theorem dX10_steps_0 : decode cX10_steps 0 = .ok (.aload_n 0, 1) := by decide +kernel
theorem dX10_steps_1 : decode cX10_steps 1 = .ok (.iconst 0, 1) := by decide +kernel
theorem dX10_steps_2 : decode cX10_steps 2 = .ok (.putfield 100, 3) := by decide +kernel
theorem dX10_steps_5 : decode cX10_steps 5 = .ok (.aload_n 0, 1) := by decide +kernel
theorem dX10_steps_6 : decode cX10_steps 6 = .ok (.iload_n 1, 1) := by decide +kernel
theorem dX10_steps_7 : decode cX10_steps 7 = .ok (.invokevirtual 371, 3) := by decide +kernel
theorem dX10_steps_10 : decode cX10_steps 10 = .ok (.ifCond .ne 12, 3) := by decide +kernel
theorem dX10_steps_13 : decode cX10_steps 13 = .ok (.aload_n 0, 1) := by decide +kernel
theorem dX10_steps_14 : decode cX10_steps 14 = .ok (.iload_n 1, 1) := by decide +kernel
theorem dX10_steps_15 : decode cX10_steps 15 = .ok (.iconst 2, 1) := by decide +kernel
theorem dX10_steps_16 : decode cX10_steps 16 = .ok (.invokevirtual 395, 3) := by decide +kernel
theorem dX10_steps_19 : decode cX10_steps 19 = .ok (.ifCond .ne 7, 3) := by decide +kernel
theorem dX10_steps_22 : decode cX10_steps 22 = .ok (.iconst 0, 1) := by decide +kernel
theorem dX10_steps_23 : decode cX10_steps 23 = .ok (.goto 7, 3) := by decide +kernel
theorem dX10_steps_26 : decode cX10_steps 26 = .ok (.aload_n 0, 1) := by decide +kernel
theorem dX10_steps_27 : decode cX10_steps 27 = .ok (.getfield 342, 3) := by decide +kernel
theorem dX10_steps_30 : decode cX10_steps 30 = .ok (.ireturn, 1) := by decide +kernel
theorem dX10_stepComes_0 : decode cX10_stepComes 0 = .ok (.aload_n 0, 1) := by decide +kernel
theorem dX10_stepComes_1 : decode cX10_stepComes 1 = .ok (.getfield 178, 3) := by decide +kernel
theorem dX10_stepComes_4 : decode cX10_stepComes 4 = .ok (.istore_n 2, 1) := by decide +kernel
theorem dX10_stepComes_5 : decode cX10_stepComes 5 = .ok (.iconst 1, 1) := by decide +kernel
theorem dX10_stepComes_6 : decode cX10_stepComes 6 = .ok (.istore_n 3, 1) := by decide +kernel
theorem dX10_stepComes_7 : decode cX10_stepComes 7 = .ok (.bipush 21, 2) := by decide +kernel
theorem dX10_stepComes_9 : decode cX10_stepComes 9 = .ok (.iload_n 1, 1) := by decide +kernel
theorem dX10_stepComes_10 : decode cX10_stepComes 10 = .ok (.imul, 1) := by decide +kernel
theorem dX10_stepComes_11 : decode cX10_stepComes 11 = .ok (.istore 4, 2) := by decide +kernel
theorem dX10_stepComes_13 : decode cX10_stepComes 13 = .ok (.iload_n 3, 1) := by decide +kernel
theorem dX10_stepComes_14 : decode cX10_stepComes 14 = .ok (.ifCond .le 48, 3) := by decide +kernel
theorem dX10_stepComes_17 : decode cX10_stepComes 17 = .ok (.aload_n 0, 1) := by decide +kernel
theorem dX10_stepComes_18 : decode cX10_stepComes 18 = .ok (.getfield 52, 3) := by decide +kernel
theorem dX10_stepComes_21 : decode cX10_stepComes 21 = .ok (.aload_n 0, 1) := by decide +kernel
theorem dX10_stepComes_22 : decode cX10_stepComes 22 = .ok (.getfield 178, 3) := by decide +kernel
theorem dX10_stepComes_25 : decode cX10_stepComes 25 = .ok (.aload_n 0, 1) := by decide +kernel
theorem dX10_stepComes_26 : decode cX10_stepComes 26 = .ok (.getfield 82, 3) := by decide +kernel
theorem dX10_stepComes_29 : decode cX10_stepComes 29 = .ok (.iload 4, 2) := by decide +kernel
theorem dX10_stepComes_31 : decode cX10_stepComes 31 = .ok (.iaload, 1) := by decide +kernel
theorem dX10_stepComes_32 : decode cX10_stepComes 32 = .ok (.iastore, 1) := by decide +kernel
theorem dX10_stepComes_33 : decode cX10_stepComes 33 = .ok (.iload_n 3, 1) := by decide +kernel
theorem dX10_stepComes_34 : decode cX10_stepComes 34 = .ok (.aload_n 0, 1) := by decide +kernel
theorem dX10_stepComes_35 : decode cX10_stepComes 35 = .ok (.aload_n 0, 1) := by decide +kernel
theorem dX10_stepComes_36 : decode cX10_stepComes 36 = .ok (.getfield 178, 3) := by decide +kernel
theorem dX10_stepComes_39 : decode cX10_stepComes 39 = .ok (.invokevirtual 209, 3) := by decide +kernel
theorem dX10_stepComes_42 : decode cX10_stepComes 42 = .ok (.iconst 1, 1) := by decide +kernel
theorem dX10_stepComes_43 : decode cX10_stepComes 43 = .ok (.isub, 1) := by decide +kernel
theorem dX10_stepComes_44 : decode cX10_stepComes 44 = .ok (.iadd, 1) := by decide +kernel
theorem dX10_stepComes_45 : decode cX10_stepComes 45 = .ok (.istore_n 3, 1) := by decide +kernel
theorem dX10_stepComes_46 : decode cX10_stepComes 46 = .ok (.aload_n 0, 1) := by decide +kernel
theorem dX10_stepComes_47 : decode cX10_stepComes 47 = .ok (.dup, 1) := by decide +kernel

theorem dX10_stepComes_48 : decode cX10_stepComes 48 = .ok (.getfield 178, 3) := by decide +kernel
theorem dX10_stepComes_51 : decode cX10_stepComes 51 = .ok (.iconst 1, 1) := by decide +kernel
theorem dX10_stepComes_52 : decode cX10_stepComes 52 = .ok (.iadd, 1) := by decide +kernel
theorem dX10_stepComes_53 : decode cX10_stepComes 53 = .ok (.putfield 178, 3) := by decide +kernel
theorem dX10_stepComes_56 : decode cX10_stepComes 56 = .ok (.iinc 4 1, 3) := by decide +kernel
theorem dX10_stepComes_59 : decode cX10_stepComes 59 = .ok (.goto (-46), 3) := by decide +kernel
theorem dX10_stepComes_62 : decode cX10_stepComes 62 = .ok (.iload_n 2, 1) := by decide +kernel
theorem dX10_stepComes_63 : decode cX10_stepComes 63 = .ok (.ireturn, 1) := by decide +kernel
theorem dX10_step_0 : decode cX10_step 0 = .ok (.aload_n 0, 1) := by decide +kernel
theorem dX10_step_1 : decode cX10_step 1 = .ok (.iconst 0, 1) := by decide +kernel
theorem dX10_step_2 : decode cX10_step 2 = .ok (.putfield 100, 3) := by decide +kernel
theorem dX10_step_5 : decode cX10_step 5 = .ok (.aload_n 0, 1) := by decide +kernel
theorem dX10_step_6 : decode cX10_step 6 = .ok (.iload_n 1, 1) := by decide +kernel
theorem dX10_step_7 : decode cX10_step 7 = .ok (.invokevirtual 371, 3) := by decide +kernel
theorem dX10_step_10 : decode cX10_step 10 = .ok (.ifCond .ne 39, 3) := by decide +kernel
theorem dX10_step_13 : decode cX10_step 13 = .ok (.aload_n 0, 1) := by decide +kernel
theorem dX10_step_14 : decode cX10_step 14 = .ok (.iload_n 1, 1) := by decide +kernel
theorem dX10_step_15 : decode cX10_step 15 = .ok (.iconst 3, 1) := by decide +kernel
theorem dX10_step_16 : decode cX10_step 16 = .ok (.invokevirtual 395, 3) := by decide +kernel
theorem dX10_step_19 : decode cX10_step 19 = .ok (.ifCond .eq 30, 3) := by decide +kernel
theorem dX10_step_22 : decode cX10_step 22 = .ok (.aload_n 0, 1) := by decide +kernel
theorem dX10_step_23 : decode cX10_step 23 = .ok (.iload_n 2, 1) := by decide +kernel
theorem dX10_step_24 : decode cX10_step 24 = .ok (.iconst 0, 1) := by decide +kernel
theorem dX10_step_25 : decode cX10_step 25 = .ok (.aload_n 0, 1) := by decide +kernel
theorem dX10_step_26 : decode cX10_step 26 = .ok (.getfield 342, 3) := by decide +kernel
theorem dX10_step_29 : decode cX10_step 29 = .ok (.iconst 1, 1) := by decide +kernel
theorem dX10_step_30 : decode cX10_step 30 = .ok (.isub, 1) := by decide +kernel
theorem dX10_step_31 : decode cX10_step 31 = .ok (.invokestatic 132, 3) := by decide +kernel
theorem dX10_step_34 : decode cX10_step 34 = .ok (.ifCond .ne 7, 3) := by decide +kernel
theorem dX10_step_37 : decode cX10_step 37 = .ok (.iconst 1, 1) := by decide +kernel
theorem dX10_step_38 : decode cX10_step 38 = .ok (.goto 4, 3) := by decide +kernel
theorem dX10_step_41 : decode cX10_step 41 = .ok (.iconst 0, 1) := by decide +kernel
theorem dX10_step_42 : decode cX10_step 42 = .ok (.iconst 2, 1) := by decide +kernel
theorem dX10_step_43 : decode cX10_step 43 = .ok (.invokevirtual 264, 3) := by decide +kernel
theorem dX10_step_46 : decode cX10_step 46 = .ok (.ifCond .eq 5, 3) := by decide +kernel
theorem dX10_step_49 : decode cX10_step 49 = .ok (.iconst 0, 1) := by decide +kernel
theorem dX10_step_50 : decode cX10_step 50 = .ok (.ireturn, 1) := by decide +kernel
theorem dX10_step_51 : decode cX10_step 51 = .ok (.aload_n 0, 1) := by decide +kernel
theorem dX10_step_52 : decode cX10_step 52 = .ok (.aload_n 0, 1) := by decide +kernel
theorem dX10_step_53 : decode cX10_step 53 = .ok (.iload_n 2, 1) := by decide +kernel
theorem dX10_step_54 : decode cX10_step 54 = .ok (.invokevirtual 398, 3) := by decide +kernel
theorem dX10_step_57 : decode cX10_step 57 = .ok (.invokevirtual 377, 3) := by decide +kernel
theorem dX10_step_60 : decode cX10_step 60 = .ok (.ireturn, 1) := by decide +kernel
theorem dX10_stepAt_0 : decode cX10_stepAt 0 = .ok (.aload_n 0, 1) := by decide +kernel
theorem dX10_stepAt_1 : decode cX10_stepAt 1 = .ok (.iconst 0, 1) := by decide +kernel
theorem dX10_stepAt_2 : decode cX10_stepAt 2 = .ok (.putfield 100, 3) := by decide +kernel
theorem dX10_stepAt_5 : decode cX10_stepAt 5 = .ok (.aload_n 0, 1) := by decide +kernel
theorem dX10_stepAt_6 : decode cX10_stepAt 6 = .ok (.iload_n 1, 1) := by decide +kernel
theorem dX10_stepAt_7 : decode cX10_stepAt 7 = .ok (.invokevirtual 371, 3) := by decide +kernel
theorem dX10_stepAt_10 : decode cX10_stepAt 10 = .ok (.ifCond .ne 48, 3) := by decide +kernel
theorem dX10_stepAt_13 : decode cX10_stepAt 13 = .ok (.aload_n 0, 1) := by decide +kernel
theorem dX10_stepAt_14 : decode cX10_stepAt 14 = .ok (.iload_n 1, 1) := by decide +kernel
theorem dX10_stepAt_15 : decode cX10_stepAt 15 = .ok (.iconst 3, 1) := by decide +kernel
theorem dX10_stepAt_16 : decode cX10_stepAt 16 = .ok (.invokevirtual 395, 3) := by decide +kernel
theorem dX10_stepAt_19 : decode cX10_stepAt 19 = .ok (.ifCond .eq 39, 3) := by decide +kernel
theorem dX10_stepAt_22 : decode cX10_stepAt 22 = .ok (.aload_n 0, 1) := by decide +kernel
theorem dX10_stepAt_23 : decode cX10_stepAt 23 = .ok (.iload_n 2, 1) := by decide +kernel
theorem dX10_stepAt_24 : decode cX10_stepAt 24 = .ok (.iconst 0, 1) := by decide +kernel
theorem dX10_stepAt_25 : decode cX10_stepAt 25 = .ok (.aload_n 0, 1) := by decide +kernel
theorem dX10_stepAt_26 : decode cX10_stepAt 26 = .ok (.getfield 342, 3) := by decide +kernel
theorem dX10_stepAt_29 : decode cX10_stepAt 29 = .ok (.iconst 1, 1) := by decide +kernel
theorem dX10_stepAt_30 : decode cX10_stepAt 30 = .ok (.isub, 1) := by decide +kernel
theorem dX10_stepAt_31 : decode cX10_stepAt 31 = .ok (.invokestatic 132, 3) := by decide +kernel
theorem dX10_stepAt_34 : decode cX10_stepAt 34 = .ok (.ifCond .eq 12, 3) := by decide +kernel
theorem dX10_stepAt_37 : decode cX10_stepAt 37 = .ok (.iload_n 3, 1) := by decide +kernel
theorem dX10_stepAt_38 : decode cX10_stepAt 38 = .ok (.iconst 0, 1) := by decide +kernel
theorem dX10_stepAt_39 : decode cX10_stepAt 39 = .ok (.iconst 1, 1) := by decide +kernel
theorem dX10_stepAt_40 : decode cX10_stepAt 40 = .ok (.invokestatic 132, 3) := by decide +kernel
theorem dX10_stepAt_43 : decode cX10_stepAt 43 = .ok (.ifCond .ne 7, 3) := by decide +kernel
theorem dX10_stepAt_46 : decode cX10_stepAt 46 = .ok (.iconst 1, 1) := by decide +kernel
theorem dX10_stepAt_47 : decode cX10_stepAt 47 = .ok (.goto 4, 3) := by decide +kernel
theorem dX10_stepAt_50 : decode cX10_stepAt 50 = .ok (.iconst 0, 1) := by decide +kernel
theorem dX10_stepAt_51 : decode cX10_stepAt 51 = .ok (.iconst 2, 1) := by decide +kernel
theorem dX10_stepAt_52 : decode cX10_stepAt 52 = .ok (.invokevirtual 264, 3) := by decide +kernel
theorem dX10_stepAt_55 : decode cX10_stepAt 55 = .ok (.ifCond .eq 5, 3) := by decide +kernel
theorem dX10_stepAt_58 : decode cX10_stepAt 58 = .ok (.iconst 0, 1) := by decide +kernel
theorem dX10_stepAt_59 : decode cX10_stepAt 59 = .ok (.ireturn, 1) := by decide +kernel
theorem dX10_stepAt_60 : decode cX10_stepAt 60 = .ok (.iload_n 3, 1) := by decide +kernel
theorem dX10_stepAt_61 : decode cX10_stepAt 61 = .ok (.ifCond .ne 12, 3) := by decide +kernel
theorem dX10_stepAt_64 : decode cX10_stepAt 64 = .ok (.aload_n 0, 1) := by decide +kernel
theorem dX10_stepAt_65 : decode cX10_stepAt 65 = .ok (.getfield 76, 3) := by decide +kernel
theorem dX10_stepAt_68 : decode cX10_stepAt 68 = .ok (.iload_n 2, 1) := by decide +kernel
theorem dX10_stepAt_69 : decode cX10_stepAt 69 = .ok (.iaload, 1) := by decide +kernel
theorem dX10_stepAt_70 : decode cX10_stepAt 70 = .ok (.goto 9, 3) := by decide +kernel
theorem dX10_stepAt_73 : decode cX10_stepAt 73 = .ok (.aload_n 0, 1) := by decide +kernel
theorem dX10_stepAt_74 : decode cX10_stepAt 74 = .ok (.getfield 79, 3) := by decide +kernel
theorem dX10_stepAt_77 : decode cX10_stepAt 77 = .ok (.iload_n 2, 1) := by decide +kernel
theorem dX10_stepAt_78 : decode cX10_stepAt 78 = .ok (.iaload, 1) := by decide +kernel
theorem dX10_stepAt_79 : decode cX10_stepAt 79 = .ok (.ireturn, 1) := by decide +kernel
theorem dX10_atTop_0 : decode cX10_atTop 0 = .ok (.aload_n 0, 1) := by decide +kernel
theorem dX10_atTop_1 : decode cX10_atTop 1 = .ok (.iconst 0, 1) := by decide +kernel
theorem dX10_atTop_2 : decode cX10_atTop 2 = .ok (.putfield 100, 3) := by decide +kernel
theorem dX10_atTop_5 : decode cX10_atTop 5 = .ok (.aload_n 0, 1) := by decide +kernel
theorem dX10_atTop_6 : decode cX10_atTop 6 = .ok (.iload_n 1, 1) := by decide +kernel
theorem dX10_atTop_7 : decode cX10_atTop 7 = .ok (.invokevirtual 371, 3) := by decide +kernel
theorem dX10_atTop_10 : decode cX10_atTop 10 = .ok (.ifCond .ne 11, 3) := by decide +kernel
theorem dX10_atTop_13 : decode cX10_atTop 13 = .ok (.aload_n 0, 1) := by decide +kernel
theorem dX10_atTop_14 : decode cX10_atTop 14 = .ok (.iload_n 2, 1) := by decide +kernel
theorem dX10_atTop_15 : decode cX10_atTop 15 = .ok (.invokevirtual 278, 3) := by decide +kernel
theorem dX10_atTop_18 : decode cX10_atTop 18 = .ok (.ifCond .eq 5, 3) := by decide +kernel
theorem dX10_atTop_21 : decode cX10_atTop 21 = .ok (.iconst 0, 1) := by decide +kernel
theorem dX10_atTop_22 : decode cX10_atTop 22 = .ok (.ireturn, 1) := by decide +kernel
theorem dX10_atTop_23 : decode cX10_atTop 23 = .ok (.aload_n 0, 1) := by decide +kernel
theorem dX10_atTop_24 : decode cX10_atTop 24 = .ok (.aload_n 0, 1) := by decide +kernel
theorem dX10_atTop_25 : decode cX10_atTop 25 = .ok (.iload_n 1, 1) := by decide +kernel
theorem dX10_atTop_26 : decode cX10_atTop 26 = .ok (.invokevirtual 374, 3) := by decide +kernel
theorem dX10_atTop_29 : decode cX10_atTop 29 = .ok (.iconst 1, 1) := by decide +kernel
theorem dX10_atTop_30 : decode cX10_atTop 30 = .ok (.iload_n 2, 1) := by decide +kernel
theorem dX10_atTop_31 : decode cX10_atTop 31 = .ok (.ishl, 1) := by decide +kernel
theorem dX10_atTop_32 : decode cX10_atTop 32 = .ok (.iconst 1, 1) := by decide +kernel
theorem dX10_atTop_33 : decode cX10_atTop 33 = .ok (.invokevirtual 392, 3) := by decide +kernel
theorem dX10_atTop_36 : decode cX10_atTop 36 = .ok (.aload_n 0, 1) := by decide +kernel
theorem dX10_atTop_37 : decode cX10_atTop 37 = .ok (.iconst 2, 1) := by decide +kernel
theorem dX10_atTop_38 : decode cX10_atTop 38 = .ok (.invokevirtual 380, 3) := by decide +kernel
theorem dX10_atTop_41 : decode cX10_atTop 41 = .ok (.ifCond .eq 7, 3) := by decide +kernel
theorem dX10_atTop_44 : decode cX10_atTop 44 = .ok (.iconst 0, 1) := by decide +kernel
theorem dX10_atTop_45 : decode cX10_atTop 45 = .ok (.goto 7, 3) := by decide +kernel
theorem dX10_atTop_48 : decode cX10_atTop 48 = .ok (.aload_n 0, 1) := by decide +kernel
theorem dX10_atTop_49 : decode cX10_atTop 49 = .ok (.getfield 342, 3) := by decide +kernel
theorem dX10_atTop_52 : decode cX10_atTop 52 = .ok (.ireturn, 1) := by decide +kernel
theorem dX10_walk_0 : decode cX10_walk 0 = .ok (.aload_n 0, 1) := by decide +kernel
theorem dX10_walk_1 : decode cX10_walk 1 = .ok (.iconst 0, 1) := by decide +kernel
theorem dX10_walk_2 : decode cX10_walk 2 = .ok (.putfield 100, 3) := by decide +kernel
theorem dX10_walk_5 : decode cX10_walk 5 = .ok (.aload_n 0, 1) := by decide +kernel
theorem dX10_walk_6 : decode cX10_walk 6 = .ok (.iload_n 1, 1) := by decide +kernel
theorem dX10_walk_7 : decode cX10_walk 7 = .ok (.invokevirtual 371, 3) := by decide +kernel
theorem dX10_walk_10 : decode cX10_walk 10 = .ok (.ifCond .eq 5, 3) := by decide +kernel
theorem dX10_walk_13 : decode cX10_walk 13 = .ok (.iconst 0, 1) := by decide +kernel
theorem dX10_walk_14 : decode cX10_walk 14 = .ok (.ireturn, 1) := by decide +kernel
theorem dX10_walk_15 : decode cX10_walk 15 = .ok (.aload_n 0, 1) := by decide +kernel
theorem dX10_walk_16 : decode cX10_walk 16 = .ok (.iload_n 1, 1) := by decide +kernel
theorem dX10_walk_17 : decode cX10_walk 17 = .ok (.invokevirtual 374, 3) := by decide +kernel
theorem dX10_walk_20 : decode cX10_walk 20 = .ok (.istore_n 2, 1) := by decide +kernel
theorem dX10_walk_21 : decode cX10_walk 21 = .ok (.iconst 0, 1) := by decide +kernel
theorem dX10_walk_22 : decode cX10_walk 22 = .ok (.istore_n 3, 1) := by decide +kernel
theorem dX10_walk_23 : decode cX10_walk 23 = .ok (.iload_n 3, 1) := by decide +kernel
theorem dX10_walk_24 : decode cX10_walk 24 = .ok (.bipush 40, 2) := by decide +kernel
theorem dX10_walk_26 : decode cX10_walk 26 = .ok (.if_icmp .ge 50, 3) := by decide +kernel
theorem dX10_walk_29 : decode cX10_walk 29 = .ok (.aload_n 0, 1) := by decide +kernel
theorem dX10_walk_30 : decode cX10_walk 30 = .ok (.iload_n 2, 1) := by decide +kernel
theorem dX10_walk_31 : decode cX10_walk 31 = .ok (.aload_n 0, 1) := by decide +kernel
theorem dX10_walk_32 : decode cX10_walk 32 = .ok (.invokevirtual 389, 3) := by decide +kernel
theorem dX10_walk_35 : decode cX10_walk 35 = .ok (.iconst 0, 1) := by decide +kernel
theorem dX10_walk_36 : decode cX10_walk 36 = .ok (.invokevirtual 392, 3) := by decide +kernel
theorem dX10_walk_39 : decode cX10_walk 39 = .ok (.aload_n 0, 1) := by decide +kernel
theorem dX10_walk_40 : decode cX10_walk 40 = .ok (.iconst 2, 1) := by decide +kernel
theorem dX10_walk_41 : decode cX10_walk 41 = .ok (.invokevirtual 380, 3) := by decide +kernel
theorem dX10_walk_44 : decode cX10_walk 44 = .ok (.ifCond .eq 5, 3) := by decide +kernel
theorem dX10_walk_47 : decode cX10_walk 47 = .ok (.iconst 0, 1) := by decide +kernel
theorem dX10_walk_48 : decode cX10_walk 48 = .ok (.ireturn, 1) := by decide +kernel
theorem dX10_walk_49 : decode cX10_walk 49 = .ok (.aload_n 0, 1) := by decide +kernel
theorem dX10_walk_50 : decode cX10_walk 50 = .ok (.getfield 342, 3) := by decide +kernel
theorem dX10_walk_53 : decode cX10_walk 53 = .ok (.ifCond .ne 6, 3) := by decide +kernel
theorem dX10_walk_56 : decode cX10_walk 56 = .ok (.goto 20, 3) := by decide +kernel
theorem dX10_walk_59 : decode cX10_walk 59 = .ok (.aload_n 0, 1) := by decide +kernel
theorem dX10_walk_60 : decode cX10_walk 60 = .ok (.iconst 0, 1) := by decide +kernel
theorem dX10_walk_61 : decode cX10_walk 61 = .ok (.putfield 178, 3) := by decide +kernel
theorem dX10_walk_64 : decode cX10_walk 64 = .ok (.aload_n 0, 1) := by decide +kernel
theorem dX10_walk_65 : decode cX10_walk 65 = .ok (.iconst 0, 1) := by decide +kernel
theorem dX10_walk_66 : decode cX10_walk 66 = .ok (.invokevirtual 398, 3) := by decide +kernel
theorem dX10_walk_69 : decode cX10_walk 69 = .ok (.istore_n 2, 1) := by decide +kernel
theorem dX10_walk_70 : decode cX10_walk 70 = .ok (.iinc 3 1, 3) := by decide +kernel
theorem dX10_walk_73 : decode cX10_walk 73 = .ok (.goto (-50), 3) := by decide +kernel
theorem dX10_walk_76 : decode cX10_walk 76 = .ok (.aload_n 0, 1) := by decide +kernel
theorem dX10_walk_77 : decode cX10_walk 77 = .ok (.iload_n 2, 1) := by decide +kernel
theorem dX10_walk_78 : decode cX10_walk 78 = .ok (.invokevirtual 377, 3) := by decide +kernel
theorem dX10_walk_81 : decode cX10_walk 81 = .ok (.pop, 1) := by decide +kernel
theorem dX10_walk_82 : decode cX10_walk 82 = .ok (.iload_n 3, 1) := by decide +kernel
theorem dX10_walk_83 : decode cX10_walk 83 = .ok (.ireturn, 1) := by decide +kernel
theorem dX10_reachAt_0 : decode cX10_reachAt 0 = .ok (.bipush 21, 2) := by decide +kernel
theorem dX10_reachAt_2 : decode cX10_reachAt 2 = .ok (.bipush 51, 2) := by decide +kernel
theorem dX10_reachAt_4 : decode cX10_reachAt 4 = .ok (.iload_n 1, 1) := by decide +kernel
theorem dX10_reachAt_5 : decode cX10_reachAt 5 = .ok (.imul, 1) := by decide +kernel
theorem dX10_reachAt_6 : decode cX10_reachAt 6 = .ok (.iload_n 2, 1) := by decide +kernel
theorem dX10_reachAt_7 : decode cX10_reachAt 7 = .ok (.iadd, 1) := by decide +kernel
theorem dX10_reachAt_8 : decode cX10_reachAt 8 = .ok (.imul, 1) := by decide +kernel
theorem dX10_reachAt_9 : decode cX10_reachAt 9 = .ok (.ireturn, 1) := by decide +kernel
theorem dX10_beginsReach_0 : decode cX10_beginsReach 0 = .ok (.aload_n 0, 1) := by decide +kernel
theorem dX10_beginsReach_1 : decode cX10_beginsReach 1 = .ok (.iload_n 2, 1) := by decide +kernel
theorem dX10_beginsReach_2 : decode cX10_beginsReach 2 = .ok (.invokevirtual 374, 3) := by decide +kernel
theorem dX10_beginsReach_5 : decode cX10_beginsReach 5 = .ok (.istore_n 3, 1) := by decide +kernel
theorem dX10_beginsReach_6 : decode cX10_beginsReach 6 = .ok (.aload_n 0, 1) := by decide +kernel
theorem dX10_beginsReach_7 : decode cX10_beginsReach 7 = .ok (.getfield 94, 3) := by decide +kernel
theorem dX10_beginsReach_10 : decode cX10_beginsReach 10 = .ok (.iload_n 1, 1) := by decide +kernel
theorem dX10_beginsReach_11 : decode cX10_beginsReach 11 = .ok (.iconst 0, 1) := by decide +kernel
theorem dX10_beginsReach_12 : decode cX10_beginsReach 12 = .ok (.iastore, 1) := by decide +kernel
theorem dX10_beginsReach_13 : decode cX10_beginsReach 13 = .ok (.aload_n 0, 1) := by decide +kernel
theorem dX10_beginsReach_14 : decode cX10_beginsReach 14 = .ok (.getfield 97, 3) := by decide +kernel
theorem dX10_beginsReach_17 : decode cX10_beginsReach 17 = .ok (.iload_n 1, 1) := by decide +kernel
theorem dX10_beginsReach_18 : decode cX10_beginsReach 18 = .ok (.iconst 0, 1) := by decide +kernel
theorem dX10_beginsReach_19 : decode cX10_beginsReach 19 = .ok (.iastore, 1) := by decide +kernel
theorem dX10_beginsReach_20 : decode cX10_beginsReach 20 = .ok (.aload_n 0, 1) := by decide +kernel
theorem dX10_beginsReach_21 : decode cX10_beginsReach 21 = .ok (.iload_n 1, 1) := by decide +kernel
theorem dX10_beginsReach_22 : decode cX10_beginsReach 22 = .ok (.iload_n 3, 1) := by decide +kernel
theorem dX10_beginsReach_23 : decode cX10_beginsReach 23 = .ok (.invokevirtual 401, 3) := by decide +kernel
theorem dX10_beginsReach_26 : decode cX10_beginsReach 26 = .ok (.return_, 1) := by decide +kernel
theorem dX10_reachComes_0 : decode cX10_reachComes 0 = .ok (.aload_n 0, 1) := by decide +kernel
theorem dX10_reachComes_1 : decode cX10_reachComes 1 = .ok (.getfield 178, 3) := by decide +kernel
theorem dX10_reachComes_4 : decode cX10_reachComes 4 = .ok (.istore_n 3, 1) := by decide +kernel
theorem dX10_reachComes_5 : decode cX10_reachComes 5 = .ok (.iconst 1, 1) := by decide +kernel
theorem dX10_reachComes_6 : decode cX10_reachComes 6 = .ok (.istore 4, 2) := by decide +kernel
theorem dX10_reachComes_8 : decode cX10_reachComes 8 = .ok (.aload_n 0, 1) := by decide +kernel
theorem dX10_reachComes_9 : decode cX10_reachComes 9 = .ok (.iload_n 1, 1) := by decide +kernel
theorem dX10_reachComes_10 : decode cX10_reachComes 10 = .ok (.iload_n 2, 1) := by decide +kernel
theorem dX10_reachComes_11 : decode cX10_reachComes 11 = .ok (.invokevirtual 404, 3) := by decide +kernel
theorem dX10_reachComes_14 : decode cX10_reachComes 14 = .ok (.istore 5, 2) := by decide +kernel
theorem dX10_reachComes_16 : decode cX10_reachComes 16 = .ok (.iload 4, 2) := by decide +kernel
theorem dX10_reachComes_18 : decode cX10_reachComes 18 = .ok (.ifCond .le 50, 3) := by decide +kernel
theorem dX10_reachComes_21 : decode cX10_reachComes 21 = .ok (.aload_n 0, 1) := by decide +kernel
theorem dX10_reachComes_22 : decode cX10_reachComes 22 = .ok (.getfield 52, 3) := by decide +kernel
theorem dX10_reachComes_25 : decode cX10_reachComes 25 = .ok (.aload_n 0, 1) := by decide +kernel
theorem dX10_reachComes_26 : decode cX10_reachComes 26 = .ok (.getfield 178, 3) := by decide +kernel
theorem dX10_reachComes_29 : decode cX10_reachComes 29 = .ok (.aload_n 0, 1) := by decide +kernel
theorem dX10_reachComes_30 : decode cX10_reachComes 30 = .ok (.getfield 91, 3) := by decide +kernel
theorem dX10_reachComes_33 : decode cX10_reachComes 33 = .ok (.iload 5, 2) := by decide +kernel
theorem dX10_reachComes_35 : decode cX10_reachComes 35 = .ok (.iaload, 1) := by decide +kernel
theorem dX10_reachComes_36 : decode cX10_reachComes 36 = .ok (.iastore, 1) := by decide +kernel
theorem dX10_reachComes_37 : decode cX10_reachComes 37 = .ok (.iload 4, 2) := by decide +kernel
theorem dX10_reachComes_39 : decode cX10_reachComes 39 = .ok (.aload_n 0, 1) := by decide +kernel
theorem dX10_reachComes_40 : decode cX10_reachComes 40 = .ok (.aload_n 0, 1) := by decide +kernel
theorem dX10_reachComes_41 : decode cX10_reachComes 41 = .ok (.getfield 178, 3) := by decide +kernel
theorem dX10_reachComes_44 : decode cX10_reachComes 44 = .ok (.invokevirtual 209, 3) := by decide +kernel
theorem dX10_reachComes_47 : decode cX10_reachComes 47 = .ok (.iconst 1, 1) := by decide +kernel
theorem dX10_reachComes_48 : decode cX10_reachComes 48 = .ok (.isub, 1) := by decide +kernel
theorem dX10_reachComes_49 : decode cX10_reachComes 49 = .ok (.iadd, 1) := by decide +kernel
theorem dX10_reachComes_50 : decode cX10_reachComes 50 = .ok (.istore 4, 2) := by decide +kernel
theorem dX10_reachComes_52 : decode cX10_reachComes 52 = .ok (.aload_n 0, 1) := by decide +kernel
theorem dX10_reachComes_53 : decode cX10_reachComes 53 = .ok (.dup, 1) := by decide +kernel
theorem dX10_reachComes_54 : decode cX10_reachComes 54 = .ok (.getfield 178, 3) := by decide +kernel
theorem dX10_reachComes_57 : decode cX10_reachComes 57 = .ok (.iconst 1, 1) := by decide +kernel
theorem dX10_reachComes_58 : decode cX10_reachComes 58 = .ok (.iadd, 1) := by decide +kernel
theorem dX10_reachComes_59 : decode cX10_reachComes 59 = .ok (.putfield 178, 3) := by decide +kernel
theorem dX10_reachComes_62 : decode cX10_reachComes 62 = .ok (.iinc 5 1, 3) := by decide +kernel
theorem dX10_reachComes_65 : decode cX10_reachComes 65 = .ok (.goto (-49), 3) := by decide +kernel
theorem dX10_reachComes_68 : decode cX10_reachComes 68 = .ok (.iload_n 3, 1) := by decide +kernel
theorem dX10_reachComes_69 : decode cX10_reachComes 69 = .ok (.ireturn, 1) := by decide +kernel
theorem dX10_isReached_0 : decode cX10_isReached 0 = .ok (.aload_n 0, 1) := by decide +kernel
theorem dX10_isReached_1 : decode cX10_isReached 1 = .ok (.iload_n 2, 1) := by decide +kernel
theorem dX10_isReached_2 : decode cX10_isReached 2 = .ok (.invokevirtual 213, 3) := by decide +kernel
theorem dX10_isReached_5 : decode cX10_isReached 5 = .ok (.istore_n 3, 1) := by decide +kernel
theorem dX10_isReached_6 : decode cX10_isReached 6 = .ok (.iconst 0, 1) := by decide +kernel
theorem dX10_isReached_7 : decode cX10_isReached 7 = .ok (.istore 4, 2) := by decide +kernel
theorem dX10_isReached_9 : decode cX10_isReached 9 = .ok (.iload 4, 2) := by decide +kernel
theorem dX10_isReached_11 : decode cX10_isReached 11 = .ok (.aload_n 0, 1) := by decide +kernel
theorem dX10_isReached_12 : decode cX10_isReached 12 = .ok (.getfield 94, 3) := by decide +kernel
theorem dX10_isReached_15 : decode cX10_isReached 15 = .ok (.iload_n 1, 1) := by decide +kernel
theorem dX10_isReached_16 : decode cX10_isReached 16 = .ok (.iaload, 1) := by decide +kernel
theorem dX10_isReached_17 : decode cX10_isReached 17 = .ok (.if_icmp .ge 73, 3) := by decide +kernel
theorem dX10_isReached_20 : decode cX10_isReached 20 = .ok (.iconst 1, 1) := by decide +kernel
theorem dX10_isReached_21 : decode cX10_isReached 21 = .ok (.istore 5, 2) := by decide +kernel
theorem dX10_isReached_23 : decode cX10_isReached 23 = .ok (.iload_n 2, 1) := by decide +kernel
theorem dX10_isReached_24 : decode cX10_isReached 24 = .ok (.istore 6, 2) := by decide +kernel
theorem dX10_isReached_26 : decode cX10_isReached 26 = .ok (.iload 6, 2) := by decide +kernel
theorem dX10_isReached_28 : decode cX10_isReached 28 = .ok (.iload_n 3, 1) := by decide +kernel
theorem dX10_isReached_29 : decode cX10_isReached 29 = .ok (.if_icmp .ge 48, 3) := by decide +kernel
theorem dX10_isReached_32 : decode cX10_isReached 32 = .ok (.iload 5, 2) := by decide +kernel
theorem dX10_isReached_34 : decode cX10_isReached 34 = .ok (.ifCond .eq 43, 3) := by decide +kernel
theorem dX10_isReached_37 : decode cX10_isReached 37 = .ok (.aload_n 0, 1) := by decide +kernel
theorem dX10_isReached_38 : decode cX10_isReached 38 = .ok (.getfield 91, 3) := by decide +kernel
theorem dX10_isReached_41 : decode cX10_isReached 41 = .ok (.aload_n 0, 1) := by decide +kernel
theorem dX10_isReached_42 : decode cX10_isReached 42 = .ok (.iload_n 1, 1) := by decide +kernel
theorem dX10_isReached_43 : decode cX10_isReached 43 = .ok (.iload 4, 2) := by decide +kernel
theorem dX10_isReached_45 : decode cX10_isReached 45 = .ok (.invokevirtual 404, 3) := by decide +kernel
theorem dX10_isReached_48 : decode cX10_isReached 48 = .ok (.iload 6, 2) := by decide +kernel
theorem dX10_isReached_50 : decode cX10_isReached 50 = .ok (.iadd, 1) := by decide +kernel
theorem dX10_isReached_51 : decode cX10_isReached 51 = .ok (.iload_n 2, 1) := by decide +kernel
theorem dX10_isReached_52 : decode cX10_isReached 52 = .ok (.isub, 1) := by decide +kernel
theorem dX10_isReached_53 : decode cX10_isReached 53 = .ok (.iaload, 1) := by decide +kernel
theorem dX10_isReached_54 : decode cX10_isReached 54 = .ok (.aload_n 0, 1) := by decide +kernel
theorem dX10_isReached_55 : decode cX10_isReached 55 = .ok (.getfield 52, 3) := by decide +kernel
theorem dX10_isReached_58 : decode cX10_isReached 58 = .ok (.iload 6, 2) := by decide +kernel
theorem dX10_isReached_60 : decode cX10_isReached 60 = .ok (.iaload, 1) := by decide +kernel
theorem dX10_isReached_61 : decode cX10_isReached 61 = .ok (.if_icmp .ne 7, 3) := by decide +kernel
theorem dX10_isReached_64 : decode cX10_isReached 64 = .ok (.iconst 1, 1) := by decide +kernel
theorem dX10_isReached_65 : decode cX10_isReached 65 = .ok (.goto 4, 3) := by decide +kernel
theorem dX10_isReached_68 : decode cX10_isReached 68 = .ok (.iconst 0, 1) := by decide +kernel
theorem dX10_isReached_69 : decode cX10_isReached 69 = .ok (.istore 5, 2) := by decide +kernel
theorem dX10_isReached_71 : decode cX10_isReached 71 = .ok (.iinc 6 1, 3) := by decide +kernel
theorem dX10_isReached_74 : decode cX10_isReached 74 = .ok (.goto (-48), 3) := by decide +kernel
theorem dX10_isReached_77 : decode cX10_isReached 77 = .ok (.iload 5, 2) := by decide +kernel
theorem dX10_isReached_79 : decode cX10_isReached 79 = .ok (.ifCond .eq 5, 3) := by decide +kernel
theorem dX10_isReached_82 : decode cX10_isReached 82 = .ok (.iconst 1, 1) := by decide +kernel
theorem dX10_isReached_83 : decode cX10_isReached 83 = .ok (.ireturn, 1) := by decide +kernel
theorem dX10_isReached_84 : decode cX10_isReached 84 = .ok (.iinc 4 1, 3) := by decide +kernel
theorem dX10_isReached_87 : decode cX10_isReached 87 = .ok (.goto (-78), 3) := by decide +kernel
theorem dX10_isReached_90 : decode cX10_isReached 90 = .ok (.iconst 0, 1) := by decide +kernel
theorem dX10_isReached_91 : decode cX10_isReached 91 = .ok (.ireturn, 1) := by decide +kernel
theorem dX10_addsReach_0 : decode cX10_addsReach 0 = .ok (.aload_n 0, 1) := by decide +kernel
theorem dX10_addsReach_1 : decode cX10_addsReach 1 = .ok (.iload_n 1, 1) := by decide +kernel
theorem dX10_addsReach_2 : decode cX10_addsReach 2 = .ok (.iload_n 2, 1) := by decide +kernel
theorem dX10_addsReach_3 : decode cX10_addsReach 3 = .ok (.invokevirtual 407, 3) := by decide +kernel
theorem dX10_addsReach_6 : decode cX10_addsReach 6 = .ok (.ifCond .eq 4, 3) := by decide +kernel
theorem dX10_addsReach_9 : decode cX10_addsReach 9 = .ok (.return_, 1) := by decide +kernel
theorem dX10_addsReach_10 : decode cX10_addsReach 10 = .ok (.aload_n 0, 1) := by decide +kernel
theorem dX10_addsReach_11 : decode cX10_addsReach 11 = .ok (.getfield 94, 3) := by decide +kernel
theorem dX10_addsReach_14 : decode cX10_addsReach 14 = .ok (.iload_n 1, 1) := by decide +kernel
theorem dX10_addsReach_15 : decode cX10_addsReach 15 = .ok (.iaload, 1) := by decide +kernel
theorem dX10_addsReach_16 : decode cX10_addsReach 16 = .ok (.bipush 50, 2) := by decide +kernel
theorem dX10_addsReach_18 : decode cX10_addsReach 18 = .ok (.if_icmp .ne 9, 3) := by decide +kernel
theorem dX10_addsReach_21 : decode cX10_addsReach 21 = .ok (.aload_n 0, 1) := by decide +kernel
theorem dX10_addsReach_22 : decode cX10_addsReach 22 = .ok (.iconst 1, 1) := by decide +kernel
theorem dX10_addsReach_23 : decode cX10_addsReach 23 = .ok (.putfield 296, 3) := by decide +kernel
theorem dX10_addsReach_26 : decode cX10_addsReach 26 = .ok (.return_, 1) := by decide +kernel
theorem dX10_addsReach_27 : decode cX10_addsReach 27 = .ok (.aload_n 0, 1) := by decide +kernel
theorem dX10_addsReach_28 : decode cX10_addsReach 28 = .ok (.iload_n 2, 1) := by decide +kernel
theorem dX10_addsReach_29 : decode cX10_addsReach 29 = .ok (.invokevirtual 213, 3) := by decide +kernel
theorem dX10_addsReach_32 : decode cX10_addsReach 32 = .ok (.istore_n 3, 1) := by decide +kernel
theorem dX10_addsReach_33 : decode cX10_addsReach 33 = .ok (.iload_n 2, 1) := by decide +kernel
theorem dX10_addsReach_34 : decode cX10_addsReach 34 = .ok (.istore 4, 2) := by decide +kernel
theorem dX10_addsReach_36 : decode cX10_addsReach 36 = .ok (.iload 4, 2) := by decide +kernel
theorem dX10_addsReach_38 : decode cX10_addsReach 38 = .ok (.iload_n 3, 1) := by decide +kernel
theorem dX10_addsReach_39 : decode cX10_addsReach 39 = .ok (.if_icmp .ge 37, 3) := by decide +kernel
theorem dX10_addsReach_42 : decode cX10_addsReach 42 = .ok (.aload_n 0, 1) := by decide +kernel
theorem dX10_addsReach_43 : decode cX10_addsReach 43 = .ok (.getfield 91, 3) := by decide +kernel
theorem dX10_addsReach_46 : decode cX10_addsReach 46 = .ok (.aload_n 0, 1) := by decide +kernel
theorem dX10_addsReach_47 : decode cX10_addsReach 47 = .ok (.iload_n 1, 1) := by decide +kernel
theorem dX10_addsReach_48 : decode cX10_addsReach 48 = .ok (.aload_n 0, 1) := by decide +kernel
theorem dX10_addsReach_49 : decode cX10_addsReach 49 = .ok (.getfield 94, 3) := by decide +kernel
theorem dX10_addsReach_52 : decode cX10_addsReach 52 = .ok (.iload_n 1, 1) := by decide +kernel
theorem dX10_addsReach_53 : decode cX10_addsReach 53 = .ok (.iaload, 1) := by decide +kernel
theorem dX10_addsReach_54 : decode cX10_addsReach 54 = .ok (.invokevirtual 404, 3) := by decide +kernel
theorem dX10_addsReach_57 : decode cX10_addsReach 57 = .ok (.iload 4, 2) := by decide +kernel
theorem dX10_addsReach_59 : decode cX10_addsReach 59 = .ok (.iadd, 1) := by decide +kernel
theorem dX10_addsReach_60 : decode cX10_addsReach 60 = .ok (.iload_n 2, 1) := by decide +kernel
theorem dX10_addsReach_61 : decode cX10_addsReach 61 = .ok (.isub, 1) := by decide +kernel
theorem dX10_addsReach_62 : decode cX10_addsReach 62 = .ok (.aload_n 0, 1) := by decide +kernel
theorem dX10_addsReach_63 : decode cX10_addsReach 63 = .ok (.getfield 52, 3) := by decide +kernel
theorem dX10_addsReach_66 : decode cX10_addsReach 66 = .ok (.iload 4, 2) := by decide +kernel
theorem dX10_addsReach_68 : decode cX10_addsReach 68 = .ok (.iaload, 1) := by decide +kernel
theorem dX10_addsReach_69 : decode cX10_addsReach 69 = .ok (.iastore, 1) := by decide +kernel
theorem dX10_addsReach_70 : decode cX10_addsReach 70 = .ok (.iinc 4 1, 3) := by decide +kernel
theorem dX10_addsReach_73 : decode cX10_addsReach 73 = .ok (.goto (-37), 3) := by decide +kernel
theorem dX10_addsReach_76 : decode cX10_addsReach 76 = .ok (.aload_n 0, 1) := by decide +kernel
theorem dX10_addsReach_77 : decode cX10_addsReach 77 = .ok (.getfield 94, 3) := by decide +kernel
theorem dX10_addsReach_80 : decode cX10_addsReach 80 = .ok (.iload_n 1, 1) := by decide +kernel
theorem dX10_addsReach_81 : decode cX10_addsReach 81 = .ok (.dup2, 1) := by decide +kernel
theorem dX10_addsReach_82 : decode cX10_addsReach 82 = .ok (.iaload, 1) := by decide +kernel
theorem dX10_addsReach_83 : decode cX10_addsReach 83 = .ok (.iconst 1, 1) := by decide +kernel
theorem dX10_addsReach_84 : decode cX10_addsReach 84 = .ok (.iadd, 1) := by decide +kernel
theorem dX10_addsReach_85 : decode cX10_addsReach 85 = .ok (.iastore, 1) := by decide +kernel
theorem dX10_addsReach_86 : decode cX10_addsReach 86 = .ok (.return_, 1) := by decide +kernel
theorem dX10_goesReach_0 : decode cX10_goesReach 0 = .ok (.aload_n 0, 1) := by decide +kernel
theorem dX10_goesReach_1 : decode cX10_goesReach 1 = .ok (.getfield 94, 3) := by decide +kernel
theorem dX10_goesReach_4 : decode cX10_goesReach 4 = .ok (.iload_n 1, 1) := by decide +kernel
theorem dX10_goesReach_5 : decode cX10_goesReach 5 = .ok (.iaload, 1) := by decide +kernel
theorem dX10_goesReach_6 : decode cX10_goesReach 6 = .ok (.istore_n 2, 1) := by decide +kernel
theorem dX10_goesReach_7 : decode cX10_goesReach 7 = .ok (.aload_n 0, 1) := by decide +kernel
theorem dX10_goesReach_8 : decode cX10_goesReach 8 = .ok (.getfield 97, 3) := by decide +kernel
theorem dX10_goesReach_11 : decode cX10_goesReach 11 = .ok (.iload_n 1, 1) := by decide +kernel
theorem dX10_goesReach_12 : decode cX10_goesReach 12 = .ok (.iaload, 1) := by decide +kernel
theorem dX10_goesReach_13 : decode cX10_goesReach 13 = .ok (.istore_n 3, 1) := by decide +kernel
theorem dX10_goesReach_14 : decode cX10_goesReach 14 = .ok (.iload_n 3, 1) := by decide +kernel
theorem dX10_goesReach_15 : decode cX10_goesReach 15 = .ok (.iload_n 2, 1) := by decide +kernel
theorem dX10_goesReach_16 : decode cX10_goesReach 16 = .ok (.if_icmp .ge 84, 3) := by decide +kernel
theorem dX10_goesReach_19 : decode cX10_goesReach 19 = .ok (.aload_n 0, 1) := by decide +kernel
theorem dX10_goesReach_20 : decode cX10_goesReach 20 = .ok (.getfield 296, 3) := by decide +kernel
theorem dX10_goesReach_23 : decode cX10_goesReach 23 = .ok (.ifCond .ne 77, 3) := by decide +kernel
theorem dX10_goesReach_26 : decode cX10_goesReach 26 = .ok (.aload_n 0, 1) := by decide +kernel
theorem dX10_goesReach_27 : decode cX10_goesReach 27 = .ok (.iconst 0, 1) := by decide +kernel
theorem dX10_goesReach_28 : decode cX10_goesReach 28 = .ok (.putfield 178, 3) := by decide +kernel
theorem dX10_goesReach_31 : decode cX10_goesReach 31 = .ok (.aload_n 0, 1) := by decide +kernel
theorem dX10_goesReach_32 : decode cX10_goesReach 32 = .ok (.aload_n 0, 1) := by decide +kernel
theorem dX10_goesReach_33 : decode cX10_goesReach 33 = .ok (.iload_n 1, 1) := by decide +kernel
theorem dX10_goesReach_34 : decode cX10_goesReach 34 = .ok (.iload_n 3, 1) := by decide +kernel
theorem dX10_goesReach_35 : decode cX10_goesReach 35 = .ok (.invokevirtual 410, 3) := by decide +kernel
theorem dX10_goesReach_38 : decode cX10_goesReach 38 = .ok (.aload_n 0, 1) := by decide +kernel
theorem dX10_goesReach_39 : decode cX10_goesReach 39 = .ok (.invokevirtual 389, 3) := by decide +kernel
theorem dX10_goesReach_42 : decode cX10_goesReach 42 = .ok (.iconst 0, 1) := by decide +kernel
theorem dX10_goesReach_43 : decode cX10_goesReach 43 = .ok (.invokevirtual 392, 3) := by decide +kernel
theorem dX10_goesReach_46 : decode cX10_goesReach 46 = .ok (.aload_n 0, 1) := by decide +kernel
theorem dX10_goesReach_47 : decode cX10_goesReach 47 = .ok (.getfield 178, 3) := by decide +kernel
theorem dX10_goesReach_50 : decode cX10_goesReach 50 = .ok (.istore 4, 2) := by decide +kernel
theorem dX10_goesReach_52 : decode cX10_goesReach 52 = .ok (.iconst 0, 1) := by decide +kernel
theorem dX10_goesReach_53 : decode cX10_goesReach 53 = .ok (.istore 5, 2) := by decide +kernel
theorem dX10_goesReach_55 : decode cX10_goesReach 55 = .ok (.iload 5, 2) := by decide +kernel
theorem dX10_goesReach_57 : decode cX10_goesReach 57 = .ok (.aload_n 0, 1) := by decide +kernel
theorem dX10_goesReach_58 : decode cX10_goesReach 58 = .ok (.getfield 342, 3) := by decide +kernel
theorem dX10_goesReach_61 : decode cX10_goesReach 61 = .ok (.if_icmp .ge 33, 3) := by decide +kernel
theorem dX10_goesReach_64 : decode cX10_goesReach 64 = .ok (.aload_n 0, 1) := by decide +kernel
theorem dX10_goesReach_65 : decode cX10_goesReach 65 = .ok (.getfield 296, 3) := by decide +kernel
theorem dX10_goesReach_68 : decode cX10_goesReach 68 = .ok (.ifCond .ne 26, 3) := by decide +kernel
theorem dX10_goesReach_71 : decode cX10_goesReach 71 = .ok (.aload_n 0, 1) := by decide +kernel
theorem dX10_goesReach_72 : decode cX10_goesReach 72 = .ok (.iload_n 1, 1) := by decide +kernel
theorem dX10_goesReach_73 : decode cX10_goesReach 73 = .ok (.aload_n 0, 1) := by decide +kernel
theorem dX10_goesReach_74 : decode cX10_goesReach 74 = .ok (.iload 5, 2) := by decide +kernel
theorem dX10_goesReach_76 : decode cX10_goesReach 76 = .ok (.invokevirtual 398, 3) := by decide +kernel
theorem dX10_goesReach_79 : decode cX10_goesReach 79 = .ok (.invokevirtual 401, 3) := by decide +kernel
theorem dX10_goesReach_82 : decode cX10_goesReach 82 = .ok (.aload_n 0, 1) := by decide +kernel
theorem dX10_goesReach_83 : decode cX10_goesReach 83 = .ok (.iload 4, 2) := by decide +kernel
theorem dX10_goesReach_85 : decode cX10_goesReach 85 = .ok (.putfield 178, 3) := by decide +kernel
theorem dX10_goesReach_88 : decode cX10_goesReach 88 = .ok (.iinc 5 1, 3) := by decide +kernel
theorem dX10_goesReach_91 : decode cX10_goesReach 91 = .ok (.goto (-36), 3) := by decide +kernel
theorem dX10_goesReach_94 : decode cX10_goesReach 94 = .ok (.iinc 3 1, 3) := by decide +kernel
theorem dX10_goesReach_97 : decode cX10_goesReach 97 = .ok (.goto (-83), 3) := by decide +kernel
theorem dX10_goesReach_100 : decode cX10_goesReach 100 = .ok (.aload_n 0, 1) := by decide +kernel
theorem dX10_goesReach_101 : decode cX10_goesReach 101 = .ok (.getfield 97, 3) := by decide +kernel
theorem dX10_goesReach_104 : decode cX10_goesReach 104 = .ok (.iload_n 1, 1) := by decide +kernel
theorem dX10_goesReach_105 : decode cX10_goesReach 105 = .ok (.iload_n 2, 1) := by decide +kernel
theorem dX10_goesReach_106 : decode cX10_goesReach 106 = .ok (.iastore, 1) := by decide +kernel
theorem dX10_goesReach_107 : decode cX10_goesReach 107 = .ok (.return_, 1) := by decide +kernel
theorem dX10_laysReach_0 : decode cX10_laysReach 0 = .ok (.aload_n 0, 1) := by decide +kernel
theorem dX10_laysReach_1 : decode cX10_laysReach 1 = .ok (.iconst 0, 1) := by decide +kernel
theorem dX10_laysReach_2 : decode cX10_laysReach 2 = .ok (.iload_n 1, 1) := by decide +kernel
theorem dX10_laysReach_3 : decode cX10_laysReach 3 = .ok (.invokevirtual 413, 3) := by decide +kernel
theorem dX10_laysReach_6 : decode cX10_laysReach 6 = .ok (.iconst 0, 1) := by decide +kernel
theorem dX10_laysReach_7 : decode cX10_laysReach 7 = .ok (.istore 5, 2) := by decide +kernel
theorem dX10_laysReach_9 : decode cX10_laysReach 9 = .ok (.iload 5, 2) := by decide +kernel
theorem dX10_laysReach_11 : decode cX10_laysReach 11 = .ok (.iload_n 2, 1) := by decide +kernel
theorem dX10_laysReach_12 : decode cX10_laysReach 12 = .ok (.if_icmp .ge 21, 3) := by decide +kernel
theorem dX10_laysReach_15 : decode cX10_laysReach 15 = .ok (.aload_n 0, 1) := by decide +kernel
theorem dX10_laysReach_16 : decode cX10_laysReach 16 = .ok (.getfield 296, 3) := by decide +kernel
theorem dX10_laysReach_19 : decode cX10_laysReach 19 = .ok (.ifCond .ne 14, 3) := by decide +kernel
theorem dX10_laysReach_22 : decode cX10_laysReach 22 = .ok (.aload_n 0, 1) := by decide +kernel
theorem dX10_laysReach_23 : decode cX10_laysReach 23 = .ok (.iconst 0, 1) := by decide +kernel
theorem dX10_laysReach_24 : decode cX10_laysReach 24 = .ok (.invokevirtual 416, 3) := by decide +kernel
theorem dX10_laysReach_27 : decode cX10_laysReach 27 = .ok (.iinc 5 1, 3) := by decide +kernel
theorem dX10_laysReach_30 : decode cX10_laysReach 30 = .ok (.goto (-21), 3) := by decide +kernel
theorem dX10_laysReach_33 : decode cX10_laysReach 33 = .ok (.aload_n 0, 1) := by decide +kernel
