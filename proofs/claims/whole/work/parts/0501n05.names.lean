theorem dX8_compare_39 : decode cX8_compare 39 = .ok (.sipush 1024, 3) := by decide +kernel
theorem dX8_compare_42 : decode cX8_compare 42 = .ok (.if_icmp .lt 10, 3) := by decide +kernel
theorem dX8_compare_45 : decode cX8_compare 45 = .ok (.iload_n 3, 1) := by decide +kernel
theorem dX8_compare_46 : decode cX8_compare 46 = .ok (.iload 4, 2) := by decide +kernel
theorem dX8_compare_48 : decode cX8_compare 48 = .ok (.invokestatic 109, 3) := by decide +kernel
theorem dX8_compare_51 : decode cX8_compare 51 = .ok (.ireturn, 1) := by decide +kernel
theorem dX8_compare_52 : decode cX8_compare 52 = .ok (.aload_n 0, 1) := by decide +kernel
theorem dX8_compare_53 : decode cX8_compare 53 = .ok (.getfield 11, 3) := by decide +kernel
theorem dX8_compare_56 : decode cX8_compare 56 = .ok (.iload_n 3, 1) := by decide +kernel
theorem dX8_compare_57 : decode cX8_compare 57 = .ok (.iaload, 1) := by decide +kernel
theorem dX8_compare_58 : decode cX8_compare 58 = .ok (.aload_n 0, 1) := by decide +kernel
theorem dX8_compare_59 : decode cX8_compare 59 = .ok (.getfield 11, 3) := by decide +kernel
theorem dX8_compare_62 : decode cX8_compare 62 = .ok (.iload 4, 2) := by decide +kernel
theorem dX8_compare_64 : decode cX8_compare 64 = .ok (.iaload, 1) := by decide +kernel
theorem dX8_compare_65 : decode cX8_compare 65 = .ok (.if_icmp .eq 25, 3) := by decide +kernel
theorem dX8_compare_68 : decode cX8_compare 68 = .ok (.aload_n 0, 1) := by decide +kernel
theorem dX8_compare_69 : decode cX8_compare 69 = .ok (.getfield 11, 3) := by decide +kernel
theorem dX8_compare_72 : decode cX8_compare 72 = .ok (.iload_n 3, 1) := by decide +kernel
theorem dX8_compare_73 : decode cX8_compare 73 = .ok (.iaload, 1) := by decide +kernel
theorem dX8_compare_74 : decode cX8_compare 74 = .ok (.aload_n 0, 1) := by decide +kernel
theorem dX8_compare_75 : decode cX8_compare 75 = .ok (.getfield 11, 3) := by decide +kernel
theorem dX8_compare_78 : decode cX8_compare 78 = .ok (.iload 4, 2) := by decide +kernel
theorem dX8_compare_80 : decode cX8_compare 80 = .ok (.iaload, 1) := by decide +kernel
theorem dX8_compare_81 : decode cX8_compare 81 = .ok (.if_icmp .ge 7, 3) := by decide +kernel
theorem dX8_compare_84 : decode cX8_compare 84 = .ok (.iconst (-1), 1) := by decide +kernel
theorem dX8_compare_85 : decode cX8_compare 85 = .ok (.goto 4, 3) := by decide +kernel
theorem dX8_compare_88 : decode cX8_compare 88 = .ok (.iconst 1, 1) := by decide +kernel
theorem dX8_compare_89 : decode cX8_compare 89 = .ok (.ireturn, 1) := by decide +kernel
theorem dX8_compare_90 : decode cX8_compare 90 = .ok (.iconst 0, 1) := by decide +kernel
theorem dX8_compare_91 : decode cX8_compare 91 = .ok (.istore 6, 2) := by decide +kernel
theorem dX8_compare_93 : decode cX8_compare 93 = .ok (.iload 6, 2) := by decide +kernel
theorem dX8_compare_95 : decode cX8_compare 95 = .ok (.iconst 5, 1) := by decide +kernel
theorem dX8_compare_96 : decode cX8_compare 96 = .ok (.if_icmp .ge 37, 3) := by decide +kernel
theorem dX8_compare_99 : decode cX8_compare 99 = .ok (.aload_n 0, 1) := by decide +kernel
theorem dX8_compare_100 : decode cX8_compare 100 = .ok (.getfield 21, 3) := by decide +kernel
theorem dX8_compare_103 : decode cX8_compare 103 = .ok (.iload_n 3, 1) := by decide +kernel
theorem dX8_compare_104 : decode cX8_compare 104 = .ok (.bipush 6, 2) := by decide +kernel
theorem dX8_compare_106 : decode cX8_compare 106 = .ok (.imul, 1) := by decide +kernel
theorem dX8_compare_107 : decode cX8_compare 107 = .ok (.iload 6, 2) := by decide +kernel
theorem dX8_compare_109 : decode cX8_compare 109 = .ok (.iadd, 1) := by decide +kernel
theorem dX8_compare_110 : decode cX8_compare 110 = .ok (.iaload, 1) := by decide +kernel
theorem dX8_compare_111 : decode cX8_compare 111 = .ok (.aload_n 0, 1) := by decide +kernel
theorem dX8_compare_112 : decode cX8_compare 112 = .ok (.getfield 21, 3) := by decide +kernel
theorem dX8_compare_115 : decode cX8_compare 115 = .ok (.iload 4, 2) := by decide +kernel
theorem dX8_compare_117 : decode cX8_compare 117 = .ok (.bipush 6, 2) := by decide +kernel
theorem dX8_compare_119 : decode cX8_compare 119 = .ok (.imul, 1) := by decide +kernel
theorem dX8_compare_120 : decode cX8_compare 120 = .ok (.iload 6, 2) := by decide +kernel
theorem dX8_compare_122 : decode cX8_compare 122 = .ok (.iadd, 1) := by decide +kernel
theorem dX8_compare_123 : decode cX8_compare 123 = .ok (.iaload, 1) := by decide +kernel
theorem dX8_compare_124 : decode cX8_compare 124 = .ok (.if_icmp .ne 9, 3) := by decide +kernel
theorem dX8_compare_127 : decode cX8_compare 127 = .ok (.iinc 6 1, 3) := by decide +kernel
theorem dX8_compare_130 : decode cX8_compare 130 = .ok (.goto (-37), 3) := by decide +kernel
theorem dX8_compare_133 : decode cX8_compare 133 = .ok (.aload_n 0, 1) := by decide +kernel
theorem dX8_compare_134 : decode cX8_compare 134 = .ok (.getfield 21, 3) := by decide +kernel
theorem dX8_compare_137 : decode cX8_compare 137 = .ok (.iload_n 3, 1) := by decide +kernel
theorem dX8_compare_138 : decode cX8_compare 138 = .ok (.bipush 6, 2) := by decide +kernel
theorem dX8_compare_140 : decode cX8_compare 140 = .ok (.imul, 1) := by decide +kernel
theorem dX8_compare_141 : decode cX8_compare 141 = .ok (.iload 6, 2) := by decide +kernel
theorem dX8_compare_143 : decode cX8_compare 143 = .ok (.iadd, 1) := by decide +kernel
theorem dX8_compare_144 : decode cX8_compare 144 = .ok (.iaload, 1) := by decide +kernel
theorem dX8_compare_145 : decode cX8_compare 145 = .ok (.istore_n 3, 1) := by decide +kernel
theorem dX8_compare_146 : decode cX8_compare 146 = .ok (.aload_n 0, 1) := by decide +kernel
theorem dX8_compare_147 : decode cX8_compare 147 = .ok (.getfield 21, 3) := by decide +kernel
theorem dX8_compare_150 : decode cX8_compare 150 = .ok (.iload 4, 2) := by decide +kernel
theorem dX8_compare_152 : decode cX8_compare 152 = .ok (.bipush 6, 2) := by decide +kernel
theorem dX8_compare_154 : decode cX8_compare 154 = .ok (.imul, 1) := by decide +kernel
theorem dX8_compare_155 : decode cX8_compare 155 = .ok (.iload 6, 2) := by decide +kernel
theorem dX8_compare_157 : decode cX8_compare 157 = .ok (.iadd, 1) := by decide +kernel
theorem dX8_compare_158 : decode cX8_compare 158 = .ok (.iaload, 1) := by decide +kernel
theorem dX8_compare_159 : decode cX8_compare 159 = .ok (.istore 4, 2) := by decide +kernel
theorem dX8_compare_161 : decode cX8_compare 161 = .ok (.iinc 5 1, 3) := by decide +kernel
theorem dX8_compare_164 : decode cX8_compare 164 = .ok (.goto (-156), 3) := by decide +kernel
theorem dX8_compare_167 : decode cX8_compare 167 = .ok (.iconst 0, 1) := by decide +kernel
theorem dX8_compare_168 : decode cX8_compare 168 = .ok (.ireturn, 1) := by decide +kernel
theorem dX8_begin_0 : decode cX8_begin 0 = .ok (.aload_n 0, 1) := by decide +kernel
theorem dX8_begin_1 : decode cX8_begin 1 = .ok (.iconst 0, 1) := by decide +kernel
theorem dX8_begin_2 : decode cX8_begin 2 = .ok (.putfield 114, 3) := by decide +kernel
theorem dX8_begin_5 : decode cX8_begin 5 = .ok (.aload_n 0, 1) := by decide +kernel
theorem dX8_begin_6 : decode cX8_begin 6 = .ok (.iconst 0, 1) := by decide +kernel
theorem dX8_begin_7 : decode cX8_begin 7 = .ok (.putfield 117, 3) := by decide +kernel
theorem dX8_begin_10 : decode cX8_begin 10 = .ok (.aload_n 0, 1) := by decide +kernel
theorem dX8_begin_11 : decode cX8_begin 11 = .ok (.iload_n 1, 1) := by decide +kernel
theorem dX8_begin_12 : decode cX8_begin 12 = .ok (.putfield 121, 3) := by decide +kernel
theorem dX8_begin_15 : decode cX8_begin 15 = .ok (.aload_n 0, 1) := by decide +kernel
theorem dX8_begin_16 : decode cX8_begin 16 = .ok (.aload_n 0, 1) := by decide +kernel
theorem dX8_begin_17 : decode cX8_begin 17 = .ok (.getfield 46, 3) := by decide +kernel
theorem dX8_begin_20 : decode cX8_begin 20 = .ok (.iload_n 1, 1) := by decide +kernel
theorem dX8_begin_21 : decode cX8_begin 21 = .ok (.invokevirtual 77, 3) := by decide +kernel
theorem dX8_begin_24 : decode cX8_begin 24 = .ok (.putfield 124, 3) := by decide +kernel
theorem dX8_begin_27 : decode cX8_begin 27 = .ok (.aload_n 0, 1) := by decide +kernel
theorem dX8_begin_28 : decode cX8_begin 28 = .ok (.aload_n 0, 1) := by decide +kernel
theorem dX8_begin_29 : decode cX8_begin 29 = .ok (.getfield 124, 3) := by decide +kernel
theorem dX8_begin_32 : decode cX8_begin 32 = .ok (.iconst 2, 1) := by decide +kernel
theorem dX8_begin_33 : decode cX8_begin 33 = .ok (.if_icmp .ne 14, 3) := by decide +kernel
theorem dX8_begin_36 : decode cX8_begin 36 = .ok (.aload_n 0, 1) := by decide +kernel
theorem dX8_begin_37 : decode cX8_begin 37 = .ok (.getfield 46, 3) := by decide +kernel
theorem dX8_begin_40 : decode cX8_begin 40 = .ok (.iload_n 1, 1) := by decide +kernel
theorem dX8_begin_41 : decode cX8_begin 41 = .ok (.invokevirtual 88, 3) := by decide +kernel
theorem dX8_begin_44 : decode cX8_begin 44 = .ok (.goto 4, 3) := by decide +kernel
theorem dX8_begin_47 : decode cX8_begin 47 = .ok (.iconst (-1), 1) := by decide +kernel
theorem dX8_begin_48 : decode cX8_begin 48 = .ok (.putfield 127, 3) := by decide +kernel
theorem dX8_begin_51 : decode cX8_begin 51 = .ok (.return_, 1) := by decide +kernel
theorem dX8_lay_0 : decode cX8_lay 0 = .ok (.iload_n 1, 1) := by decide +kernel
theorem dX8_lay_1 : decode cX8_lay 1 = .ok (.ifCond .lt 18, 3) := by decide +kernel
theorem dX8_lay_4 : decode cX8_lay 4 = .ok (.iload_n 1, 1) := by decide +kernel
theorem dX8_lay_5 : decode cX8_lay 5 = .ok (.aload_n 0, 1) := by decide +kernel
theorem dX8_lay_6 : decode cX8_lay 6 = .ok (.getfield 58, 3) := by decide +kernel
theorem dX8_lay_9 : decode cX8_lay 9 = .ok (.if_icmp .ge 10, 3) := by decide +kernel
theorem dX8_lay_12 : decode cX8_lay 12 = .ok (.iload_n 1, 1) := by decide +kernel
theorem dX8_lay_13 : decode cX8_lay 13 = .ok (.sipush 1024, 3) := by decide +kernel
theorem dX8_lay_16 : decode cX8_lay 16 = .ok (.if_icmp .lt 9, 3) := by decide +kernel
theorem dX8_lay_19 : decode cX8_lay 19 = .ok (.aload_n 0, 1) := by decide +kernel
theorem dX8_lay_20 : decode cX8_lay 20 = .ok (.iconst 1, 1) := by decide +kernel
theorem dX8_lay_21 : decode cX8_lay 21 = .ok (.putfield 117, 3) := by decide +kernel
theorem dX8_lay_24 : decode cX8_lay 24 = .ok (.return_, 1) := by decide +kernel
theorem dX8_lay_25 : decode cX8_lay 25 = .ok (.aload_n 0, 1) := by decide +kernel
theorem dX8_lay_26 : decode cX8_lay 26 = .ok (.getfield 11, 3) := by decide +kernel
theorem dX8_lay_29 : decode cX8_lay 29 = .ok (.iload_n 1, 1) := by decide +kernel
theorem dX8_lay_30 : decode cX8_lay 30 = .ok (.iaload, 1) := by decide +kernel
theorem dX8_lay_31 : decode cX8_lay 31 = .ok (.istore_n 2, 1) := by decide +kernel
theorem dX8_lay_32 : decode cX8_lay 32 = .ok (.aload_n 0, 1) := by decide +kernel
theorem dX8_lay_33 : decode cX8_lay 33 = .ok (.getfield 124, 3) := by decide +kernel
theorem dX8_lay_36 : decode cX8_lay 36 = .ok (.iconst 2, 1) := by decide +kernel
theorem dX8_lay_37 : decode cX8_lay 37 = .ok (.if_icmp .ne 19, 3) := by decide +kernel
theorem dX8_lay_40 : decode cX8_lay 40 = .ok (.iload_n 2, 1) := by decide +kernel
theorem dX8_lay_41 : decode cX8_lay 41 = .ok (.iconst 3, 1) := by decide +kernel
theorem dX8_lay_42 : decode cX8_lay 42 = .ok (.ishr, 1) := by decide +kernel
theorem dX8_lay_43 : decode cX8_lay 43 = .ok (.aload_n 0, 1) := by decide +kernel
theorem dX8_lay_44 : decode cX8_lay 44 = .ok (.getfield 121, 3) := by decide +kernel
theorem dX8_lay_47 : decode cX8_lay 47 = .ok (.iconst 1, 1) := by decide +kernel
theorem dX8_lay_48 : decode cX8_lay 48 = .ok (.iadd, 1) := by decide +kernel
theorem dX8_lay_49 : decode cX8_lay 49 = .ok (.if_icmp .ne 7, 3) := by decide +kernel
theorem dX8_lay_52 : decode cX8_lay 52 = .ok (.iconst 1, 1) := by decide +kernel
theorem dX8_lay_53 : decode cX8_lay 53 = .ok (.goto 4, 3) := by decide +kernel
theorem dX8_lay_56 : decode cX8_lay 56 = .ok (.iconst 0, 1) := by decide +kernel
theorem dX8_lay_57 : decode cX8_lay 57 = .ok (.istore_n 3, 1) := by decide +kernel
theorem dX8_lay_58 : decode cX8_lay 58 = .ok (.iload_n 2, 1) := by decide +kernel
theorem dX8_lay_59 : decode cX8_lay 59 = .ok (.aload_n 0, 1) := by decide +kernel
theorem dX8_lay_60 : decode cX8_lay 60 = .ok (.getfield 127, 3) := by decide +kernel
theorem dX8_lay_63 : decode cX8_lay 63 = .ok (.if_icmp .ne 4, 3) := by decide +kernel
theorem dX8_lay_66 : decode cX8_lay 66 = .ok (.return_, 1) := by decide +kernel
theorem dX8_lay_67 : decode cX8_lay 67 = .ok (.iload_n 3, 1) := by decide +kernel
theorem dX8_lay_68 : decode cX8_lay 68 = .ok (.ifCond .eq 10, 3) := by decide +kernel
theorem dX8_lay_71 : decode cX8_lay 71 = .ok (.iload_n 2, 1) := by decide +kernel
theorem dX8_lay_72 : decode cX8_lay 72 = .ok (.bipush 7, 2) := by decide +kernel
theorem dX8_lay_74 : decode cX8_lay 74 = .ok (.iand, 1) := by decide +kernel
theorem dX8_lay_75 : decode cX8_lay 75 = .ok (.goto 4, 3) := by decide +kernel
theorem dX8_lay_78 : decode cX8_lay 78 = .ok (.iconst 1, 1) := by decide +kernel
theorem dX8_lay_79 : decode cX8_lay 79 = .ok (.istore 4, 2) := by decide +kernel
theorem dX8_lay_81 : decode cX8_lay 81 = .ok (.iconst 0, 1) := by decide +kernel
theorem dX8_lay_82 : decode cX8_lay 82 = .ok (.istore 5, 2) := by decide +kernel
theorem dX8_lay_84 : decode cX8_lay 84 = .ok (.iload 5, 2) := by decide +kernel
theorem dX8_lay_86 : decode cX8_lay 86 = .ok (.iload 4, 2) := by decide +kernel
theorem dX8_lay_88 : decode cX8_lay 88 = .ok (.if_icmp .ge 137, 3) := by decide +kernel
theorem dX8_lay_91 : decode cX8_lay 91 = .ok (.iload 5, 2) := by decide +kernel
theorem dX8_lay_93 : decode cX8_lay 93 = .ok (.bipush 6, 2) := by decide +kernel
theorem dX8_lay_95 : decode cX8_lay 95 = .ok (.if_icmp .ge 130, 3) := by decide +kernel
theorem dX8_lay_98 : decode cX8_lay 98 = .ok (.iload_n 3, 1) := by decide +kernel
theorem dX8_lay_99 : decode cX8_lay 99 = .ok (.ifCond .eq 18, 3) := by decide +kernel
theorem dX8_lay_102 : decode cX8_lay 102 = .ok (.aload_n 0, 1) := by decide +kernel
theorem dX8_lay_103 : decode cX8_lay 103 = .ok (.getfield 21, 3) := by decide +kernel
theorem dX8_lay_106 : decode cX8_lay 106 = .ok (.iload_n 1, 1) := by decide +kernel
theorem dX8_lay_107 : decode cX8_lay 107 = .ok (.bipush 6, 2) := by decide +kernel
theorem dX8_lay_109 : decode cX8_lay 109 = .ok (.imul, 1) := by decide +kernel
theorem dX8_lay_110 : decode cX8_lay 110 = .ok (.iload 5, 2) := by decide +kernel
theorem dX8_lay_112 : decode cX8_lay 112 = .ok (.iadd, 1) := by decide +kernel
theorem dX8_lay_113 : decode cX8_lay 113 = .ok (.iaload, 1) := by decide +kernel
theorem dX8_lay_114 : decode cX8_lay 114 = .ok (.goto 4, 3) := by decide +kernel
theorem dX8_lay_117 : decode cX8_lay 117 = .ok (.iload_n 1, 1) := by decide +kernel
theorem dX8_lay_118 : decode cX8_lay 118 = .ok (.istore 6, 2) := by decide +kernel
theorem dX8_lay_120 : decode cX8_lay 120 = .ok (.aload_n 0, 1) := by decide +kernel
theorem dX8_lay_121 : decode cX8_lay 121 = .ok (.getfield 114, 3) := by decide +kernel
theorem dX8_lay_124 : decode cX8_lay 124 = .ok (.ifCond .lt 12, 3) := by decide +kernel
theorem dX8_lay_127 : decode cX8_lay 127 = .ok (.aload_n 0, 1) := by decide +kernel
theorem dX8_lay_128 : decode cX8_lay 128 = .ok (.getfield 114, 3) := by decide +kernel
theorem dX8_lay_131 : decode cX8_lay 131 = .ok (.bipush 6, 2) := by decide +kernel
theorem dX8_lay_133 : decode cX8_lay 133 = .ok (.if_icmp .lt 9, 3) := by decide +kernel
theorem dX8_lay_136 : decode cX8_lay 136 = .ok (.aload_n 0, 1) := by decide +kernel
theorem dX8_lay_137 : decode cX8_lay 137 = .ok (.iconst 1, 1) := by decide +kernel
theorem dX8_lay_138 : decode cX8_lay 138 = .ok (.putfield 117, 3) := by decide +kernel
theorem dX8_lay_141 : decode cX8_lay 141 = .ok (.return_, 1) := by decide +kernel
theorem dX8_lay_142 : decode cX8_lay 142 = .ok (.aload_n 0, 1) := by decide +kernel
theorem dX8_lay_143 : decode cX8_lay 143 = .ok (.getfield 114, 3) := by decide +kernel
theorem dX8_lay_146 : decode cX8_lay 146 = .ok (.istore 7, 2) := by decide +kernel
theorem dX8_lay_148 : decode cX8_lay 148 = .ok (.iload 7, 2) := by decide +kernel
theorem dX8_lay_150 : decode cX8_lay 150 = .ok (.ifCond .le 50, 3) := by decide +kernel
theorem dX8_lay_153 : decode cX8_lay 153 = .ok (.aload_n 0, 1) := by decide +kernel
theorem dX8_lay_154 : decode cX8_lay 154 = .ok (.getfield 124, 3) := by decide +kernel
theorem dX8_lay_157 : decode cX8_lay 157 = .ok (.ifCond .eq 43, 3) := by decide +kernel
theorem dX8_lay_160 : decode cX8_lay 160 = .ok (.aload_n 0, 1) := by decide +kernel
theorem dX8_lay_161 : decode cX8_lay 161 = .ok (.aload_n 0, 1) := by decide +kernel
theorem dX8_lay_162 : decode cX8_lay 162 = .ok (.getfield 40, 3) := by decide +kernel
theorem dX8_lay_165 : decode cX8_lay 165 = .ok (.iload 7, 2) := by decide +kernel
theorem dX8_lay_167 : decode cX8_lay 167 = .ok (.iconst 1, 1) := by decide +kernel
theorem dX8_lay_168 : decode cX8_lay 168 = .ok (.isub, 1) := by decide +kernel
theorem dX8_lay_169 : decode cX8_lay 169 = .ok (.iaload, 1) := by decide +kernel
theorem dX8_lay_170 : decode cX8_lay 170 = .ok (.iload 6, 2) := by decide +kernel
theorem dX8_lay_172 : decode cX8_lay 172 = .ok (.invokevirtual 130, 3) := by decide +kernel
theorem dX8_lay_175 : decode cX8_lay 175 = .ok (.ifCond .le 25, 3) := by decide +kernel
theorem dX8_lay_178 : decode cX8_lay 178 = .ok (.aload_n 0, 1) := by decide +kernel
theorem dX8_lay_179 : decode cX8_lay 179 = .ok (.getfield 40, 3) := by decide +kernel
theorem dX8_lay_182 : decode cX8_lay 182 = .ok (.iload 7, 2) := by decide +kernel
theorem dX8_lay_184 : decode cX8_lay 184 = .ok (.aload_n 0, 1) := by decide +kernel
theorem dX8_lay_185 : decode cX8_lay 185 = .ok (.getfield 40, 3) := by decide +kernel
theorem dX8_lay_188 : decode cX8_lay 188 = .ok (.iload 7, 2) := by decide +kernel
theorem dX8_lay_190 : decode cX8_lay 190 = .ok (.iconst 1, 1) := by decide +kernel
theorem dX8_lay_191 : decode cX8_lay 191 = .ok (.isub, 1) := by decide +kernel
theorem dX8_lay_192 : decode cX8_lay 192 = .ok (.iaload, 1) := by decide +kernel
theorem dX8_lay_193 : decode cX8_lay 193 = .ok (.iastore, 1) := by decide +kernel
theorem dX8_lay_194 : decode cX8_lay 194 = .ok (.iinc 7 (-1), 3) := by decide +kernel
theorem dX8_lay_197 : decode cX8_lay 197 = .ok (.goto (-49), 3) := by decide +kernel
theorem dX8_lay_200 : decode cX8_lay 200 = .ok (.aload_n 0, 1) := by decide +kernel
theorem dX8_lay_201 : decode cX8_lay 201 = .ok (.getfield 40, 3) := by decide +kernel
theorem dX8_lay_204 : decode cX8_lay 204 = .ok (.iload 7, 2) := by decide +kernel
theorem dX8_lay_206 : decode cX8_lay 206 = .ok (.iload 6, 2) := by decide +kernel
theorem dX8_lay_208 : decode cX8_lay 208 = .ok (.iastore, 1) := by decide +kernel
theorem dX8_lay_209 : decode cX8_lay 209 = .ok (.aload_n 0, 1) := by decide +kernel
theorem dX8_lay_210 : decode cX8_lay 210 = .ok (.dup, 1) := by decide +kernel
theorem dX8_lay_211 : decode cX8_lay 211 = .ok (.getfield 114, 3) := by decide +kernel
theorem dX8_lay_214 : decode cX8_lay 214 = .ok (.iconst 1, 1) := by decide +kernel
theorem dX8_lay_215 : decode cX8_lay 215 = .ok (.iadd, 1) := by decide +kernel
theorem dX8_lay_216 : decode cX8_lay 216 = .ok (.putfield 114, 3) := by decide +kernel
theorem dX8_lay_219 : decode cX8_lay 219 = .ok (.iinc 5 1, 3) := by decide +kernel
theorem dX8_lay_222 : decode cX8_lay 222 = .ok (.goto (-138), 3) := by decide +kernel
theorem dX8_lay_225 : decode cX8_lay 225 = .ok (.return_, 1) := by decide +kernel
theorem dX8_close_0 : decode cX8_close 0 = .ok (.aload_n 0, 1) := by decide +kernel
theorem dX8_close_1 : decode cX8_close 1 = .ok (.getfield 117, 3) := by decide +kernel
theorem dX8_close_4 : decode cX8_close 4 = .ok (.ifCond .eq 5, 3) := by decide +kernel
theorem dX8_close_7 : decode cX8_close 7 = .ok (.iconst (-1), 1) := by decide +kernel
theorem dX8_close_8 : decode cX8_close 8 = .ok (.ireturn, 1) := by decide +kernel
theorem dX8_close_9 : decode cX8_close 9 = .ok (.aload_n 0, 1) := by decide +kernel
theorem dX8_close_10 : decode cX8_close 10 = .ok (.getfield 124, 3) := by decide +kernel
theorem dX8_close_13 : decode cX8_close 13 = .ok (.iconst 2, 1) := by decide +kernel
theorem dX8_close_14 : decode cX8_close 14 = .ok (.if_icmp .ne 18, 3) := by decide +kernel
theorem dX8_close_17 : decode cX8_close 17 = .ok (.aload_n 0, 1) := by decide +kernel
theorem dX8_close_18 : decode cX8_close 18 = .ok (.getfield 114, 3) := by decide +kernel
theorem dX8_close_21 : decode cX8_close 21 = .ok (.iconst 1, 1) := by decide +kernel
theorem dX8_close_22 : decode cX8_close 22 = .ok (.if_icmp .ne 10, 3) := by decide +kernel
theorem dX8_close_25 : decode cX8_close 25 = .ok (.aload_n 0, 1) := by decide +kernel
theorem dX8_close_26 : decode cX8_close 26 = .ok (.getfield 40, 3) := by decide +kernel
theorem dX8_close_29 : decode cX8_close 29 = .ok (.iconst 0, 1) := by decide +kernel
theorem dX8_close_30 : decode cX8_close 30 = .ok (.iaload, 1) := by decide +kernel
theorem dX8_close_31 : decode cX8_close 31 = .ok (.ireturn, 1) := by decide +kernel
theorem dX8_close_32 : decode cX8_close 32 = .ok (.aload_n 0, 1) := by decide +kernel
theorem dX8_close_33 : decode cX8_close 33 = .ok (.getfield 124, 3) := by decide +kernel
theorem dX8_close_36 : decode cX8_close 36 = .ok (.iconst 2, 1) := by decide +kernel
theorem dX8_close_37 : decode cX8_close 37 = .ok (.if_icmp .ne 31, 3) := by decide +kernel
theorem dX8_close_40 : decode cX8_close 40 = .ok (.aload_n 0, 1) := by decide +kernel
theorem dX8_close_41 : decode cX8_close 41 = .ok (.getfield 114, 3) := by decide +kernel
theorem dX8_close_44 : decode cX8_close 44 = .ok (.ifCond .ne 24, 3) := by decide +kernel
theorem dX8_close_47 : decode cX8_close 47 = .ok (.aload_n 0, 1) := by decide +kernel
theorem dX8_close_48 : decode cX8_close 48 = .ok (.getfield 127, 3) := by decide +kernel
theorem dX8_close_51 : decode cX8_close 51 = .ok (.ifCond .ge 7, 3) := by decide +kernel
theorem dX8_close_54 : decode cX8_close 54 = .ok (.iconst (-1), 1) := by decide +kernel
theorem dX8_close_55 : decode cX8_close 55 = .ok (.goto 12, 3) := by decide +kernel
theorem dX8_close_58 : decode cX8_close 58 = .ok (.aload_n 0, 1) := by decide +kernel
theorem dX8_close_59 : decode cX8_close 59 = .ok (.aload_n 0, 1) := by decide +kernel
theorem dX8_close_60 : decode cX8_close 60 = .ok (.getfield 127, 3) := by decide +kernel
theorem dX8_close_63 : decode cX8_close 63 = .ok (.iconst 0, 1) := by decide +kernel
theorem dX8_close_64 : decode cX8_close 64 = .ok (.invokevirtual 100, 3) := by decide +kernel
theorem dX8_close_67 : decode cX8_close 67 = .ok (.ireturn, 1) := by decide +kernel
theorem dX8_close_68 : decode cX8_close 68 = .ok (.aload_n 0, 1) := by decide +kernel
theorem dX8_close_69 : decode cX8_close 69 = .ok (.aload_n 0, 1) := by decide +kernel
theorem dX8_close_70 : decode cX8_close 70 = .ok (.getfield 121, 3) := by decide +kernel
theorem dX8_close_73 : decode cX8_close 73 = .ok (.aload_n 0, 1) := by decide +kernel
theorem dX8_close_74 : decode cX8_close 74 = .ok (.getfield 114, 3) := by decide +kernel
theorem dX8_close_77 : decode cX8_close 77 = .ok (.invokestatic 103, 3) := by decide +kernel
theorem dX8_close_80 : decode cX8_close 80 = .ok (.aload_n 0, 1) := by decide +kernel
theorem dX8_close_81 : decode cX8_close 81 = .ok (.getfield 114, 3) := by decide +kernel
theorem dX8_close_84 : decode cX8_close 84 = .ok (.invokevirtual 100, 3) := by decide +kernel
theorem dX8_close_87 : decode cX8_close 87 = .ok (.ireturn, 1) := by decide +kernel
theorem dX8_leaf_0 : decode cX8_leaf 0 = .ok (.aload_n 0, 1) := by decide +kernel
theorem dX8_leaf_1 : decode cX8_leaf 1 = .ok (.iload_n 1, 1) := by decide +kernel
theorem dX8_leaf_2 : decode cX8_leaf 2 = .ok (.iconst 0, 1) := by decide +kernel
theorem dX8_leaf_3 : decode cX8_leaf 3 = .ok (.invokevirtual 100, 3) := by decide +kernel
theorem dX8_leaf_6 : decode cX8_leaf 6 = .ok (.ireturn, 1) := by decide +kernel
theorem dX8_intern_0 : decode cX8_intern 0 = .ok (.iload_n 1, 1) := by decide +kernel
theorem dX8_intern_1 : decode cX8_intern 1 = .ok (.istore_n 3, 1) := by decide +kernel
theorem dX8_intern_2 : decode cX8_intern 2 = .ok (.iconst 1, 1) := by decide +kernel
theorem dX8_intern_3 : decode cX8_intern 3 = .ok (.istore 4, 2) := by decide +kernel
theorem dX8_intern_5 : decode cX8_intern 5 = .ok (.iload_n 1, 1) := by decide +kernel
theorem dX8_intern_6 : decode cX8_intern 6 = .ok (.bipush 8, 2) := by decide +kernel
theorem dX8_intern_8 : decode cX8_intern 8 = .ok (.if_icmp .ge 9, 3) := by decide +kernel
theorem dX8_intern_11 : decode cX8_intern 11 = .ok (.iconst 1, 1) := by decide +kernel
theorem dX8_intern_12 : decode cX8_intern 12 = .ok (.iload_n 1, 1) := by decide +kernel
theorem dX8_intern_13 : decode cX8_intern 13 = .ok (.ishl, 1) := by decide +kernel
theorem dX8_intern_14 : decode cX8_intern 14 = .ok (.goto 4, 3) := by decide +kernel
theorem dX8_intern_17 : decode cX8_intern 17 = .ok (.iconst 0, 1) := by decide +kernel
theorem dX8_intern_18 : decode cX8_intern 18 = .ok (.istore 5, 2) := by decide +kernel
theorem dX8_intern_20 : decode cX8_intern 20 = .ok (.iconst 0, 1) := by decide +kernel
theorem dX8_intern_21 : decode cX8_intern 21 = .ok (.istore 6, 2) := by decide +kernel
theorem dX8_intern_23 : decode cX8_intern 23 = .ok (.iload 6, 2) := by decide +kernel
theorem dX8_intern_25 : decode cX8_intern 25 = .ok (.iload_n 2, 1) := by decide +kernel
theorem dX8_intern_26 : decode cX8_intern 26 = .ok (.if_icmp .ge 81, 3) := by decide +kernel
theorem dX8_intern_29 : decode cX8_intern 29 = .ok (.iload 6, 2) := by decide +kernel
theorem dX8_intern_31 : decode cX8_intern 31 = .ok (.bipush 6, 2) := by decide +kernel
theorem dX8_intern_33 : decode cX8_intern 33 = .ok (.if_icmp .ge 74, 3) := by decide +kernel
theorem dX8_intern_36 : decode cX8_intern 36 = .ok (.aload_n 0, 1) := by decide +kernel
theorem dX8_intern_37 : decode cX8_intern 37 = .ok (.getfield 40, 3) := by decide +kernel
theorem dX8_intern_40 : decode cX8_intern 40 = .ok (.iload 6, 2) := by decide +kernel
theorem dX8_intern_42 : decode cX8_intern 42 = .ok (.iaload, 1) := by decide +kernel
theorem dX8_intern_43 : decode cX8_intern 43 = .ok (.istore 7, 2) := by decide +kernel
theorem dX8_intern_45 : decode cX8_intern 45 = .ok (.iload 7, 2) := by decide +kernel
theorem dX8_intern_47 : decode cX8_intern 47 = .ok (.ifCond .lt 20, 3) := by decide +kernel
theorem dX8_intern_50 : decode cX8_intern 50 = .ok (.iload 7, 2) := by decide +kernel
theorem dX8_intern_52 : decode cX8_intern 52 = .ok (.aload_n 0, 1) := by decide +kernel
theorem dX8_intern_53 : decode cX8_intern 53 = .ok (.getfield 58, 3) := by decide +kernel
theorem dX8_intern_56 : decode cX8_intern 56 = .ok (.if_icmp .ge 11, 3) := by decide +kernel
theorem dX8_intern_59 : decode cX8_intern 59 = .ok (.iload 7, 2) := by decide +kernel
theorem dX8_intern_61 : decode cX8_intern 61 = .ok (.sipush 1024, 3) := by decide +kernel
theorem dX8_intern_64 : decode cX8_intern 64 = .ok (.if_icmp .lt 5, 3) := by decide +kernel
theorem dX8_intern_67 : decode cX8_intern 67 = .ok (.iconst (-1), 1) := by decide +kernel
theorem dX8_intern_68 : decode cX8_intern 68 = .ok (.ireturn, 1) := by decide +kernel
theorem dX8_intern_69 : decode cX8_intern 69 = .ok (.iload_n 3, 1) := by decide +kernel
theorem dX8_intern_70 : decode cX8_intern 70 = .ok (.bipush 31, 2) := by decide +kernel
theorem dX8_intern_72 : decode cX8_intern 72 = .ok (.imul, 1) := by decide +kernel
theorem dX8_intern_73 : decode cX8_intern 73 = .ok (.iload 7, 2) := by decide +kernel
theorem dX8_intern_75 : decode cX8_intern 75 = .ok (.iadd, 1) := by decide +kernel
theorem dX8_intern_76 : decode cX8_intern 76 = .ok (.istore_n 3, 1) := by decide +kernel
theorem dX8_intern_77 : decode cX8_intern 77 = .ok (.iload 4, 2) := by decide +kernel
theorem dX8_intern_79 : decode cX8_intern 79 = .ok (.aload_n 0, 1) := by decide +kernel
theorem dX8_intern_80 : decode cX8_intern 80 = .ok (.getfield 15, 3) := by decide +kernel
theorem dX8_intern_83 : decode cX8_intern 83 = .ok (.iload 7, 2) := by decide +kernel
theorem dX8_intern_85 : decode cX8_intern 85 = .ok (.iaload, 1) := by decide +kernel
theorem dX8_intern_86 : decode cX8_intern 86 = .ok (.iadd, 1) := by decide +kernel
theorem dX8_intern_87 : decode cX8_intern 87 = .ok (.istore 4, 2) := by decide +kernel
theorem dX8_intern_89 : decode cX8_intern 89 = .ok (.iload 5, 2) := by decide +kernel
theorem dX8_intern_91 : decode cX8_intern 91 = .ok (.aload_n 0, 1) := by decide +kernel
theorem dX8_intern_92 : decode cX8_intern 92 = .ok (.getfield 18, 3) := by decide +kernel
theorem dX8_intern_95 : decode cX8_intern 95 = .ok (.iload 7, 2) := by decide +kernel
theorem dX8_intern_97 : decode cX8_intern 97 = .ok (.iaload, 1) := by decide +kernel
theorem dX8_intern_98 : decode cX8_intern 98 = .ok (.ior, 1) := by decide +kernel
theorem dX8_intern_99 : decode cX8_intern 99 = .ok (.istore 5, 2) := by decide +kernel
theorem dX8_intern_101 : decode cX8_intern 101 = .ok (.iinc 6 1, 3) := by decide +kernel
theorem dX8_intern_104 : decode cX8_intern 104 = .ok (.goto (-81), 3) := by decide +kernel
theorem dX8_intern_107 : decode cX8_intern 107 = .ok (.iload 4, 2) := by decide +kernel
theorem dX8_intern_109 : decode cX8_intern 109 = .ok (.bipush 20, 2) := by decide +kernel
theorem dX8_intern_111 : decode cX8_intern 111 = .ok (.if_icmp .gt 9, 3) := by decide +kernel
theorem dX8_intern_114 : decode cX8_intern 114 = .ok (.iload_n 2, 1) := by decide +kernel
theorem dX8_intern_115 : decode cX8_intern 115 = .ok (.bipush 6, 2) := by decide +kernel
theorem dX8_intern_117 : decode cX8_intern 117 = .ok (.if_icmp .le 5, 3) := by decide +kernel
theorem dX8_intern_120 : decode cX8_intern 120 = .ok (.iconst (-1), 1) := by decide +kernel
theorem dX8_intern_121 : decode cX8_intern 121 = .ok (.ireturn, 1) := by decide +kernel
theorem dX8_intern_122 : decode cX8_intern 122 = .ok (.iload_n 3, 1) := by decide +kernel
theorem dX8_intern_123 : decode cX8_intern 123 = .ok (.iload_n 3, 1) := by decide +kernel
theorem dX8_intern_124 : decode cX8_intern 124 = .ok (.bipush 8, 2) := by decide +kernel
theorem dX8_intern_126 : decode cX8_intern 126 = .ok (.iushr, 1) := by decide +kernel
theorem dX8_intern_127 : decode cX8_intern 127 = .ok (.ixor, 1) := by decide +kernel
theorem dX8_intern_128 : decode cX8_intern 128 = .ok (.sipush 255, 3) := by decide +kernel
theorem dX8_intern_131 : decode cX8_intern 131 = .ok (.iand, 1) := by decide +kernel
theorem dX8_intern_132 : decode cX8_intern 132 = .ok (.istore_n 3, 1) := by decide +kernel
theorem dX8_intern_133 : decode cX8_intern 133 = .ok (.aload_n 0, 1) := by decide +kernel
theorem dX8_intern_134 : decode cX8_intern 134 = .ok (.getfield 37, 3) := by decide +kernel
theorem dX8_intern_137 : decode cX8_intern 137 = .ok (.iload_n 3, 1) := by decide +kernel
theorem dX8_intern_138 : decode cX8_intern 138 = .ok (.iaload, 1) := by decide +kernel
theorem dX8_intern_139 : decode cX8_intern 139 = .ok (.istore 6, 2) := by decide +kernel
theorem dX8_intern_141 : decode cX8_intern 141 = .ok (.iconst 0, 1) := by decide +kernel
theorem dX8_intern_142 : decode cX8_intern 142 = .ok (.istore 7, 2) := by decide +kernel
theorem dX8_intern_144 : decode cX8_intern 144 = .ok (.iload 7, 2) := by decide +kernel
theorem dX8_intern_146 : decode cX8_intern 146 = .ok (.sipush 1024, 3) := by decide +kernel
theorem dX8_intern_149 : decode cX8_intern 149 = .ok (.if_icmp .ge 95, 3) := by decide +kernel
theorem dX8_intern_152 : decode cX8_intern 152 = .ok (.iload 6, 2) := by decide +kernel
theorem dX8_intern_154 : decode cX8_intern 154 = .ok (.ifCond .lt 90, 3) := by decide +kernel
theorem dX8_intern_157 : decode cX8_intern 157 = .ok (.iload 6, 2) := by decide +kernel
theorem dX8_intern_159 : decode cX8_intern 159 = .ok (.sipush 1024, 3) := by decide +kernel
theorem dX8_intern_162 : decode cX8_intern 162 = .ok (.if_icmp .ge 82, 3) := by decide +kernel
theorem dX8_intern_165 : decode cX8_intern 165 = .ok (.aload_n 0, 1) := by decide +kernel
theorem dX8_intern_166 : decode cX8_intern 166 = .ok (.getfield 11, 3) := by decide +kernel
theorem dX8_intern_169 : decode cX8_intern 169 = .ok (.iload 6, 2) := by decide +kernel
theorem dX8_intern_171 : decode cX8_intern 171 = .ok (.iaload, 1) := by decide +kernel
theorem dX8_intern_172 : decode cX8_intern 172 = .ok (.iload_n 1, 1) := by decide +kernel
theorem dX8_intern_173 : decode cX8_intern 173 = .ok (.if_icmp .ne 7, 3) := by decide +kernel
theorem dX8_intern_176 : decode cX8_intern 176 = .ok (.iconst 0, 1) := by decide +kernel
theorem dX8_intern_177 : decode cX8_intern 177 = .ok (.goto 6, 3) := by decide +kernel
theorem dX8_intern_180 : decode cX8_intern 180 = .ok (.iload_n 2, 1) := by decide +kernel
theorem dX8_intern_181 : decode cX8_intern 181 = .ok (.iconst 1, 1) := by decide +kernel
theorem dX8_intern_182 : decode cX8_intern 182 = .ok (.iadd, 1) := by decide +kernel
theorem dX8_intern_183 : decode cX8_intern 183 = .ok (.istore 8, 2) := by decide +kernel
theorem dX8_intern_185 : decode cX8_intern 185 = .ok (.iload 8, 2) := by decide +kernel
theorem dX8_intern_187 : decode cX8_intern 187 = .ok (.iload_n 2, 1) := by decide +kernel
theorem dX8_intern_188 : decode cX8_intern 188 = .ok (.if_icmp .ge 32, 3) := by decide +kernel
theorem dX8_intern_191 : decode cX8_intern 191 = .ok (.aload_n 0, 1) := by decide +kernel
theorem dX8_intern_192 : decode cX8_intern 192 = .ok (.getfield 21, 3) := by decide +kernel
theorem dX8_intern_195 : decode cX8_intern 195 = .ok (.iload 6, 2) := by decide +kernel
theorem dX8_intern_197 : decode cX8_intern 197 = .ok (.bipush 6, 2) := by decide +kernel
theorem dX8_intern_199 : decode cX8_intern 199 = .ok (.imul, 1) := by decide +kernel
theorem dX8_intern_200 : decode cX8_intern 200 = .ok (.iload 8, 2) := by decide +kernel
theorem dX8_intern_202 : decode cX8_intern 202 = .ok (.iadd, 1) := by decide +kernel
theorem dX8_intern_203 : decode cX8_intern 203 = .ok (.iaload, 1) := by decide +kernel
theorem dX8_intern_204 : decode cX8_intern 204 = .ok (.aload_n 0, 1) := by decide +kernel
theorem dX8_intern_205 : decode cX8_intern 205 = .ok (.getfield 40, 3) := by decide +kernel
theorem dX8_intern_208 : decode cX8_intern 208 = .ok (.iload 8, 2) := by decide +kernel
theorem dX8_intern_210 : decode cX8_intern 210 = .ok (.iaload, 1) := by decide +kernel
theorem dX8_intern_211 : decode cX8_intern 211 = .ok (.if_icmp .ne 9, 3) := by decide +kernel
theorem dX8_intern_214 : decode cX8_intern 214 = .ok (.iinc 8 1, 3) := by decide +kernel
theorem dX8_intern_217 : decode cX8_intern 217 = .ok (.goto (-32), 3) := by decide +kernel
theorem dX8_intern_220 : decode cX8_intern 220 = .ok (.iload 8, 2) := by decide +kernel
theorem dX8_intern_222 : decode cX8_intern 222 = .ok (.iload_n 2, 1) := by decide +kernel
theorem dX8_intern_223 : decode cX8_intern 223 = .ok (.if_icmp .ne 6, 3) := by decide +kernel
theorem dX8_intern_226 : decode cX8_intern 226 = .ok (.iload 6, 2) := by decide +kernel
theorem dX8_intern_228 : decode cX8_intern 228 = .ok (.ireturn, 1) := by decide +kernel
theorem dX8_intern_229 : decode cX8_intern 229 = .ok (.aload_n 0, 1) := by decide +kernel
theorem dX8_intern_230 : decode cX8_intern 230 = .ok (.getfield 34, 3) := by decide +kernel
theorem dX8_intern_233 : decode cX8_intern 233 = .ok (.iload 6, 2) := by decide +kernel
theorem dX8_intern_235 : decode cX8_intern 235 = .ok (.iaload, 1) := by decide +kernel
theorem dX8_intern_236 : decode cX8_intern 236 = .ok (.istore 6, 2) := by decide +kernel
theorem dX8_intern_238 : decode cX8_intern 238 = .ok (.iinc 7 1, 3) := by decide +kernel
theorem dX8_intern_241 : decode cX8_intern 241 = .ok (.goto (-97), 3) := by decide +kernel
theorem dX8_intern_244 : decode cX8_intern 244 = .ok (.aload_n 0, 1) := by decide +kernel
theorem dX8_intern_245 : decode cX8_intern 245 = .ok (.getfield 58, 3) := by decide +kernel
theorem dX8_intern_248 : decode cX8_intern 248 = .ok (.ifCond .lt 13, 3) := by decide +kernel
theorem dX8_intern_251 : decode cX8_intern 251 = .ok (.aload_n 0, 1) := by decide +kernel
theorem dX8_intern_252 : decode cX8_intern 252 = .ok (.getfield 58, 3) := by decide +kernel
theorem dX8_intern_255 : decode cX8_intern 255 = .ok (.sipush 1024, 3) := by decide +kernel
theorem dX8_intern_258 : decode cX8_intern 258 = .ok (.if_icmp .lt 5, 3) := by decide +kernel
theorem dX8_intern_261 : decode cX8_intern 261 = .ok (.iconst (-1), 1) := by decide +kernel
theorem dX8_intern_262 : decode cX8_intern 262 = .ok (.ireturn, 1) := by decide +kernel
theorem dX8_intern_263 : decode cX8_intern 263 = .ok (.aload_n 0, 1) := by decide +kernel
theorem dX8_intern_264 : decode cX8_intern 264 = .ok (.getfield 58, 3) := by decide +kernel
theorem dX8_intern_267 : decode cX8_intern 267 = .ok (.istore 6, 2) := by decide +kernel
theorem dX8_intern_269 : decode cX8_intern 269 = .ok (.aload_n 0, 1) := by decide +kernel
theorem dX8_intern_270 : decode cX8_intern 270 = .ok (.dup, 1) := by decide +kernel
theorem dX8_intern_271 : decode cX8_intern 271 = .ok (.getfield 58, 3) := by decide +kernel
theorem dX8_intern_274 : decode cX8_intern 274 = .ok (.iconst 1, 1) := by decide +kernel
theorem dX8_intern_275 : decode cX8_intern 275 = .ok (.iadd, 1) := by decide +kernel
theorem dX8_intern_276 : decode cX8_intern 276 = .ok (.putfield 58, 3) := by decide +kernel
theorem dX8_intern_279 : decode cX8_intern 279 = .ok (.aload_n 0, 1) := by decide +kernel
theorem dX8_intern_280 : decode cX8_intern 280 = .ok (.getfield 11, 3) := by decide +kernel
theorem dX8_intern_283 : decode cX8_intern 283 = .ok (.iload 6, 2) := by decide +kernel
theorem dX8_intern_285 : decode cX8_intern 285 = .ok (.iload_n 1, 1) := by decide +kernel
theorem dX8_intern_286 : decode cX8_intern 286 = .ok (.iastore, 1) := by decide +kernel
theorem dX8_intern_287 : decode cX8_intern 287 = .ok (.aload_n 0, 1) := by decide +kernel
theorem dX8_intern_288 : decode cX8_intern 288 = .ok (.getfield 15, 3) := by decide +kernel
theorem dX8_intern_291 : decode cX8_intern 291 = .ok (.iload 6, 2) := by decide +kernel
theorem dX8_intern_293 : decode cX8_intern 293 = .ok (.iload 4, 2) := by decide +kernel
theorem dX8_intern_295 : decode cX8_intern 295 = .ok (.iastore, 1) := by decide +kernel
theorem dX8_intern_296 : decode cX8_intern 296 = .ok (.aload_n 0, 1) := by decide +kernel
theorem dX8_intern_297 : decode cX8_intern 297 = .ok (.getfield 18, 3) := by decide +kernel
theorem dX8_intern_300 : decode cX8_intern 300 = .ok (.iload 6, 2) := by decide +kernel
theorem dX8_intern_302 : decode cX8_intern 302 = .ok (.iload 5, 2) := by decide +kernel
theorem dX8_intern_304 : decode cX8_intern 304 = .ok (.iastore, 1) := by decide +kernel
theorem dX8_intern_305 : decode cX8_intern 305 = .ok (.aload_n 0, 1) := by decide +kernel
theorem dX8_intern_306 : decode cX8_intern 306 = .ok (.getfield 31, 3) := by decide +kernel
theorem dX8_intern_309 : decode cX8_intern 309 = .ok (.iload 6, 2) := by decide +kernel
theorem dX8_intern_311 : decode cX8_intern 311 = .ok (.iload_n 3, 1) := by decide +kernel
theorem dX8_intern_312 : decode cX8_intern 312 = .ok (.iastore, 1) := by decide +kernel
theorem dX8_intern_313 : decode cX8_intern 313 = .ok (.aload_n 0, 1) := by decide +kernel
theorem dX8_intern_314 : decode cX8_intern 314 = .ok (.getfield 34, 3) := by decide +kernel
theorem dX8_intern_317 : decode cX8_intern 317 = .ok (.iload 6, 2) := by decide +kernel
theorem dX8_intern_319 : decode cX8_intern 319 = .ok (.aload_n 0, 1) := by decide +kernel
theorem dX8_intern_320 : decode cX8_intern 320 = .ok (.getfield 37, 3) := by decide +kernel
theorem dX8_intern_323 : decode cX8_intern 323 = .ok (.iload_n 3, 1) := by decide +kernel
theorem dX8_intern_324 : decode cX8_intern 324 = .ok (.iaload, 1) := by decide +kernel
theorem dX8_intern_325 : decode cX8_intern 325 = .ok (.iastore, 1) := by decide +kernel
theorem dX8_intern_326 : decode cX8_intern 326 = .ok (.aload_n 0, 1) := by decide +kernel
theorem dX8_intern_327 : decode cX8_intern 327 = .ok (.getfield 37, 3) := by decide +kernel
theorem dX8_intern_330 : decode cX8_intern 330 = .ok (.iload_n 3, 1) := by decide +kernel
theorem dX8_intern_331 : decode cX8_intern 331 = .ok (.iload 6, 2) := by decide +kernel
theorem dX8_intern_333 : decode cX8_intern 333 = .ok (.iastore, 1) := by decide +kernel
theorem dX8_intern_334 : decode cX8_intern 334 = .ok (.iload_n 1, 1) := by decide +kernel
theorem dX8_intern_335 : decode cX8_intern 335 = .ok (.bipush 8, 2) := by decide +kernel
theorem dX8_intern_337 : decode cX8_intern 337 = .ok (.if_icmp .ge 7, 3) := by decide +kernel
theorem dX8_intern_340 : decode cX8_intern 340 = .ok (.iload_n 1, 1) := by decide +kernel
theorem dX8_intern_341 : decode cX8_intern 341 = .ok (.goto 10, 3) := by decide +kernel
theorem dX8_intern_344 : decode cX8_intern 344 = .ok (.iconst 5, 1) := by decide +kernel
theorem dX8_intern_345 : decode cX8_intern 345 = .ok (.iload_n 1, 1) := by decide +kernel
theorem dX8_intern_346 : decode cX8_intern 346 = .ok (.iconst 3, 1) := by decide +kernel
theorem dX8_intern_347 : decode cX8_intern 347 = .ok (.ishr, 1) := by decide +kernel
theorem dX8_intern_348 : decode cX8_intern 348 = .ok (.iadd, 1) := by decide +kernel
theorem dX8_intern_349 : decode cX8_intern 349 = .ok (.iconst 1, 1) := by decide +kernel
theorem dX8_intern_350 : decode cX8_intern 350 = .ok (.isub, 1) := by decide +kernel
theorem dX8_intern_351 : decode cX8_intern 351 = .ok (.istore 7, 2) := by decide +kernel
theorem dX8_intern_353 : decode cX8_intern 353 = .ok (.aload_n 0, 1) := by decide +kernel
theorem dX8_intern_354 : decode cX8_intern 354 = .ok (.getfield 46, 3) := by decide +kernel
theorem dX8_intern_357 : decode cX8_intern 357 = .ok (.getfield 131, 3) := by decide +kernel
theorem dX8_intern_360 : decode cX8_intern 360 = .ok (.iload 7, 2) := by decide +kernel
theorem dX8_intern_362 : decode cX8_intern 362 = .ok (.ishr, 1) := by decide +kernel
theorem dX8_intern_363 : decode cX8_intern 363 = .ok (.iconst 1, 1) := by decide +kernel
theorem dX8_intern_364 : decode cX8_intern 364 = .ok (.iand, 1) := by decide +kernel
theorem dX8_intern_365 : decode cX8_intern 365 = .ok (.ifCond .eq 7, 3) := by decide +kernel
theorem dX8_intern_368 : decode cX8_intern 368 = .ok (.iconst 1, 1) := by decide +kernel
theorem dX8_intern_369 : decode cX8_intern 369 = .ok (.goto 4, 3) := by decide +kernel
theorem dX8_intern_372 : decode cX8_intern 372 = .ok (.iconst 0, 1) := by decide +kernel
theorem dX8_intern_373 : decode cX8_intern 373 = .ok (.istore 8, 2) := by decide +kernel
theorem dX8_intern_375 : decode cX8_intern 375 = .ok (.aload_n 0, 1) := by decide +kernel
theorem dX8_intern_376 : decode cX8_intern 376 = .ok (.getfield 24, 3) := by decide +kernel
theorem dX8_intern_379 : decode cX8_intern 379 = .ok (.iload 6, 2) := by decide +kernel
theorem dX8_intern_381 : decode cX8_intern 381 = .ok (.iload 8, 2) := by decide +kernel
theorem dX8_intern_383 : decode cX8_intern 383 = .ok (.ifCond .eq 20, 3) := by decide +kernel
theorem dX8_intern_386 : decode cX8_intern 386 = .ok (.iload 7, 2) := by decide +kernel
theorem dX8_intern_388 : decode cX8_intern 388 = .ok (.bipush 10, 2) := by decide +kernel
theorem dX8_intern_390 : decode cX8_intern 390 = .ok (.if_icmp .ge 13, 3) := by decide +kernel
theorem dX8_intern_393 : decode cX8_intern 393 = .ok (.lconst 1, 1) := by decide +kernel
theorem dX8_intern_394 : decode cX8_intern 394 = .ok (.bipush 6, 2) := by decide +kernel
theorem dX8_intern_396 : decode cX8_intern 396 = .ok (.iload 7, 2) := by decide +kernel
theorem dX8_intern_398 : decode cX8_intern 398 = .ok (.imul, 1) := by decide +kernel
theorem dX8_intern_399 : decode cX8_intern 399 = .ok (.lshl, 1) := by decide +kernel
theorem dX8_intern_400 : decode cX8_intern 400 = .ok (.goto 4, 3) := by decide +kernel
theorem dX8_intern_403 : decode cX8_intern 403 = .ok (.lconst 0, 1) := by decide +kernel
theorem dX8_intern_404 : decode cX8_intern 404 = .ok (.lastore, 1) := by decide +kernel
theorem dX8_intern_405 : decode cX8_intern 405 = .ok (.aload_n 0, 1) := by decide +kernel
theorem dX8_intern_406 : decode cX8_intern 406 = .ok (.getfield 28, 3) := by decide +kernel
theorem dX8_intern_409 : decode cX8_intern 409 = .ok (.iload 6, 2) := by decide +kernel
theorem dX8_intern_411 : decode cX8_intern 411 = .ok (.iload 8, 2) := by decide +kernel
theorem dX8_intern_413 : decode cX8_intern 413 = .ok (.ifCond .eq 23, 3) := by decide +kernel
theorem dX8_intern_416 : decode cX8_intern 416 = .ok (.iload 7, 2) := by decide +kernel
theorem dX8_intern_418 : decode cX8_intern 418 = .ok (.bipush 10, 2) := by decide +kernel
theorem dX8_intern_420 : decode cX8_intern 420 = .ok (.if_icmp .lt 16, 3) := by decide +kernel
theorem dX8_intern_423 : decode cX8_intern 423 = .ok (.lconst 1, 1) := by decide +kernel
theorem dX8_intern_424 : decode cX8_intern 424 = .ok (.bipush 6, 2) := by decide +kernel
theorem dX8_intern_426 : decode cX8_intern 426 = .ok (.iload 7, 2) := by decide +kernel
theorem dX8_intern_428 : decode cX8_intern 428 = .ok (.bipush 10, 2) := by decide +kernel
theorem dX8_intern_430 : decode cX8_intern 430 = .ok (.isub, 1) := by decide +kernel
theorem dX8_intern_431 : decode cX8_intern 431 = .ok (.imul, 1) := by decide +kernel
theorem dX8_intern_432 : decode cX8_intern 432 = .ok (.lshl, 1) := by decide +kernel
theorem dX8_intern_433 : decode cX8_intern 433 = .ok (.goto 4, 3) := by decide +kernel
theorem dX8_intern_436 : decode cX8_intern 436 = .ok (.lconst 0, 1) := by decide +kernel
theorem dX8_intern_437 : decode cX8_intern 437 = .ok (.lastore, 1) := by decide +kernel
theorem dX8_intern_438 : decode cX8_intern 438 = .ok (.iconst 0, 1) := by decide +kernel
theorem dX8_intern_439 : decode cX8_intern 439 = .ok (.istore 9, 2) := by decide +kernel
theorem dX8_intern_441 : decode cX8_intern 441 = .ok (.iload 9, 2) := by decide +kernel
theorem dX8_intern_443 : decode cX8_intern 443 = .ok (.iload_n 2, 1) := by decide +kernel
theorem dX8_intern_444 : decode cX8_intern 444 = .ok (.if_icmp .ge 73, 3) := by decide +kernel
theorem dX8_intern_447 : decode cX8_intern 447 = .ok (.aload_n 0, 1) := by decide +kernel
theorem dX8_intern_448 : decode cX8_intern 448 = .ok (.getfield 21, 3) := by decide +kernel
theorem dX8_intern_451 : decode cX8_intern 451 = .ok (.iload 6, 2) := by decide +kernel
theorem dX8_intern_453 : decode cX8_intern 453 = .ok (.bipush 6, 2) := by decide +kernel
theorem dX8_intern_455 : decode cX8_intern 455 = .ok (.imul, 1) := by decide +kernel
theorem dX8_intern_456 : decode cX8_intern 456 = .ok (.iload 9, 2) := by decide +kernel
theorem dX8_intern_458 : decode cX8_intern 458 = .ok (.iadd, 1) := by decide +kernel
theorem dX8_intern_459 : decode cX8_intern 459 = .ok (.aload_n 0, 1) := by decide +kernel
theorem dX8_intern_460 : decode cX8_intern 460 = .ok (.getfield 40, 3) := by decide +kernel
theorem dX8_intern_463 : decode cX8_intern 463 = .ok (.iload 9, 2) := by decide +kernel
theorem dX8_intern_465 : decode cX8_intern 465 = .ok (.iaload, 1) := by decide +kernel
theorem dX8_intern_466 : decode cX8_intern 466 = .ok (.iastore, 1) := by decide +kernel
theorem dX8_intern_467 : decode cX8_intern 467 = .ok (.aload_n 0, 1) := by decide +kernel
theorem dX8_intern_468 : decode cX8_intern 468 = .ok (.getfield 24, 3) := by decide +kernel
theorem dX8_intern_471 : decode cX8_intern 471 = .ok (.iload 6, 2) := by decide +kernel
theorem dX8_intern_473 : decode cX8_intern 473 = .ok (.dup2, 1) := by decide +kernel
theorem dX8_intern_474 : decode cX8_intern 474 = .ok (.laload, 1) := by decide +kernel
theorem dX8_intern_475 : decode cX8_intern 475 = .ok (.aload_n 0, 1) := by decide +kernel
theorem dX8_intern_476 : decode cX8_intern 476 = .ok (.getfield 24, 3) := by decide +kernel
theorem dX8_intern_479 : decode cX8_intern 479 = .ok (.aload_n 0, 1) := by decide +kernel
theorem dX8_intern_480 : decode cX8_intern 480 = .ok (.getfield 40, 3) := by decide +kernel
theorem dX8_intern_483 : decode cX8_intern 483 = .ok (.iload 9, 2) := by decide +kernel
theorem dX8_intern_485 : decode cX8_intern 485 = .ok (.iaload, 1) := by decide +kernel
theorem dX8_intern_486 : decode cX8_intern 486 = .ok (.laload, 1) := by decide +kernel
theorem dX8_intern_487 : decode cX8_intern 487 = .ok (.ladd, 1) := by decide +kernel
theorem dX8_intern_488 : decode cX8_intern 488 = .ok (.lastore, 1) := by decide +kernel
theorem dX8_intern_489 : decode cX8_intern 489 = .ok (.aload_n 0, 1) := by decide +kernel
theorem dX8_intern_490 : decode cX8_intern 490 = .ok (.getfield 28, 3) := by decide +kernel
theorem dX8_intern_493 : decode cX8_intern 493 = .ok (.iload 6, 2) := by decide +kernel
theorem dX8_intern_495 : decode cX8_intern 495 = .ok (.dup2, 1) := by decide +kernel
theorem dX8_intern_496 : decode cX8_intern 496 = .ok (.laload, 1) := by decide +kernel
theorem dX8_intern_497 : decode cX8_intern 497 = .ok (.aload_n 0, 1) := by decide +kernel
theorem dX8_intern_498 : decode cX8_intern 498 = .ok (.getfield 28, 3) := by decide +kernel
theorem dX8_intern_501 : decode cX8_intern 501 = .ok (.aload_n 0, 1) := by decide +kernel
theorem dX8_intern_502 : decode cX8_intern 502 = .ok (.getfield 40, 3) := by decide +kernel
theorem dX8_intern_505 : decode cX8_intern 505 = .ok (.iload 9, 2) := by decide +kernel
theorem dX8_intern_507 : decode cX8_intern 507 = .ok (.iaload, 1) := by decide +kernel
theorem dX8_intern_508 : decode cX8_intern 508 = .ok (.laload, 1) := by decide +kernel
theorem dX8_intern_509 : decode cX8_intern 509 = .ok (.ladd, 1) := by decide +kernel
theorem dX8_intern_510 : decode cX8_intern 510 = .ok (.lastore, 1) := by decide +kernel
theorem dX8_intern_511 : decode cX8_intern 511 = .ok (.iinc 9 1, 3) := by decide +kernel
theorem dX8_intern_514 : decode cX8_intern 514 = .ok (.goto (-73), 3) := by decide +kernel
theorem dX8_intern_517 : decode cX8_intern 517 = .ok (.iload 6, 2) := by decide +kernel
theorem dX8_intern_519 : decode cX8_intern 519 = .ok (.ireturn, 1) := by decide +kernel
theorem dX8_fromRow_0 : decode cX8_fromRow 0 = .ok (.aload_n 0, 1) := by decide +kernel
theorem dX8_fromRow_1 : decode cX8_fromRow 1 = .ok (.getfield 54, 3) := by decide +kernel
theorem dX8_fromRow_4 : decode cX8_fromRow 4 = .ok (.istore_n 3, 1) := by decide +kernel
theorem dX8_fromRow_5 : decode cX8_fromRow 5 = .ok (.aload_n 1, 1) := by decide +kernel
theorem dX8_fromRow_6 : decode cX8_fromRow 6 = .ok (.iload_n 2, 1) := by decide +kernel
theorem dX8_fromRow_7 : decode cX8_fromRow 7 = .ok (.invokevirtual 134, 3) := by decide +kernel
theorem dX8_fromRow_10 : decode cX8_fromRow 10 = .ok (.iconst 1, 1) := by decide +kernel
theorem dX8_fromRow_11 : decode cX8_fromRow 11 = .ok (.isub, 1) := by decide +kernel
theorem dX8_fromRow_12 : decode cX8_fromRow 12 = .ok (.istore 4, 2) := by decide +kernel
theorem dX8_fromRow_14 : decode cX8_fromRow 14 = .ok (.iload 4, 2) := by decide +kernel
theorem dX8_fromRow_16 : decode cX8_fromRow 16 = .ok (.ifCond .lt 71, 3) := by decide +kernel
theorem dX8_fromRow_19 : decode cX8_fromRow 19 = .ok (.aload_n 1, 1) := by decide +kernel
theorem dX8_fromRow_20 : decode cX8_fromRow 20 = .ok (.iload_n 2, 1) := by decide +kernel
theorem dX8_fromRow_21 : decode cX8_fromRow 21 = .ok (.iload 4, 2) := by decide +kernel
theorem dX8_fromRow_23 : decode cX8_fromRow 23 = .ok (.invokevirtual 139, 3) := by decide +kernel
theorem dX8_fromRow_26 : decode cX8_fromRow 26 = .ok (.istore 5, 2) := by decide +kernel
theorem dX8_fromRow_28 : decode cX8_fromRow 28 = .ok (.iload 5, 2) := by decide +kernel
theorem dX8_fromRow_30 : decode cX8_fromRow 30 = .ok (.invokestatic 85, 3) := by decide +kernel
theorem dX8_fromRow_33 : decode cX8_fromRow 33 = .ok (.istore 6, 2) := by decide +kernel
theorem dX8_fromRow_35 : decode cX8_fromRow 35 = .ok (.iconst 0, 1) := by decide +kernel
theorem dX8_fromRow_36 : decode cX8_fromRow 36 = .ok (.istore 7, 2) := by decide +kernel
theorem dX8_fromRow_38 : decode cX8_fromRow 38 = .ok (.iload 7, 2) := by decide +kernel
theorem dX8_fromRow_40 : decode cX8_fromRow 40 = .ok (.iload 6, 2) := by decide +kernel
theorem dX8_fromRow_42 : decode cX8_fromRow 42 = .ok (.if_icmp .ge 27, 3) := by decide +kernel
theorem dX8_fromRow_45 : decode cX8_fromRow 45 = .ok (.iload 7, 2) := by decide +kernel
theorem dX8_fromRow_47 : decode cX8_fromRow 47 = .ok (.bipush 6, 2) := by decide +kernel
theorem dX8_fromRow_49 : decode cX8_fromRow 49 = .ok (.if_icmp .ge 20, 3) := by decide +kernel
theorem dX8_fromRow_52 : decode cX8_fromRow 52 = .ok (.aload_n 0, 1) := by decide +kernel
theorem dX8_fromRow_53 : decode cX8_fromRow 53 = .ok (.getfield 40, 3) := by decide +kernel
theorem dX8_fromRow_56 : decode cX8_fromRow 56 = .ok (.iload 7, 2) := by decide +kernel
theorem dX8_fromRow_58 : decode cX8_fromRow 58 = .ok (.aload_n 0, 1) := by decide +kernel
theorem dX8_fromRow_59 : decode cX8_fromRow 59 = .ok (.invokevirtual 142, 3) := by decide +kernel
theorem dX8_fromRow_62 : decode cX8_fromRow 62 = .ok (.iastore, 1) := by decide +kernel
theorem dX8_fromRow_63 : decode cX8_fromRow 63 = .ok (.iinc 7 1, 3) := by decide +kernel
theorem dX8_fromRow_66 : decode cX8_fromRow 66 = .ok (.goto (-28), 3) := by decide +kernel
theorem dX8_fromRow_69 : decode cX8_fromRow 69 = .ok (.aload_n 0, 1) := by decide +kernel
theorem dX8_fromRow_70 : decode cX8_fromRow 70 = .ok (.aload_n 0, 1) := by decide +kernel
theorem dX8_fromRow_71 : decode cX8_fromRow 71 = .ok (.iload 5, 2) := by decide +kernel
theorem dX8_fromRow_73 : decode cX8_fromRow 73 = .ok (.iload 6, 2) := by decide +kernel
theorem dX8_fromRow_75 : decode cX8_fromRow 75 = .ok (.invokevirtual 100, 3) := by decide +kernel
theorem dX8_fromRow_78 : decode cX8_fromRow 78 = .ok (.invokevirtual 146, 3) := by decide +kernel
theorem dX8_fromRow_81 : decode cX8_fromRow 81 = .ok (.iinc 4 (-1), 3) := by decide +kernel
theorem dX8_fromRow_84 : decode cX8_fromRow 84 = .ok (.goto (-70), 3) := by decide +kernel
theorem dX8_fromRow_87 : decode cX8_fromRow 87 = .ok (.aload_n 0, 1) := by decide +kernel
theorem dX8_fromRow_88 : decode cX8_fromRow 88 = .ok (.invokevirtual 142, 3) := by decide +kernel
theorem dX8_fromRow_91 : decode cX8_fromRow 91 = .ok (.istore 4, 2) := by decide +kernel
theorem dX8_fromRow_93 : decode cX8_fromRow 93 = .ok (.aload_n 0, 1) := by decide +kernel
theorem dX8_fromRow_94 : decode cX8_fromRow 94 = .ok (.iload_n 3, 1) := by decide +kernel
theorem dX8_fromRow_95 : decode cX8_fromRow 95 = .ok (.putfield 54, 3) := by decide +kernel
theorem dX8_fromRow_98 : decode cX8_fromRow 98 = .ok (.iload 4, 2) := by decide +kernel
theorem dX8_fromRow_100 : decode cX8_fromRow 100 = .ok (.ireturn, 1) := by decide +kernel
theorem dX8_write_0 : decode cX8_write 0 = .ok (.aload_n 0, 1) := by decide +kernel
theorem dX8_write_1 : decode cX8_write 1 = .ok (.getfield 54, 3) := by decide +kernel
theorem dX8_write_4 : decode cX8_write 4 = .ok (.istore_n 3, 1) := by decide +kernel
theorem dX8_write_5 : decode cX8_write 5 = .ok (.aload_n 2, 1) := by decide +kernel
theorem dX8_write_6 : decode cX8_write 6 = .ok (.invokevirtual 149, 3) := by decide +kernel
theorem dX8_write_9 : decode cX8_write 9 = .ok (.ifCond .ne 4, 3) := by decide +kernel
theorem dX8_write_12 : decode cX8_write 12 = .ok (.return_, 1) := by decide +kernel
theorem dX8_write_13 : decode cX8_write 13 = .ok (.aload_n 0, 1) := by decide +kernel
theorem dX8_write_14 : decode cX8_write 14 = .ok (.iload_n 1, 1) := by decide +kernel
theorem dX8_write_15 : decode cX8_write 15 = .ok (.invokevirtual 146, 3) := by decide +kernel
theorem dX8_write_18 : decode cX8_write 18 = .ok (.iconst 0, 1) := by decide +kernel
theorem dX8_write_19 : decode cX8_write 19 = .ok (.istore 4, 2) := by decide +kernel
theorem dX8_write_21 : decode cX8_write 21 = .ok (.iload 4, 2) := by decide +kernel
theorem dX8_write_23 : decode cX8_write 23 = .ok (.bipush 20, 2) := by decide +kernel
theorem dX8_write_25 : decode cX8_write 25 = .ok (.if_icmp .ge 69, 3) := by decide +kernel
theorem dX8_write_28 : decode cX8_write 28 = .ok (.aload_n 0, 1) := by decide +kernel
theorem dX8_write_29 : decode cX8_write 29 = .ok (.getfield 54, 3) := by decide +kernel
theorem dX8_write_32 : decode cX8_write 32 = .ok (.iload_n 3, 1) := by decide +kernel
theorem dX8_write_33 : decode cX8_write 33 = .ok (.if_icmp .le 61, 3) := by decide +kernel
theorem dX8_write_36 : decode cX8_write 36 = .ok (.aload_n 0, 1) := by decide +kernel
theorem dX8_write_37 : decode cX8_write 37 = .ok (.invokevirtual 142, 3) := by decide +kernel
theorem dX8_write_40 : decode cX8_write 40 = .ok (.istore 5, 2) := by decide +kernel
theorem dX8_write_42 : decode cX8_write 42 = .ok (.aload_n 0, 1) := by decide +kernel
theorem dX8_write_43 : decode cX8_write 43 = .ok (.iload 5, 2) := by decide +kernel
theorem dX8_write_45 : decode cX8_write 45 = .ok (.invokevirtual 70, 3) := by decide +kernel
theorem dX8_write_48 : decode cX8_write 48 = .ok (.istore 6, 2) := by decide +kernel
theorem dX8_write_50 : decode cX8_write 50 = .ok (.aload_n 2, 1) := by decide +kernel
theorem dX8_write_51 : decode cX8_write 51 = .ok (.iload 6, 2) := by decide +kernel
theorem dX8_write_53 : decode cX8_write 53 = .ok (.invokevirtual 153, 3) := by decide +kernel
theorem dX8_write_56 : decode cX8_write 56 = .ok (.iload 6, 2) := by decide +kernel
theorem dX8_write_58 : decode cX8_write 58 = .ok (.invokestatic 85, 3) := by decide +kernel
theorem dX8_write_61 : decode cX8_write 61 = .ok (.iconst 1, 1) := by decide +kernel
theorem dX8_write_62 : decode cX8_write 62 = .ok (.isub, 1) := by decide +kernel
theorem dX8_write_63 : decode cX8_write 63 = .ok (.istore 7, 2) := by decide +kernel
theorem dX8_write_65 : decode cX8_write 65 = .ok (.iload 7, 2) := by decide +kernel
theorem dX8_write_67 : decode cX8_write 67 = .ok (.ifCond .lt 21, 3) := by decide +kernel
theorem dX8_write_70 : decode cX8_write 70 = .ok (.aload_n 0, 1) := by decide +kernel
theorem dX8_write_71 : decode cX8_write 71 = .ok (.aload_n 0, 1) := by decide +kernel
theorem dX8_write_72 : decode cX8_write 72 = .ok (.iload 5, 2) := by decide +kernel
theorem dX8_write_74 : decode cX8_write 74 = .ok (.iload 7, 2) := by decide +kernel
theorem dX8_write_76 : decode cX8_write 76 = .ok (.invokevirtual 156, 3) := by decide +kernel
theorem dX8_write_79 : decode cX8_write 79 = .ok (.invokevirtual 146, 3) := by decide +kernel
theorem dX8_write_82 : decode cX8_write 82 = .ok (.iinc 7 (-1), 3) := by decide +kernel
theorem dX8_write_85 : decode cX8_write 85 = .ok (.goto (-20), 3) := by decide +kernel
theorem dX8_write_88 : decode cX8_write 88 = .ok (.iinc 4 1, 3) := by decide +kernel
theorem dX8_write_91 : decode cX8_write 91 = .ok (.goto (-70), 3) := by decide +kernel
theorem dX8_write_94 : decode cX8_write 94 = .ok (.aload_n 0, 1) := by decide +kernel
theorem dX8_write_95 : decode cX8_write 95 = .ok (.iload_n 3, 1) := by decide +kernel
theorem dX8_write_96 : decode cX8_write 96 = .ok (.putfield 54, 3) := by decide +kernel
theorem dX8_write_99 : decode cX8_write 99 = .ok (.return_, 1) := by decide +kernel
theorem dX8_push_0 : decode cX8_push 0 = .ok (.aload_n 0, 1) := by decide +kernel
theorem dX8_push_1 : decode cX8_push 1 = .ok (.getfield 54, 3) := by decide +kernel
theorem dX8_push_4 : decode cX8_push 4 = .ok (.ifCond .lt 35, 3) := by decide +kernel
theorem dX8_push_7 : decode cX8_push 7 = .ok (.aload_n 0, 1) := by decide +kernel
theorem dX8_push_8 : decode cX8_push 8 = .ok (.getfield 54, 3) := by decide +kernel
theorem dX8_push_11 : decode cX8_push 11 = .ok (.aload_n 0, 1) := by decide +kernel
theorem dX8_push_12 : decode cX8_push 12 = .ok (.getfield 43, 3) := by decide +kernel
theorem dX8_push_15 : decode cX8_push 15 = .ok (.arraylength, 1) := by decide +kernel
theorem dX8_push_16 : decode cX8_push 16 = .ok (.if_icmp .ge 23, 3) := by decide +kernel
theorem dX8_push_19 : decode cX8_push 19 = .ok (.aload_n 0, 1) := by decide +kernel
theorem dX8_push_20 : decode cX8_push 20 = .ok (.getfield 43, 3) := by decide +kernel
theorem dX8_push_23 : decode cX8_push 23 = .ok (.aload_n 0, 1) := by decide +kernel
theorem dX8_push_24 : decode cX8_push 24 = .ok (.getfield 54, 3) := by decide +kernel
theorem dX8_push_27 : decode cX8_push 27 = .ok (.iload_n 1, 1) := by decide +kernel
theorem dX8_push_28 : decode cX8_push 28 = .ok (.iastore, 1) := by decide +kernel
theorem dX8_push_29 : decode cX8_push 29 = .ok (.aload_n 0, 1) := by decide +kernel
theorem dX8_push_30 : decode cX8_push 30 = .ok (.dup, 1) := by decide +kernel
