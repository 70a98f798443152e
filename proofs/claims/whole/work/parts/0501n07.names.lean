theorem dX0_bind_1 : decode cX0_bind 1 = .ok (.ifCond .lt 27, 3) := by decide +kernel
theorem dX0_bind_4 : decode cX0_bind 4 = .ok (.iload_n 1, 1) := by decide +kernel
theorem dX0_bind_5 : decode cX0_bind 5 = .ok (.iconst 5, 1) := by decide +kernel
theorem dX0_bind_6 : decode cX0_bind 6 = .ok (.if_icmp .ge 22, 3) := by decide +kernel
theorem dX0_bind_9 : decode cX0_bind 9 = .ok (.aload_n 0, 1) := by decide +kernel
theorem dX0_bind_10 : decode cX0_bind 10 = .ok (.getfield 26, 3) := by decide +kernel
theorem dX0_bind_13 : decode cX0_bind 13 = .ok (.iload_n 1, 1) := by decide +kernel
theorem dX0_bind_14 : decode cX0_bind 14 = .ok (.iload_n 2, 1) := by decide +kernel
theorem dX0_bind_15 : decode cX0_bind 15 = .ok (.iastore, 1) := by decide +kernel
theorem dX0_bind_16 : decode cX0_bind 16 = .ok (.aload_n 0, 1) := by decide +kernel
theorem dX0_bind_17 : decode cX0_bind 17 = .ok (.dup, 1) := by decide +kernel
theorem dX0_bind_18 : decode cX0_bind 18 = .ok (.getfield 67, 3) := by decide +kernel
theorem dX0_bind_21 : decode cX0_bind 21 = .ok (.iconst 1, 1) := by decide +kernel
theorem dX0_bind_22 : decode cX0_bind 22 = .ok (.iload_n 1, 1) := by decide +kernel
theorem dX0_bind_23 : decode cX0_bind 23 = .ok (.ishl, 1) := by decide +kernel
theorem dX0_bind_24 : decode cX0_bind 24 = .ok (.ior, 1) := by decide +kernel
theorem dX0_bind_25 : decode cX0_bind 25 = .ok (.putfield 67, 3) := by decide +kernel
theorem dX0_bind_28 : decode cX0_bind 28 = .ok (.return_, 1) := by decide +kernel
theorem dX0_fits_0 : decode cX0_fits 0 = .ok (.aload_n 0, 1) := by decide +kernel
theorem dX0_fits_1 : decode cX0_fits 1 = .ok (.getfield 53, 3) := by decide +kernel
theorem dX0_fits_4 : decode cX0_fits 4 = .ok (.iload_n 1, 1) := by decide +kernel
theorem dX0_fits_5 : decode cX0_fits 5 = .ok (.invokevirtual 114, 3) := by decide +kernel
theorem dX0_fits_8 : decode cX0_fits 8 = .ok (.lstore_n 3, 1) := by decide +kernel
theorem dX0_fits_9 : decode cX0_fits 9 = .ok (.aload_n 0, 1) := by decide +kernel
theorem dX0_fits_10 : decode cX0_fits 10 = .ok (.getfield 53, 3) := by decide +kernel
theorem dX0_fits_13 : decode cX0_fits 13 = .ok (.iload_n 2, 1) := by decide +kernel
theorem dX0_fits_14 : decode cX0_fits 14 = .ok (.invokevirtual 114, 3) := by decide +kernel
theorem dX0_fits_17 : decode cX0_fits 17 = .ok (.ldc2_w 118, 3) := by decide +kernel
theorem dX0_fits_20 : decode cX0_fits 20 = .ok (.lor, 1) := by decide +kernel
theorem dX0_fits_21 : decode cX0_fits 21 = .ok (.lload_n 3, 1) := by decide +kernel
theorem dX0_fits_22 : decode cX0_fits 22 = .ok (.ldc2_w 120, 3) := by decide +kernel
theorem dX0_fits_25 : decode cX0_fits 25 = .ok (.land, 1) := by decide +kernel
theorem dX0_fits_26 : decode cX0_fits 26 = .ok (.lsub, 1) := by decide +kernel
theorem dX0_fits_27 : decode cX0_fits 27 = .ok (.lstore 5, 2) := by decide +kernel
theorem dX0_fits_29 : decode cX0_fits 29 = .ok (.aload_n 0, 1) := by decide +kernel
theorem dX0_fits_30 : decode cX0_fits 30 = .ok (.getfield 53, 3) := by decide +kernel
theorem dX0_fits_33 : decode cX0_fits 33 = .ok (.iload_n 2, 1) := by decide +kernel
theorem dX0_fits_34 : decode cX0_fits 34 = .ok (.invokevirtual 122, 3) := by decide +kernel
theorem dX0_fits_37 : decode cX0_fits 37 = .ok (.ldc2_w 118, 3) := by decide +kernel
theorem dX0_fits_40 : decode cX0_fits 40 = .ok (.lor, 1) := by decide +kernel
theorem dX0_fits_41 : decode cX0_fits 41 = .ok (.aload_n 0, 1) := by decide +kernel
theorem dX0_fits_42 : decode cX0_fits 42 = .ok (.getfield 53, 3) := by decide +kernel
theorem dX0_fits_45 : decode cX0_fits 45 = .ok (.iload_n 1, 1) := by decide +kernel
theorem dX0_fits_46 : decode cX0_fits 46 = .ok (.invokevirtual 122, 3) := by decide +kernel
theorem dX0_fits_49 : decode cX0_fits 49 = .ok (.lsub, 1) := by decide +kernel
theorem dX0_fits_50 : decode cX0_fits 50 = .ok (.lstore 7, 2) := by decide +kernel
theorem dX0_fits_52 : decode cX0_fits 52 = .ok (.iconst 0, 1) := by decide +kernel
theorem dX0_fits_53 : decode cX0_fits 53 = .ok (.istore 9, 2) := by decide +kernel
theorem dX0_fits_55 : decode cX0_fits 55 = .ok (.iload 9, 2) := by decide +kernel
theorem dX0_fits_57 : decode cX0_fits 57 = .ok (.iconst 5, 1) := by decide +kernel
theorem dX0_fits_58 : decode cX0_fits 58 = .ok (.if_icmp .ge 113, 3) := by decide +kernel
theorem dX0_fits_61 : decode cX0_fits 61 = .ok (.aload_n 0, 1) := by decide +kernel
theorem dX0_fits_62 : decode cX0_fits 62 = .ok (.getfield 67, 3) := by decide +kernel
theorem dX0_fits_65 : decode cX0_fits 65 = .ok (.iload 9, 2) := by decide +kernel
theorem dX0_fits_67 : decode cX0_fits 67 = .ok (.ishr, 1) := by decide +kernel
theorem dX0_fits_68 : decode cX0_fits 68 = .ok (.iconst 1, 1) := by decide +kernel
theorem dX0_fits_69 : decode cX0_fits 69 = .ok (.iand, 1) := by decide +kernel
theorem dX0_fits_70 : decode cX0_fits 70 = .ok (.ifCond .eq 7, 3) := by decide +kernel
theorem dX0_fits_73 : decode cX0_fits 73 = .ok (.iconst 1, 1) := by decide +kernel
theorem dX0_fits_74 : decode cX0_fits 74 = .ok (.goto 4, 3) := by decide +kernel
theorem dX0_fits_77 : decode cX0_fits 77 = .ok (.iconst 0, 1) := by decide +kernel
theorem dX0_fits_78 : decode cX0_fits 78 = .ok (.istore 10, 2) := by decide +kernel
theorem dX0_fits_80 : decode cX0_fits 80 = .ok (.lload_n 3, 1) := by decide +kernel
theorem dX0_fits_81 : decode cX0_fits 81 = .ok (.bipush 6, 2) := by decide +kernel
theorem dX0_fits_83 : decode cX0_fits 83 = .ok (.iload 9, 2) := by decide +kernel
theorem dX0_fits_85 : decode cX0_fits 85 = .ok (.imul, 1) := by decide +kernel
theorem dX0_fits_86 : decode cX0_fits 86 = .ok (.lshr, 1) := by decide +kernel
theorem dX0_fits_87 : decode cX0_fits 87 = .ok (.l2i, 1) := by decide +kernel
theorem dX0_fits_88 : decode cX0_fits 88 = .ok (.bipush 31, 2) := by decide +kernel
theorem dX0_fits_90 : decode cX0_fits 90 = .ok (.iand, 1) := by decide +kernel
theorem dX0_fits_91 : decode cX0_fits 91 = .ok (.istore 11, 2) := by decide +kernel
theorem dX0_fits_93 : decode cX0_fits 93 = .ok (.iload 10, 2) := by decide +kernel
theorem dX0_fits_95 : decode cX0_fits 95 = .ok (.ifCond .eq 70, 3) := by decide +kernel
theorem dX0_fits_98 : decode cX0_fits 98 = .ok (.iload 11, 2) := by decide +kernel
theorem dX0_fits_100 : decode cX0_fits 100 = .ok (.ifCond .le 65, 3) := by decide +kernel
theorem dX0_fits_103 : decode cX0_fits 103 = .ok (.lload 5, 2) := by decide +kernel
theorem dX0_fits_105 : decode cX0_fits 105 = .ok (.lload 7, 2) := by decide +kernel
theorem dX0_fits_107 : decode cX0_fits 107 = .ok (.land, 1) := by decide +kernel
theorem dX0_fits_108 : decode cX0_fits 108 = .ok (.ldc2_w 118, 3) := by decide +kernel
theorem dX0_fits_111 : decode cX0_fits 111 = .ok (.land, 1) := by decide +kernel
theorem dX0_fits_112 : decode cX0_fits 112 = .ok (.ldc2_w 118, 3) := by decide +kernel
theorem dX0_fits_115 : decode cX0_fits 115 = .ok (.lcmp, 1) := by decide +kernel
theorem dX0_fits_116 : decode cX0_fits 116 = .ok (.ifCond .eq 5, 3) := by decide +kernel
theorem dX0_fits_119 : decode cX0_fits 119 = .ok (.iconst 0, 1) := by decide +kernel
theorem dX0_fits_120 : decode cX0_fits 120 = .ok (.ireturn, 1) := by decide +kernel
theorem dX0_fits_121 : decode cX0_fits 121 = .ok (.lload 5, 2) := by decide +kernel
theorem dX0_fits_123 : decode cX0_fits 123 = .ok (.aload_n 0, 1) := by decide +kernel
theorem dX0_fits_124 : decode cX0_fits 124 = .ok (.getfield 53, 3) := by decide +kernel
theorem dX0_fits_127 : decode cX0_fits 127 = .ok (.aload_n 0, 1) := by decide +kernel
theorem dX0_fits_128 : decode cX0_fits 128 = .ok (.getfield 26, 3) := by decide +kernel
theorem dX0_fits_131 : decode cX0_fits 131 = .ok (.iload 9, 2) := by decide +kernel
theorem dX0_fits_133 : decode cX0_fits 133 = .ok (.iaload, 1) := by decide +kernel
theorem dX0_fits_134 : decode cX0_fits 134 = .ok (.invokevirtual 114, 3) := by decide +kernel
theorem dX0_fits_137 : decode cX0_fits 137 = .ok (.lsub, 1) := by decide +kernel
theorem dX0_fits_138 : decode cX0_fits 138 = .ok (.lstore 5, 2) := by decide +kernel
theorem dX0_fits_140 : decode cX0_fits 140 = .ok (.lload 7, 2) := by decide +kernel
theorem dX0_fits_142 : decode cX0_fits 142 = .ok (.aload_n 0, 1) := by decide +kernel
theorem dX0_fits_143 : decode cX0_fits 143 = .ok (.getfield 53, 3) := by decide +kernel
theorem dX0_fits_146 : decode cX0_fits 146 = .ok (.aload_n 0, 1) := by decide +kernel
theorem dX0_fits_147 : decode cX0_fits 147 = .ok (.getfield 26, 3) := by decide +kernel
theorem dX0_fits_150 : decode cX0_fits 150 = .ok (.iload 9, 2) := by decide +kernel
theorem dX0_fits_152 : decode cX0_fits 152 = .ok (.iaload, 1) := by decide +kernel
theorem dX0_fits_153 : decode cX0_fits 153 = .ok (.invokevirtual 122, 3) := by decide +kernel
theorem dX0_fits_156 : decode cX0_fits 156 = .ok (.lsub, 1) := by decide +kernel
theorem dX0_fits_157 : decode cX0_fits 157 = .ok (.lstore 7, 2) := by decide +kernel
theorem dX0_fits_159 : decode cX0_fits 159 = .ok (.iinc 11 (-1), 3) := by decide +kernel
theorem dX0_fits_162 : decode cX0_fits 162 = .ok (.goto (-69), 3) := by decide +kernel
theorem dX0_fits_165 : decode cX0_fits 165 = .ok (.iinc 9 1, 3) := by decide +kernel
theorem dX0_fits_168 : decode cX0_fits 168 = .ok (.goto (-113), 3) := by decide +kernel
theorem dX0_fits_171 : decode cX0_fits 171 = .ok (.lload 5, 2) := by decide +kernel
theorem dX0_fits_173 : decode cX0_fits 173 = .ok (.lload 7, 2) := by decide +kernel
theorem dX0_fits_175 : decode cX0_fits 175 = .ok (.land, 1) := by decide +kernel
theorem dX0_fits_176 : decode cX0_fits 176 = .ok (.ldc2_w 118, 3) := by decide +kernel
theorem dX0_fits_179 : decode cX0_fits 179 = .ok (.land, 1) := by decide +kernel
theorem dX0_fits_180 : decode cX0_fits 180 = .ok (.ldc2_w 118, 3) := by decide +kernel
theorem dX0_fits_183 : decode cX0_fits 183 = .ok (.lcmp, 1) := by decide +kernel
theorem dX0_fits_184 : decode cX0_fits 184 = .ok (.ifCond .ne 7, 3) := by decide +kernel
theorem dX0_fits_187 : decode cX0_fits 187 = .ok (.iconst 1, 1) := by decide +kernel
theorem dX0_fits_188 : decode cX0_fits 188 = .ok (.goto 4, 3) := by decide +kernel
theorem dX0_fits_191 : decode cX0_fits 191 = .ok (.iconst 0, 1) := by decide +kernel
theorem dX0_fits_192 : decode cX0_fits 192 = .ok (.ireturn, 1) := by decide +kernel
theorem dX0_meetPlain_0 : decode cX0_meetPlain 0 = .ok (.iload_n 1, 1) := by decide +kernel
theorem dX0_meetPlain_1 : decode cX0_meetPlain 1 = .ok (.ifCond .lt 10, 3) := by decide +kernel
theorem dX0_meetPlain_4 : decode cX0_meetPlain 4 = .ok (.iload_n 1, 1) := by decide +kernel
theorem dX0_meetPlain_5 : decode cX0_meetPlain 5 = .ok (.sipush 256, 3) := by decide +kernel
theorem dX0_meetPlain_8 : decode cX0_meetPlain 8 = .ok (.if_icmp .lt 6, 3) := by decide +kernel
theorem dX0_meetPlain_11 : decode cX0_meetPlain 11 = .ok (.bipush (-2), 2) := by decide +kernel
theorem dX0_meetPlain_13 : decode cX0_meetPlain 13 = .ok (.ireturn, 1) := by decide +kernel
theorem dX0_meetPlain_14 : decode cX0_meetPlain 14 = .ok (.aload_n 0, 1) := by decide +kernel
theorem dX0_meetPlain_15 : decode cX0_meetPlain 15 = .ok (.getfield 13, 3) := by decide +kernel
theorem dX0_meetPlain_18 : decode cX0_meetPlain 18 = .ok (.iload_n 1, 1) := by decide +kernel
theorem dX0_meetPlain_19 : decode cX0_meetPlain 19 = .ok (.iaload, 1) := by decide +kernel
theorem dX0_meetPlain_20 : decode cX0_meetPlain 20 = .ok (.istore_n 2, 1) := by decide +kernel
theorem dX0_meetPlain_21 : decode cX0_meetPlain 21 = .ok (.aload_n 0, 1) := by decide +kernel
theorem dX0_meetPlain_22 : decode cX0_meetPlain 22 = .ok (.getfield 20, 3) := by decide +kernel
theorem dX0_meetPlain_25 : decode cX0_meetPlain 25 = .ok (.iload_n 1, 1) := by decide +kernel
theorem dX0_meetPlain_26 : decode cX0_meetPlain 26 = .ok (.iaload, 1) := by decide +kernel
theorem dX0_meetPlain_27 : decode cX0_meetPlain 27 = .ok (.istore_n 3, 1) := by decide +kernel
theorem dX0_meetPlain_28 : decode cX0_meetPlain 28 = .ok (.aload_n 0, 1) := by decide +kernel
theorem dX0_meetPlain_29 : decode cX0_meetPlain 29 = .ok (.getfield 53, 3) := by decide +kernel
theorem dX0_meetPlain_32 : decode cX0_meetPlain 32 = .ok (.iload_n 2, 1) := by decide +kernel
theorem dX0_meetPlain_33 : decode cX0_meetPlain 33 = .ok (.invokevirtual 125, 3) := by decide +kernel
theorem dX0_meetPlain_36 : decode cX0_meetPlain 36 = .ok (.istore 4, 2) := by decide +kernel
theorem dX0_meetPlain_38 : decode cX0_meetPlain 38 = .ok (.aload_n 0, 1) := by decide +kernel
theorem dX0_meetPlain_39 : decode cX0_meetPlain 39 = .ok (.getfield 53, 3) := by decide +kernel
theorem dX0_meetPlain_42 : decode cX0_meetPlain 42 = .ok (.iload_n 2, 1) := by decide +kernel
theorem dX0_meetPlain_43 : decode cX0_meetPlain 43 = .ok (.invokevirtual 128, 3) := by decide +kernel
theorem dX0_meetPlain_46 : decode cX0_meetPlain 46 = .ok (.aload_n 0, 1) := by decide +kernel
theorem dX0_meetPlain_47 : decode cX0_meetPlain 47 = .ok (.getfield 67, 3) := by decide +kernel
theorem dX0_meetPlain_50 : decode cX0_meetPlain 50 = .ok (.iconst (-1), 1) := by decide +kernel
theorem dX0_meetPlain_51 : decode cX0_meetPlain 51 = .ok (.ixor, 1) := by decide +kernel
theorem dX0_meetPlain_52 : decode cX0_meetPlain 52 = .ok (.iand, 1) := by decide +kernel
theorem dX0_meetPlain_53 : decode cX0_meetPlain 53 = .ok (.ifCond .ne 63, 3) := by decide +kernel
theorem dX0_meetPlain_56 : decode cX0_meetPlain 56 = .ok (.aload_n 0, 1) := by decide +kernel
theorem dX0_meetPlain_57 : decode cX0_meetPlain 57 = .ok (.getfield 53, 3) := by decide +kernel
theorem dX0_meetPlain_60 : decode cX0_meetPlain 60 = .ok (.getfield 131, 3) := by decide +kernel
theorem dX0_meetPlain_63 : decode cX0_meetPlain 63 = .ok (.istore 5, 2) := by decide +kernel
theorem dX0_meetPlain_65 : decode cX0_meetPlain 65 = .ok (.aload_n 0, 1) := by decide +kernel
theorem dX0_meetPlain_66 : decode cX0_meetPlain 66 = .ok (.getfield 53, 3) := by decide +kernel
theorem dX0_meetPlain_69 : decode cX0_meetPlain 69 = .ok (.iload_n 2, 1) := by decide +kernel
theorem dX0_meetPlain_70 : decode cX0_meetPlain 70 = .ok (.aload_n 0, 1) := by decide +kernel
theorem dX0_meetPlain_71 : decode cX0_meetPlain 71 = .ok (.getfield 26, 3) := by decide +kernel
theorem dX0_meetPlain_74 : decode cX0_meetPlain 74 = .ok (.iconst 0, 1) := by decide +kernel
theorem dX0_meetPlain_75 : decode cX0_meetPlain 75 = .ok (.iconst 0, 1) := by decide +kernel
theorem dX0_meetPlain_76 : decode cX0_meetPlain 76 = .ok (.invokevirtual 132, 3) := by decide +kernel
theorem dX0_meetPlain_79 : decode cX0_meetPlain 79 = .ok (.iload_n 3, 1) := by decide +kernel
theorem dX0_meetPlain_80 : decode cX0_meetPlain 80 = .ok (.if_icmp .ne 7, 3) := by decide +kernel
theorem dX0_meetPlain_83 : decode cX0_meetPlain 83 = .ok (.iconst 1, 1) := by decide +kernel
theorem dX0_meetPlain_84 : decode cX0_meetPlain 84 = .ok (.goto 4, 3) := by decide +kernel
theorem dX0_meetPlain_87 : decode cX0_meetPlain 87 = .ok (.iconst 0, 1) := by decide +kernel
theorem dX0_meetPlain_88 : decode cX0_meetPlain 88 = .ok (.istore 6, 2) := by decide +kernel
theorem dX0_meetPlain_90 : decode cX0_meetPlain 90 = .ok (.aload_n 0, 1) := by decide +kernel
theorem dX0_meetPlain_91 : decode cX0_meetPlain 91 = .ok (.getfield 53, 3) := by decide +kernel
theorem dX0_meetPlain_94 : decode cX0_meetPlain 94 = .ok (.iload 5, 2) := by decide +kernel
theorem dX0_meetPlain_96 : decode cX0_meetPlain 96 = .ok (.invokevirtual 136, 3) := by decide +kernel
theorem dX0_meetPlain_99 : decode cX0_meetPlain 99 = .ok (.iload 6, 2) := by decide +kernel
theorem dX0_meetPlain_101 : decode cX0_meetPlain 101 = .ok (.ifCond .eq 12, 3) := by decide +kernel
theorem dX0_meetPlain_104 : decode cX0_meetPlain 104 = .ok (.aload_n 0, 1) := by decide +kernel
theorem dX0_meetPlain_105 : decode cX0_meetPlain 105 = .ok (.getfield 23, 3) := by decide +kernel
theorem dX0_meetPlain_108 : decode cX0_meetPlain 108 = .ok (.iload_n 1, 1) := by decide +kernel
theorem dX0_meetPlain_109 : decode cX0_meetPlain 109 = .ok (.iaload, 1) := by decide +kernel
theorem dX0_meetPlain_110 : decode cX0_meetPlain 110 = .ok (.goto 5, 3) := by decide +kernel
theorem dX0_meetPlain_113 : decode cX0_meetPlain 113 = .ok (.bipush (-2), 2) := by decide +kernel
theorem dX0_meetPlain_115 : decode cX0_meetPlain 115 = .ok (.ireturn, 1) := by decide +kernel
theorem dX0_meetPlain_116 : decode cX0_meetPlain 116 = .ok (.iload 4, 2) := by decide +kernel
theorem dX0_meetPlain_118 : decode cX0_meetPlain 118 = .ok (.bipush 8, 2) := by decide +kernel
theorem dX0_meetPlain_120 : decode cX0_meetPlain 120 = .ok (.if_icmp .ge 37, 3) := by decide +kernel
theorem dX0_meetPlain_123 : decode cX0_meetPlain 123 = .ok (.aload_n 0, 1) := by decide +kernel
theorem dX0_meetPlain_124 : decode cX0_meetPlain 124 = .ok (.iload 4, 2) := by decide +kernel
theorem dX0_meetPlain_126 : decode cX0_meetPlain 126 = .ok (.iload_n 3, 1) := by decide +kernel
theorem dX0_meetPlain_127 : decode cX0_meetPlain 127 = .ok (.invokevirtual 140, 3) := by decide +kernel
theorem dX0_meetPlain_130 : decode cX0_meetPlain 130 = .ok (.aload_n 0, 1) := by decide +kernel
theorem dX0_meetPlain_131 : decode cX0_meetPlain 131 = .ok (.aload_n 0, 1) := by decide +kernel
theorem dX0_meetPlain_132 : decode cX0_meetPlain 132 = .ok (.getfield 70, 3) := by decide +kernel
theorem dX0_meetPlain_135 : decode cX0_meetPlain 135 = .ok (.aload_n 0, 1) := by decide +kernel
theorem dX0_meetPlain_136 : decode cX0_meetPlain 136 = .ok (.getfield 73, 3) := by decide +kernel
theorem dX0_meetPlain_139 : decode cX0_meetPlain 139 = .ok (.invokevirtual 76, 3) := by decide +kernel
theorem dX0_meetPlain_142 : decode cX0_meetPlain 142 = .ok (.ifCond .eq 12, 3) := by decide +kernel
theorem dX0_meetPlain_145 : decode cX0_meetPlain 145 = .ok (.aload_n 0, 1) := by decide +kernel
theorem dX0_meetPlain_146 : decode cX0_meetPlain 146 = .ok (.getfield 23, 3) := by decide +kernel
theorem dX0_meetPlain_149 : decode cX0_meetPlain 149 = .ok (.iload_n 1, 1) := by decide +kernel
theorem dX0_meetPlain_150 : decode cX0_meetPlain 150 = .ok (.iaload, 1) := by decide +kernel
theorem dX0_meetPlain_151 : decode cX0_meetPlain 151 = .ok (.goto 5, 3) := by decide +kernel
theorem dX0_meetPlain_154 : decode cX0_meetPlain 154 = .ok (.bipush (-2), 2) := by decide +kernel
theorem dX0_meetPlain_156 : decode cX0_meetPlain 156 = .ok (.ireturn, 1) := by decide +kernel
theorem dX0_meetPlain_157 : decode cX0_meetPlain 157 = .ok (.aload_n 0, 1) := by decide +kernel
theorem dX0_meetPlain_158 : decode cX0_meetPlain 158 = .ok (.getfield 53, 3) := by decide +kernel
theorem dX0_meetPlain_161 : decode cX0_meetPlain 161 = .ok (.iload_n 3, 1) := by decide +kernel
theorem dX0_meetPlain_162 : decode cX0_meetPlain 162 = .ok (.invokevirtual 125, 3) := by decide +kernel
theorem dX0_meetPlain_165 : decode cX0_meetPlain 165 = .ok (.iload 4, 2) := by decide +kernel
theorem dX0_meetPlain_167 : decode cX0_meetPlain 167 = .ok (.if_icmp .eq 6, 3) := by decide +kernel
theorem dX0_meetPlain_170 : decode cX0_meetPlain 170 = .ok (.bipush (-2), 2) := by decide +kernel
theorem dX0_meetPlain_172 : decode cX0_meetPlain 172 = .ok (.ireturn, 1) := by decide +kernel
theorem dX0_meetPlain_173 : decode cX0_meetPlain 173 = .ok (.aload_n 0, 1) := by decide +kernel
theorem dX0_meetPlain_174 : decode cX0_meetPlain 174 = .ok (.getfield 53, 3) := by decide +kernel
theorem dX0_meetPlain_177 : decode cX0_meetPlain 177 = .ok (.iload_n 2, 1) := by decide +kernel
theorem dX0_meetPlain_178 : decode cX0_meetPlain 178 = .ok (.invokevirtual 85, 3) := by decide +kernel
theorem dX0_meetPlain_181 : decode cX0_meetPlain 181 = .ok (.iconst 1, 1) := by decide +kernel
theorem dX0_meetPlain_182 : decode cX0_meetPlain 182 = .ok (.if_icmp .ne 13, 3) := by decide +kernel
theorem dX0_meetPlain_185 : decode cX0_meetPlain 185 = .ok (.aload_n 0, 1) := by decide +kernel
theorem dX0_meetPlain_186 : decode cX0_meetPlain 186 = .ok (.iload_n 1, 1) := by decide +kernel
theorem dX0_meetPlain_187 : decode cX0_meetPlain 187 = .ok (.iconst 0, 1) := by decide +kernel
theorem dX0_meetPlain_188 : decode cX0_meetPlain 188 = .ok (.iconst 2, 1) := by decide +kernel
theorem dX0_meetPlain_189 : decode cX0_meetPlain 189 = .ok (.invokevirtual 144, 3) := by decide +kernel
theorem dX0_meetPlain_192 : decode cX0_meetPlain 192 = .ok (.bipush (-2), 2) := by decide +kernel
theorem dX0_meetPlain_194 : decode cX0_meetPlain 194 = .ok (.ireturn, 1) := by decide +kernel
theorem dX0_meetPlain_195 : decode cX0_meetPlain 195 = .ok (.aload_n 0, 1) := by decide +kernel
theorem dX0_meetPlain_196 : decode cX0_meetPlain 196 = .ok (.iload_n 1, 1) := by decide +kernel
theorem dX0_meetPlain_197 : decode cX0_meetPlain 197 = .ok (.invokevirtual 148, 3) := by decide +kernel
theorem dX0_meetPlain_200 : decode cX0_meetPlain 200 = .ok (.ireturn, 1) := by decide +kernel
theorem dX0_meetParts_0 : decode cX0_meetParts 0 = .ok (.iload_n 1, 1) := by decide +kernel
theorem dX0_meetParts_1 : decode cX0_meetParts 1 = .ok (.ifCond .lt 10, 3) := by decide +kernel
theorem dX0_meetParts_4 : decode cX0_meetParts 4 = .ok (.iload_n 1, 1) := by decide +kernel
theorem dX0_meetParts_5 : decode cX0_meetParts 5 = .ok (.sipush 256, 3) := by decide +kernel
theorem dX0_meetParts_8 : decode cX0_meetParts 8 = .ok (.if_icmp .lt 6, 3) := by decide +kernel
theorem dX0_meetParts_11 : decode cX0_meetParts 11 = .ok (.bipush (-2), 2) := by decide +kernel
theorem dX0_meetParts_13 : decode cX0_meetParts 13 = .ok (.ireturn, 1) := by decide +kernel
theorem dX0_meetParts_14 : decode cX0_meetParts 14 = .ok (.aload_n 0, 1) := by decide +kernel
theorem dX0_meetParts_15 : decode cX0_meetParts 15 = .ok (.getfield 13, 3) := by decide +kernel
theorem dX0_meetParts_18 : decode cX0_meetParts 18 = .ok (.iload_n 1, 1) := by decide +kernel
theorem dX0_meetParts_19 : decode cX0_meetParts 19 = .ok (.iaload, 1) := by decide +kernel
theorem dX0_meetParts_20 : decode cX0_meetParts 20 = .ok (.istore_n 2, 1) := by decide +kernel
theorem dX0_meetParts_21 : decode cX0_meetParts 21 = .ok (.aload_n 0, 1) := by decide +kernel
theorem dX0_meetParts_22 : decode cX0_meetParts 22 = .ok (.getfield 20, 3) := by decide +kernel
theorem dX0_meetParts_25 : decode cX0_meetParts 25 = .ok (.iload_n 1, 1) := by decide +kernel
theorem dX0_meetParts_26 : decode cX0_meetParts 26 = .ok (.iaload, 1) := by decide +kernel
theorem dX0_meetParts_27 : decode cX0_meetParts 27 = .ok (.istore_n 3, 1) := by decide +kernel
theorem dX0_meetParts_28 : decode cX0_meetParts 28 = .ok (.aload_n 0, 1) := by decide +kernel
theorem dX0_meetParts_29 : decode cX0_meetParts 29 = .ok (.getfield 23, 3) := by decide +kernel
theorem dX0_meetParts_32 : decode cX0_meetParts 32 = .ok (.iload_n 1, 1) := by decide +kernel
theorem dX0_meetParts_33 : decode cX0_meetParts 33 = .ok (.iaload, 1) := by decide +kernel
theorem dX0_meetParts_34 : decode cX0_meetParts 34 = .ok (.istore 4, 2) := by decide +kernel
theorem dX0_meetParts_36 : decode cX0_meetParts 36 = .ok (.aload_n 0, 1) := by decide +kernel
theorem dX0_meetParts_37 : decode cX0_meetParts 37 = .ok (.getfield 53, 3) := by decide +kernel
theorem dX0_meetParts_40 : decode cX0_meetParts 40 = .ok (.iload_n 2, 1) := by decide +kernel
theorem dX0_meetParts_41 : decode cX0_meetParts 41 = .ok (.invokevirtual 125, 3) := by decide +kernel
theorem dX0_meetParts_44 : decode cX0_meetParts 44 = .ok (.invokestatic 151, 3) := by decide +kernel
theorem dX0_meetParts_47 : decode cX0_meetParts 47 = .ok (.istore 5, 2) := by decide +kernel
theorem dX0_meetParts_49 : decode cX0_meetParts 49 = .ok (.iconst 0, 1) := by decide +kernel
theorem dX0_meetParts_50 : decode cX0_meetParts 50 = .ok (.istore 6, 2) := by decide +kernel
theorem dX0_meetParts_52 : decode cX0_meetParts 52 = .ok (.iload 6, 2) := by decide +kernel
theorem dX0_meetParts_54 : decode cX0_meetParts 54 = .ok (.iconst 2, 1) := by decide +kernel
theorem dX0_meetParts_55 : decode cX0_meetParts 55 = .ok (.if_icmp .ge 95, 3) := by decide +kernel
theorem dX0_meetParts_58 : decode cX0_meetParts 58 = .ok (.iload 5, 2) := by decide +kernel
theorem dX0_meetParts_60 : decode cX0_meetParts 60 = .ok (.iconst 1, 1) := by decide +kernel
theorem dX0_meetParts_61 : decode cX0_meetParts 61 = .ok (.isub, 1) := by decide +kernel
theorem dX0_meetParts_62 : decode cX0_meetParts 62 = .ok (.istore 7, 2) := by decide +kernel
theorem dX0_meetParts_64 : decode cX0_meetParts 64 = .ok (.iload 7, 2) := by decide +kernel
theorem dX0_meetParts_66 : decode cX0_meetParts 66 = .ok (.ifCond .lt 78, 3) := by decide +kernel
theorem dX0_meetParts_69 : decode cX0_meetParts 69 = .ok (.aload_n 0, 1) := by decide +kernel
theorem dX0_meetParts_70 : decode cX0_meetParts 70 = .ok (.getfield 53, 3) := by decide +kernel
theorem dX0_meetParts_73 : decode cX0_meetParts 73 = .ok (.iload_n 2, 1) := by decide +kernel
theorem dX0_meetParts_74 : decode cX0_meetParts 74 = .ok (.iload 7, 2) := by decide +kernel
theorem dX0_meetParts_76 : decode cX0_meetParts 76 = .ok (.invokevirtual 154, 3) := by decide +kernel
theorem dX0_meetParts_79 : decode cX0_meetParts 79 = .ok (.istore 8, 2) := by decide +kernel
theorem dX0_meetParts_81 : decode cX0_meetParts 81 = .ok (.aload_n 0, 1) := by decide +kernel
theorem dX0_meetParts_82 : decode cX0_meetParts 82 = .ok (.getfield 53, 3) := by decide +kernel
theorem dX0_meetParts_85 : decode cX0_meetParts 85 = .ok (.iload 8, 2) := by decide +kernel
theorem dX0_meetParts_87 : decode cX0_meetParts 87 = .ok (.invokevirtual 85, 3) := by decide +kernel
theorem dX0_meetParts_90 : decode cX0_meetParts 90 = .ok (.ifCond .ne 7, 3) := by decide +kernel
theorem dX0_meetParts_93 : decode cX0_meetParts 93 = .ok (.iconst 1, 1) := by decide +kernel
theorem dX0_meetParts_94 : decode cX0_meetParts 94 = .ok (.goto 4, 3) := by decide +kernel
theorem dX0_meetParts_97 : decode cX0_meetParts 97 = .ok (.iconst 0, 1) := by decide +kernel
theorem dX0_meetParts_98 : decode cX0_meetParts 98 = .ok (.istore 9, 2) := by decide +kernel
theorem dX0_meetParts_100 : decode cX0_meetParts 100 = .ok (.iload 9, 2) := by decide +kernel
theorem dX0_meetParts_102 : decode cX0_meetParts 102 = .ok (.iload 6, 2) := by decide +kernel
theorem dX0_meetParts_104 : decode cX0_meetParts 104 = .ok (.iconst 1, 1) := by decide +kernel
theorem dX0_meetParts_105 : decode cX0_meetParts 105 = .ok (.if_icmp .ne 7, 3) := by decide +kernel
theorem dX0_meetParts_108 : decode cX0_meetParts 108 = .ok (.iconst 1, 1) := by decide +kernel
theorem dX0_meetParts_109 : decode cX0_meetParts 109 = .ok (.goto 4, 3) := by decide +kernel
theorem dX0_meetParts_112 : decode cX0_meetParts 112 = .ok (.iconst 0, 1) := by decide +kernel
theorem dX0_meetParts_113 : decode cX0_meetParts 113 = .ok (.if_icmp .ne 25, 3) := by decide +kernel
theorem dX0_meetParts_116 : decode cX0_meetParts 116 = .ok (.aload_n 0, 1) := by decide +kernel
theorem dX0_meetParts_117 : decode cX0_meetParts 117 = .ok (.iload 8, 2) := by decide +kernel
theorem dX0_meetParts_119 : decode cX0_meetParts 119 = .ok (.bipush 63, 2) := by decide +kernel
theorem dX0_meetParts_121 : decode cX0_meetParts 121 = .ok (.aload_n 0, 1) := by decide +kernel
theorem dX0_meetParts_122 : decode cX0_meetParts 122 = .ok (.getfield 53, 3) := by decide +kernel
theorem dX0_meetParts_125 : decode cX0_meetParts 125 = .ok (.iload_n 3, 1) := by decide +kernel
theorem dX0_meetParts_126 : decode cX0_meetParts 126 = .ok (.iload 7, 2) := by decide +kernel
theorem dX0_meetParts_128 : decode cX0_meetParts 128 = .ok (.invokevirtual 154, 3) := by decide +kernel
theorem dX0_meetParts_131 : decode cX0_meetParts 131 = .ok (.iload 4, 2) := by decide +kernel
theorem dX0_meetParts_133 : decode cX0_meetParts 133 = .ok (.invokevirtual 80, 3) := by decide +kernel
theorem dX0_meetParts_136 : decode cX0_meetParts 136 = .ok (.istore 4, 2) := by decide +kernel
theorem dX0_meetParts_138 : decode cX0_meetParts 138 = .ok (.iinc 7 (-1), 3) := by decide +kernel
theorem dX0_meetParts_141 : decode cX0_meetParts 141 = .ok (.goto (-77), 3) := by decide +kernel
theorem dX0_meetParts_144 : decode cX0_meetParts 144 = .ok (.iinc 6 1, 3) := by decide +kernel
theorem dX0_meetParts_147 : decode cX0_meetParts 147 = .ok (.goto (-95), 3) := by decide +kernel
theorem dX0_meetParts_150 : decode cX0_meetParts 150 = .ok (.iload 4, 2) := by decide +kernel
theorem dX0_meetParts_152 : decode cX0_meetParts 152 = .ok (.ireturn, 1) := by decide +kernel
theorem dX0_meetSum_0 : decode cX0_meetSum 0 = .ok (.iload_n 1, 1) := by decide +kernel
theorem dX0_meetSum_1 : decode cX0_meetSum 1 = .ok (.ifCond .lt 10, 3) := by decide +kernel
theorem dX0_meetSum_4 : decode cX0_meetSum 4 = .ok (.iload_n 1, 1) := by decide +kernel
theorem dX0_meetSum_5 : decode cX0_meetSum 5 = .ok (.sipush 256, 3) := by decide +kernel
theorem dX0_meetSum_8 : decode cX0_meetSum 8 = .ok (.if_icmp .lt 6, 3) := by decide +kernel
theorem dX0_meetSum_11 : decode cX0_meetSum 11 = .ok (.bipush (-2), 2) := by decide +kernel
theorem dX0_meetSum_13 : decode cX0_meetSum 13 = .ok (.ireturn, 1) := by decide +kernel
theorem dX0_meetSum_14 : decode cX0_meetSum 14 = .ok (.aload_n 0, 1) := by decide +kernel
theorem dX0_meetSum_15 : decode cX0_meetSum 15 = .ok (.getfield 13, 3) := by decide +kernel
theorem dX0_meetSum_18 : decode cX0_meetSum 18 = .ok (.iload_n 1, 1) := by decide +kernel
theorem dX0_meetSum_19 : decode cX0_meetSum 19 = .ok (.iaload, 1) := by decide +kernel
theorem dX0_meetSum_20 : decode cX0_meetSum 20 = .ok (.istore_n 2, 1) := by decide +kernel
theorem dX0_meetSum_21 : decode cX0_meetSum 21 = .ok (.aload_n 0, 1) := by decide +kernel
theorem dX0_meetSum_22 : decode cX0_meetSum 22 = .ok (.getfield 20, 3) := by decide +kernel
theorem dX0_meetSum_25 : decode cX0_meetSum 25 = .ok (.iload_n 1, 1) := by decide +kernel
theorem dX0_meetSum_26 : decode cX0_meetSum 26 = .ok (.iaload, 1) := by decide +kernel
theorem dX0_meetSum_27 : decode cX0_meetSum 27 = .ok (.istore_n 3, 1) := by decide +kernel
theorem dX0_meetSum_28 : decode cX0_meetSum 28 = .ok (.aload_n 0, 1) := by decide +kernel
theorem dX0_meetSum_29 : decode cX0_meetSum 29 = .ok (.getfield 53, 3) := by decide +kernel
theorem dX0_meetSum_32 : decode cX0_meetSum 32 = .ok (.iload_n 2, 1) := by decide +kernel
theorem dX0_meetSum_33 : decode cX0_meetSum 33 = .ok (.invokevirtual 125, 3) := by decide +kernel
theorem dX0_meetSum_36 : decode cX0_meetSum 36 = .ok (.istore 4, 2) := by decide +kernel
theorem dX0_meetSum_38 : decode cX0_meetSum 38 = .ok (.iload 4, 2) := by decide +kernel
theorem dX0_meetSum_40 : decode cX0_meetSum 40 = .ok (.invokestatic 158, 3) := by decide +kernel
theorem dX0_meetSum_43 : decode cX0_meetSum 43 = .ok (.istore 5, 2) := by decide +kernel
theorem dX0_meetSum_45 : decode cX0_meetSum 45 = .ok (.iload 4, 2) := by decide +kernel
theorem dX0_meetSum_47 : decode cX0_meetSum 47 = .ok (.invokestatic 151, 3) := by decide +kernel
theorem dX0_meetSum_50 : decode cX0_meetSum 50 = .ok (.istore 6, 2) := by decide +kernel
theorem dX0_meetSum_52 : decode cX0_meetSum 52 = .ok (.aload_n 0, 1) := by decide +kernel
theorem dX0_meetSum_53 : decode cX0_meetSum 53 = .ok (.getfield 17, 3) := by decide +kernel
theorem dX0_meetSum_56 : decode cX0_meetSum 56 = .ok (.iload_n 1, 1) := by decide +kernel
theorem dX0_meetSum_57 : decode cX0_meetSum 57 = .ok (.iaload, 1) := by decide +kernel
theorem dX0_meetSum_58 : decode cX0_meetSum 58 = .ok (.iconst 1, 1) := by decide +kernel
theorem dX0_meetSum_59 : decode cX0_meetSum 59 = .ok (.iload 6, 2) := by decide +kernel
theorem dX0_meetSum_61 : decode cX0_meetSum 61 = .ok (.ishl, 1) := by decide +kernel
theorem dX0_meetSum_62 : decode cX0_meetSum 62 = .ok (.iconst 1, 1) := by decide +kernel
theorem dX0_meetSum_63 : decode cX0_meetSum 63 = .ok (.isub, 1) := by decide +kernel
theorem dX0_meetSum_64 : decode cX0_meetSum 64 = .ok (.iand, 1) := by decide +kernel
theorem dX0_meetSum_65 : decode cX0_meetSum 65 = .ok (.istore 7, 2) := by decide +kernel
theorem dX0_meetSum_67 : decode cX0_meetSum 67 = .ok (.iconst 1, 1) := by decide +kernel
theorem dX0_meetSum_68 : decode cX0_meetSum 68 = .ok (.aload_n 0, 1) := by decide +kernel
theorem dX0_meetSum_69 : decode cX0_meetSum 69 = .ok (.getfield 53, 3) := by decide +kernel
theorem dX0_meetSum_72 : decode cX0_meetSum 72 = .ok (.iload_n 3, 1) := by decide +kernel
theorem dX0_meetSum_73 : decode cX0_meetSum 73 = .ok (.iload 5, 2) := by decide +kernel
theorem dX0_meetSum_75 : decode cX0_meetSum 75 = .ok (.invokevirtual 161, 3) := by decide +kernel
theorem dX0_meetSum_78 : decode cX0_meetSum 78 = .ok (.ishl, 1) := by decide +kernel
theorem dX0_meetSum_79 : decode cX0_meetSum 79 = .ok (.iconst 1, 1) := by decide +kernel
theorem dX0_meetSum_80 : decode cX0_meetSum 80 = .ok (.isub, 1) := by decide +kernel
theorem dX0_meetSum_81 : decode cX0_meetSum 81 = .ok (.istore 8, 2) := by decide +kernel
theorem dX0_meetSum_83 : decode cX0_meetSum 83 = .ok (.iconst 0, 1) := by decide +kernel
theorem dX0_meetSum_84 : decode cX0_meetSum 84 = .ok (.istore 9, 2) := by decide +kernel
theorem dX0_meetSum_86 : decode cX0_meetSum 86 = .ok (.iload 9, 2) := by decide +kernel
theorem dX0_meetSum_88 : decode cX0_meetSum 88 = .ok (.iload 6, 2) := by decide +kernel
theorem dX0_meetSum_90 : decode cX0_meetSum 90 = .ok (.if_icmp .ge 126, 3) := by decide +kernel
theorem dX0_meetSum_93 : decode cX0_meetSum 93 = .ok (.iload 8, 2) := by decide +kernel
theorem dX0_meetSum_95 : decode cX0_meetSum 95 = .ok (.ifCond .lt 121, 3) := by decide +kernel
theorem dX0_meetSum_98 : decode cX0_meetSum 98 = .ok (.aload_n 0, 1) := by decide +kernel
theorem dX0_meetSum_99 : decode cX0_meetSum 99 = .ok (.getfield 53, 3) := by decide +kernel
theorem dX0_meetSum_102 : decode cX0_meetSum 102 = .ok (.iload_n 2, 1) := by decide +kernel
theorem dX0_meetSum_103 : decode cX0_meetSum 103 = .ok (.iload 9, 2) := by decide +kernel
theorem dX0_meetSum_105 : decode cX0_meetSum 105 = .ok (.invokevirtual 154, 3) := by decide +kernel
theorem dX0_meetSum_108 : decode cX0_meetSum 108 = .ok (.istore 10, 2) := by decide +kernel
theorem dX0_meetSum_110 : decode cX0_meetSum 110 = .ok (.iload 7, 2) := by decide +kernel
theorem dX0_meetSum_112 : decode cX0_meetSum 112 = .ok (.iload 9, 2) := by decide +kernel
theorem dX0_meetSum_114 : decode cX0_meetSum 114 = .ok (.ishr, 1) := by decide +kernel
theorem dX0_meetSum_115 : decode cX0_meetSum 115 = .ok (.iconst 1, 1) := by decide +kernel
theorem dX0_meetSum_116 : decode cX0_meetSum 116 = .ok (.iand, 1) := by decide +kernel
theorem dX0_meetSum_117 : decode cX0_meetSum 117 = .ok (.ifCond .eq 93, 3) := by decide +kernel
theorem dX0_meetSum_120 : decode cX0_meetSum 120 = .ok (.aload_n 0, 1) := by decide +kernel
theorem dX0_meetSum_121 : decode cX0_meetSum 121 = .ok (.getfield 53, 3) := by decide +kernel
theorem dX0_meetSum_124 : decode cX0_meetSum 124 = .ok (.iload 10, 2) := by decide +kernel
theorem dX0_meetSum_126 : decode cX0_meetSum 126 = .ok (.invokevirtual 128, 3) := by decide +kernel
theorem dX0_meetSum_129 : decode cX0_meetSum 129 = .ok (.aload_n 0, 1) := by decide +kernel
theorem dX0_meetSum_130 : decode cX0_meetSum 130 = .ok (.getfield 67, 3) := by decide +kernel
theorem dX0_meetSum_133 : decode cX0_meetSum 133 = .ok (.iconst (-1), 1) := by decide +kernel
theorem dX0_meetSum_134 : decode cX0_meetSum 134 = .ok (.ixor, 1) := by decide +kernel
theorem dX0_meetSum_135 : decode cX0_meetSum 135 = .ok (.iand, 1) := by decide +kernel
theorem dX0_meetSum_136 : decode cX0_meetSum 136 = .ok (.ifCond .ne 74, 3) := by decide +kernel
theorem dX0_meetSum_139 : decode cX0_meetSum 139 = .ok (.aload_n 0, 1) := by decide +kernel
theorem dX0_meetSum_140 : decode cX0_meetSum 140 = .ok (.getfield 53, 3) := by decide +kernel
theorem dX0_meetSum_143 : decode cX0_meetSum 143 = .ok (.getfield 131, 3) := by decide +kernel
theorem dX0_meetSum_146 : decode cX0_meetSum 146 = .ok (.istore 11, 2) := by decide +kernel
theorem dX0_meetSum_148 : decode cX0_meetSum 148 = .ok (.aload_n 0, 1) := by decide +kernel
theorem dX0_meetSum_149 : decode cX0_meetSum 149 = .ok (.getfield 53, 3) := by decide +kernel
theorem dX0_meetSum_152 : decode cX0_meetSum 152 = .ok (.iload 10, 2) := by decide +kernel
theorem dX0_meetSum_154 : decode cX0_meetSum 154 = .ok (.aload_n 0, 1) := by decide +kernel
theorem dX0_meetSum_155 : decode cX0_meetSum 155 = .ok (.getfield 26, 3) := by decide +kernel
theorem dX0_meetSum_158 : decode cX0_meetSum 158 = .ok (.iconst 0, 1) := by decide +kernel
theorem dX0_meetSum_159 : decode cX0_meetSum 159 = .ok (.iconst 0, 1) := by decide +kernel
theorem dX0_meetSum_160 : decode cX0_meetSum 160 = .ok (.invokevirtual 132, 3) := by decide +kernel
theorem dX0_meetSum_163 : decode cX0_meetSum 163 = .ok (.istore 12, 2) := by decide +kernel
theorem dX0_meetSum_165 : decode cX0_meetSum 165 = .ok (.iload 12, 2) := by decide +kernel
theorem dX0_meetSum_167 : decode cX0_meetSum 167 = .ok (.ifCond .ge 7, 3) := by decide +kernel
theorem dX0_meetSum_170 : decode cX0_meetSum 170 = .ok (.iconst (-1), 1) := by decide +kernel
theorem dX0_meetSum_171 : decode cX0_meetSum 171 = .ok (.goto 17, 3) := by decide +kernel
theorem dX0_meetSum_174 : decode cX0_meetSum 174 = .ok (.aload_n 0, 1) := by decide +kernel
theorem dX0_meetSum_175 : decode cX0_meetSum 175 = .ok (.getfield 53, 3) := by decide +kernel
theorem dX0_meetSum_178 : decode cX0_meetSum 178 = .ok (.iload_n 3, 1) := by decide +kernel
theorem dX0_meetSum_179 : decode cX0_meetSum 179 = .ok (.iload 5, 2) := by decide +kernel
theorem dX0_meetSum_181 : decode cX0_meetSum 181 = .ok (.iload 8, 2) := by decide +kernel
theorem dX0_meetSum_183 : decode cX0_meetSum 183 = .ok (.iload 12, 2) := by decide +kernel
theorem dX0_meetSum_185 : decode cX0_meetSum 185 = .ok (.invokevirtual 164, 3) := by decide +kernel
theorem dX0_meetSum_188 : decode cX0_meetSum 188 = .ok (.istore 8, 2) := by decide +kernel
theorem dX0_meetSum_190 : decode cX0_meetSum 190 = .ok (.aload_n 0, 1) := by decide +kernel
theorem dX0_meetSum_191 : decode cX0_meetSum 191 = .ok (.getfield 53, 3) := by decide +kernel
theorem dX0_meetSum_194 : decode cX0_meetSum 194 = .ok (.iload 11, 2) := by decide +kernel
theorem dX0_meetSum_196 : decode cX0_meetSum 196 = .ok (.invokevirtual 136, 3) := by decide +kernel
theorem dX0_meetSum_199 : decode cX0_meetSum 199 = .ok (.iload 7, 2) := by decide +kernel
theorem dX0_meetSum_201 : decode cX0_meetSum 201 = .ok (.iconst 1, 1) := by decide +kernel
theorem dX0_meetSum_202 : decode cX0_meetSum 202 = .ok (.iload 9, 2) := by decide +kernel
theorem dX0_meetSum_204 : decode cX0_meetSum 204 = .ok (.ishl, 1) := by decide +kernel
theorem dX0_meetSum_205 : decode cX0_meetSum 205 = .ok (.iconst (-1), 1) := by decide +kernel
theorem dX0_meetSum_206 : decode cX0_meetSum 206 = .ok (.ixor, 1) := by decide +kernel
theorem dX0_meetSum_207 : decode cX0_meetSum 207 = .ok (.iand, 1) := by decide +kernel
theorem dX0_meetSum_208 : decode cX0_meetSum 208 = .ok (.istore 7, 2) := by decide +kernel
theorem dX0_meetSum_210 : decode cX0_meetSum 210 = .ok (.iinc 9 1, 3) := by decide +kernel
theorem dX0_meetSum_213 : decode cX0_meetSum 213 = .ok (.goto (-127), 3) := by decide +kernel
theorem dX0_meetSum_216 : decode cX0_meetSum 216 = .ok (.iload 8, 2) := by decide +kernel
theorem dX0_meetSum_218 : decode cX0_meetSum 218 = .ok (.ifCond .ge 6, 3) := by decide +kernel
theorem dX0_meetSum_221 : decode cX0_meetSum 221 = .ok (.bipush (-2), 2) := by decide +kernel
theorem dX0_meetSum_223 : decode cX0_meetSum 223 = .ok (.ireturn, 1) := by decide +kernel
theorem dX0_meetSum_224 : decode cX0_meetSum 224 = .ok (.aload_n 0, 1) := by decide +kernel
theorem dX0_meetSum_225 : decode cX0_meetSum 225 = .ok (.iload_n 1, 1) := by decide +kernel
theorem dX0_meetSum_226 : decode cX0_meetSum 226 = .ok (.iload 7, 2) := by decide +kernel
theorem dX0_meetSum_228 : decode cX0_meetSum 228 = .ok (.iload 8, 2) := by decide +kernel
theorem dX0_meetSum_230 : decode cX0_meetSum 230 = .ok (.invokevirtual 167, 3) := by decide +kernel
theorem dX0_meetSum_233 : decode cX0_meetSum 233 = .ok (.istore 9, 2) := by decide +kernel
theorem dX0_meetSum_235 : decode cX0_meetSum 235 = .ok (.iload 9, 2) := by decide +kernel
theorem dX0_meetSum_237 : decode cX0_meetSum 237 = .ok (.ifCond .lt 12, 3) := by decide +kernel
theorem dX0_meetSum_240 : decode cX0_meetSum 240 = .ok (.iload 7, 2) := by decide +kernel
theorem dX0_meetSum_242 : decode cX0_meetSum 242 = .ok (.invokestatic 171, 3) := by decide +kernel
theorem dX0_meetSum_245 : decode cX0_meetSum 245 = .ok (.iconst 2, 1) := by decide +kernel
theorem dX0_meetSum_246 : decode cX0_meetSum 246 = .ok (.if_icmp .ge 6, 3) := by decide +kernel
theorem dX0_meetSum_249 : decode cX0_meetSum 249 = .ok (.iload 9, 2) := by decide +kernel
theorem dX0_meetSum_251 : decode cX0_meetSum 251 = .ok (.ireturn, 1) := by decide +kernel
theorem dX0_meetSum_252 : decode cX0_meetSum 252 = .ok (.aload_n 0, 1) := by decide +kernel
theorem dX0_meetSum_253 : decode cX0_meetSum 253 = .ok (.iload 9, 2) := by decide +kernel
theorem dX0_meetSum_255 : decode cX0_meetSum 255 = .ok (.invokevirtual 176, 3) := by decide +kernel
theorem dX0_meetSum_258 : decode cX0_meetSum 258 = .ok (.bipush (-2), 2) := by decide +kernel
theorem dX0_meetSum_260 : decode cX0_meetSum 260 = .ok (.ireturn, 1) := by decide +kernel
theorem dX0_remainder_0 : decode cX0_remainder 0 = .ok (.iload_n 1, 1) := by decide +kernel
theorem dX0_remainder_1 : decode cX0_remainder 1 = .ok (.ifCond .lt 10, 3) := by decide +kernel
theorem dX0_remainder_4 : decode cX0_remainder 4 = .ok (.iload_n 1, 1) := by decide +kernel
theorem dX0_remainder_5 : decode cX0_remainder 5 = .ok (.sipush 256, 3) := by decide +kernel
theorem dX0_remainder_8 : decode cX0_remainder 8 = .ok (.if_icmp .lt 6, 3) := by decide +kernel
theorem dX0_remainder_11 : decode cX0_remainder 11 = .ok (.bipush (-2), 2) := by decide +kernel
theorem dX0_remainder_13 : decode cX0_remainder 13 = .ok (.ireturn, 1) := by decide +kernel
theorem dX0_remainder_14 : decode cX0_remainder 14 = .ok (.aload_n 0, 1) := by decide +kernel
theorem dX0_remainder_15 : decode cX0_remainder 15 = .ok (.getfield 13, 3) := by decide +kernel
theorem dX0_remainder_18 : decode cX0_remainder 18 = .ok (.iload_n 1, 1) := by decide +kernel
theorem dX0_remainder_19 : decode cX0_remainder 19 = .ok (.iaload, 1) := by decide +kernel
theorem dX0_remainder_20 : decode cX0_remainder 20 = .ok (.istore 4, 2) := by decide +kernel
theorem dX0_remainder_22 : decode cX0_remainder 22 = .ok (.aload_n 0, 1) := by decide +kernel
theorem dX0_remainder_23 : decode cX0_remainder 23 = .ok (.getfield 53, 3) := by decide +kernel
theorem dX0_remainder_26 : decode cX0_remainder 26 = .ok (.iload 4, 2) := by decide +kernel
theorem dX0_remainder_28 : decode cX0_remainder 28 = .ok (.invokevirtual 125, 3) := by decide +kernel
theorem dX0_remainder_31 : decode cX0_remainder 31 = .ok (.invokestatic 158, 3) := by decide +kernel
theorem dX0_remainder_34 : decode cX0_remainder 34 = .ok (.istore 5, 2) := by decide +kernel
theorem dX0_remainder_36 : decode cX0_remainder 36 = .ok (.iload_n 2, 1) := by decide +kernel
theorem dX0_remainder_37 : decode cX0_remainder 37 = .ok (.ifCond .ne 19, 3) := by decide +kernel
theorem dX0_remainder_40 : decode cX0_remainder 40 = .ok (.iload_n 3, 1) := by decide +kernel
theorem dX0_remainder_41 : decode cX0_remainder 41 = .ok (.ifCond .ne 12, 3) := by decide +kernel
theorem dX0_remainder_44 : decode cX0_remainder 44 = .ok (.aload_n 0, 1) := by decide +kernel
theorem dX0_remainder_45 : decode cX0_remainder 45 = .ok (.getfield 23, 3) := by decide +kernel
theorem dX0_remainder_48 : decode cX0_remainder 48 = .ok (.iload_n 1, 1) := by decide +kernel
theorem dX0_remainder_49 : decode cX0_remainder 49 = .ok (.iaload, 1) := by decide +kernel
theorem dX0_remainder_50 : decode cX0_remainder 50 = .ok (.goto 5, 3) := by decide +kernel
theorem dX0_remainder_53 : decode cX0_remainder 53 = .ok (.bipush (-2), 2) := by decide +kernel
theorem dX0_remainder_55 : decode cX0_remainder 55 = .ok (.ireturn, 1) := by decide +kernel
theorem dX0_remainder_56 : decode cX0_remainder 56 = .ok (.aload_n 0, 1) := by decide +kernel
theorem dX0_remainder_57 : decode cX0_remainder 57 = .ok (.getfield 53, 3) := by decide +kernel
theorem dX0_remainder_60 : decode cX0_remainder 60 = .ok (.iload 5, 2) := by decide +kernel
theorem dX0_remainder_62 : decode cX0_remainder 62 = .ok (.invokevirtual 179, 3) := by decide +kernel
theorem dX0_remainder_65 : decode cX0_remainder 65 = .ok (.ifCond .ne 17, 3) := by decide +kernel
theorem dX0_remainder_68 : decode cX0_remainder 68 = .ok (.iload_n 3, 1) := by decide +kernel
theorem dX0_remainder_69 : decode cX0_remainder 69 = .ok (.invokestatic 171, 3) := by decide +kernel
theorem dX0_remainder_72 : decode cX0_remainder 72 = .ok (.iload_n 2, 1) := by decide +kernel
theorem dX0_remainder_73 : decode cX0_remainder 73 = .ok (.invokestatic 171, 3) := by decide +kernel
theorem dX0_remainder_76 : decode cX0_remainder 76 = .ok (.if_icmp .ge 6, 3) := by decide +kernel
theorem dX0_remainder_79 : decode cX0_remainder 79 = .ok (.bipush (-2), 2) := by decide +kernel
theorem dX0_remainder_81 : decode cX0_remainder 81 = .ok (.ireturn, 1) := by decide +kernel
theorem dX0_remainder_82 : decode cX0_remainder 82 = .ok (.aload_n 0, 1) := by decide +kernel
theorem dX0_remainder_83 : decode cX0_remainder 83 = .ok (.getfield 53, 3) := by decide +kernel
theorem dX0_remainder_86 : decode cX0_remainder 86 = .ok (.aload_n 0, 1) := by decide +kernel
theorem dX0_remainder_87 : decode cX0_remainder 87 = .ok (.getfield 20, 3) := by decide +kernel
theorem dX0_remainder_90 : decode cX0_remainder 90 = .ok (.iload_n 1, 1) := by decide +kernel
theorem dX0_remainder_91 : decode cX0_remainder 91 = .ok (.iaload, 1) := by decide +kernel
theorem dX0_remainder_92 : decode cX0_remainder 92 = .ok (.iload 5, 2) := by decide +kernel
theorem dX0_remainder_94 : decode cX0_remainder 94 = .ok (.iload_n 3, 1) := by decide +kernel
theorem dX0_remainder_95 : decode cX0_remainder 95 = .ok (.invokevirtual 183, 3) := by decide +kernel
theorem dX0_remainder_98 : decode cX0_remainder 98 = .ok (.istore 6, 2) := by decide +kernel
theorem dX0_remainder_100 : decode cX0_remainder 100 = .ok (.iload_n 2, 1) := by decide +kernel
theorem dX0_remainder_101 : decode cX0_remainder 101 = .ok (.invokestatic 171, 3) := by decide +kernel
theorem dX0_remainder_104 : decode cX0_remainder 104 = .ok (.iconst 1, 1) := by decide +kernel
theorem dX0_remainder_105 : decode cX0_remainder 105 = .ok (.if_icmp .le 19, 3) := by decide +kernel
theorem dX0_remainder_108 : decode cX0_remainder 108 = .ok (.aload_n 0, 1) := by decide +kernel
theorem dX0_remainder_109 : decode cX0_remainder 109 = .ok (.iload 4, 2) := by decide +kernel
theorem dX0_remainder_111 : decode cX0_remainder 111 = .ok (.iload_n 2, 1) := by decide +kernel
theorem dX0_remainder_112 : decode cX0_remainder 112 = .ok (.iload 6, 2) := by decide +kernel
theorem dX0_remainder_114 : decode cX0_remainder 114 = .ok (.aload_n 0, 1) := by decide +kernel
theorem dX0_remainder_115 : decode cX0_remainder 115 = .ok (.getfield 23, 3) := by decide +kernel
theorem dX0_remainder_118 : decode cX0_remainder 118 = .ok (.iload_n 1, 1) := by decide +kernel
theorem dX0_remainder_119 : decode cX0_remainder 119 = .ok (.iaload, 1) := by decide +kernel
theorem dX0_remainder_120 : decode cX0_remainder 120 = .ok (.invokevirtual 80, 3) := by decide +kernel
theorem dX0_remainder_123 : decode cX0_remainder 123 = .ok (.ireturn, 1) := by decide +kernel
theorem dX0_remainder_124 : decode cX0_remainder 124 = .ok (.aload_n 0, 1) := by decide +kernel
theorem dX0_remainder_125 : decode cX0_remainder 125 = .ok (.getfield 53, 3) := by decide +kernel
theorem dX0_remainder_128 : decode cX0_remainder 128 = .ok (.iload 4, 2) := by decide +kernel
theorem dX0_remainder_130 : decode cX0_remainder 130 = .ok (.iload_n 2, 1) := by decide +kernel
theorem dX0_remainder_131 : decode cX0_remainder 131 = .ok (.invokestatic 186, 3) := by decide +kernel
theorem dX0_remainder_134 : decode cX0_remainder 134 = .ok (.invokevirtual 154, 3) := by decide +kernel
theorem dX0_remainder_137 : decode cX0_remainder 137 = .ok (.istore 7, 2) := by decide +kernel
theorem dX0_remainder_139 : decode cX0_remainder 139 = .ok (.aload_n 0, 1) := by decide +kernel
theorem dX0_remainder_140 : decode cX0_remainder 140 = .ok (.iload 7, 2) := by decide +kernel
theorem dX0_remainder_142 : decode cX0_remainder 142 = .ok (.bipush 63, 2) := by decide +kernel
theorem dX0_remainder_144 : decode cX0_remainder 144 = .ok (.iload 6, 2) := by decide +kernel
theorem dX0_remainder_146 : decode cX0_remainder 146 = .ok (.aload_n 0, 1) := by decide +kernel
theorem dX0_remainder_147 : decode cX0_remainder 147 = .ok (.getfield 23, 3) := by decide +kernel
theorem dX0_remainder_150 : decode cX0_remainder 150 = .ok (.iload_n 1, 1) := by decide +kernel
theorem dX0_remainder_151 : decode cX0_remainder 151 = .ok (.iaload, 1) := by decide +kernel
theorem dX0_remainder_152 : decode cX0_remainder 152 = .ok (.invokevirtual 80, 3) := by decide +kernel
theorem dX0_remainder_155 : decode cX0_remainder 155 = .ok (.ireturn, 1) := by decide +kernel
theorem dX0_branchOverSum_0 : decode cX0_branchOverSum 0 = .ok (.iload_n 1, 1) := by decide +kernel
theorem dX0_branchOverSum_1 : decode cX0_branchOverSum 1 = .ok (.ifCond .lt 10, 3) := by decide +kernel
theorem dX0_branchOverSum_4 : decode cX0_branchOverSum 4 = .ok (.iload_n 1, 1) := by decide +kernel
theorem dX0_branchOverSum_5 : decode cX0_branchOverSum 5 = .ok (.sipush 256, 3) := by decide +kernel
theorem dX0_branchOverSum_8 : decode cX0_branchOverSum 8 = .ok (.if_icmp .lt 4, 3) := by decide +kernel
theorem dX0_branchOverSum_11 : decode cX0_branchOverSum 11 = .ok (.return_, 1) := by decide +kernel
theorem dX0_branchOverSum_12 : decode cX0_branchOverSum 12 = .ok (.aload_n 0, 1) := by decide +kernel
theorem dX0_branchOverSum_13 : decode cX0_branchOverSum 13 = .ok (.getfield 13, 3) := by decide +kernel
theorem dX0_branchOverSum_16 : decode cX0_branchOverSum 16 = .ok (.iload_n 1, 1) := by decide +kernel
theorem dX0_branchOverSum_17 : decode cX0_branchOverSum 17 = .ok (.iaload, 1) := by decide +kernel
theorem dX0_branchOverSum_18 : decode cX0_branchOverSum 18 = .ok (.istore_n 2, 1) := by decide +kernel
theorem dX0_branchOverSum_19 : decode cX0_branchOverSum 19 = .ok (.aload_n 0, 1) := by decide +kernel
theorem dX0_branchOverSum_20 : decode cX0_branchOverSum 20 = .ok (.getfield 17, 3) := by decide +kernel
theorem dX0_branchOverSum_23 : decode cX0_branchOverSum 23 = .ok (.iload_n 1, 1) := by decide +kernel
theorem dX0_branchOverSum_24 : decode cX0_branchOverSum 24 = .ok (.iaload, 1) := by decide +kernel
theorem dX0_branchOverSum_25 : decode cX0_branchOverSum 25 = .ok (.istore_n 3, 1) := by decide +kernel
theorem dX0_branchOverSum_26 : decode cX0_branchOverSum 26 = .ok (.iconst (-1), 1) := by decide +kernel
theorem dX0_branchOverSum_27 : decode cX0_branchOverSum 27 = .ok (.istore 4, 2) := by decide +kernel
theorem dX0_branchOverSum_29 : decode cX0_branchOverSum 29 = .ok (.iconst 0, 1) := by decide +kernel
theorem dX0_branchOverSum_30 : decode cX0_branchOverSum 30 = .ok (.istore 5, 2) := by decide +kernel
theorem dX0_branchOverSum_32 : decode cX0_branchOverSum 32 = .ok (.iconst 0, 1) := by decide +kernel
theorem dX0_branchOverSum_33 : decode cX0_branchOverSum 33 = .ok (.istore 6, 2) := by decide +kernel
theorem dX0_branchOverSum_35 : decode cX0_branchOverSum 35 = .ok (.iload 6, 2) := by decide +kernel
theorem dX0_branchOverSum_37 : decode cX0_branchOverSum 37 = .ok (.bipush 6, 2) := by decide +kernel
theorem dX0_branchOverSum_39 : decode cX0_branchOverSum 39 = .ok (.if_icmp .ge 53, 3) := by decide +kernel
theorem dX0_branchOverSum_42 : decode cX0_branchOverSum 42 = .ok (.iload_n 3, 1) := by decide +kernel
theorem dX0_branchOverSum_43 : decode cX0_branchOverSum 43 = .ok (.iload 6, 2) := by decide +kernel
theorem dX0_branchOverSum_45 : decode cX0_branchOverSum 45 = .ok (.ishr, 1) := by decide +kernel
theorem dX0_branchOverSum_46 : decode cX0_branchOverSum 46 = .ok (.iconst 1, 1) := by decide +kernel
theorem dX0_branchOverSum_47 : decode cX0_branchOverSum 47 = .ok (.iand, 1) := by decide +kernel
theorem dX0_branchOverSum_48 : decode cX0_branchOverSum 48 = .ok (.ifCond .eq 20, 3) := by decide +kernel
theorem dX0_branchOverSum_51 : decode cX0_branchOverSum 51 = .ok (.aload_n 0, 1) := by decide +kernel
theorem dX0_branchOverSum_52 : decode cX0_branchOverSum 52 = .ok (.aload_n 0, 1) := by decide +kernel
theorem dX0_branchOverSum_53 : decode cX0_branchOverSum 53 = .ok (.getfield 53, 3) := by decide +kernel
theorem dX0_branchOverSum_56 : decode cX0_branchOverSum 56 = .ok (.iload_n 2, 1) := by decide +kernel
theorem dX0_branchOverSum_57 : decode cX0_branchOverSum 57 = .ok (.iload 6, 2) := by decide +kernel
theorem dX0_branchOverSum_59 : decode cX0_branchOverSum 59 = .ok (.invokevirtual 154, 3) := by decide +kernel
theorem dX0_branchOverSum_62 : decode cX0_branchOverSum 62 = .ok (.invokevirtual 189, 3) := by decide +kernel
theorem dX0_branchOverSum_65 : decode cX0_branchOverSum 65 = .ok (.goto 4, 3) := by decide +kernel
theorem dX0_branchOverSum_68 : decode cX0_branchOverSum 68 = .ok (.iconst 0, 1) := by decide +kernel
theorem dX0_branchOverSum_69 : decode cX0_branchOverSum 69 = .ok (.istore 7, 2) := by decide +kernel
theorem dX0_branchOverSum_71 : decode cX0_branchOverSum 71 = .ok (.iload 7, 2) := by decide +kernel
theorem dX0_branchOverSum_73 : decode cX0_branchOverSum 73 = .ok (.iload 5, 2) := by decide +kernel
theorem dX0_branchOverSum_75 : decode cX0_branchOverSum 75 = .ok (.if_icmp .le 11, 3) := by decide +kernel
theorem dX0_branchOverSum_78 : decode cX0_branchOverSum 78 = .ok (.iload 6, 2) := by decide +kernel
theorem dX0_branchOverSum_80 : decode cX0_branchOverSum 80 = .ok (.istore 4, 2) := by decide +kernel
theorem dX0_branchOverSum_82 : decode cX0_branchOverSum 82 = .ok (.iload 7, 2) := by decide +kernel
theorem dX0_branchOverSum_84 : decode cX0_branchOverSum 84 = .ok (.istore 5, 2) := by decide +kernel
theorem dX0_branchOverSum_86 : decode cX0_branchOverSum 86 = .ok (.iinc 6 1, 3) := by decide +kernel
theorem dX0_branchOverSum_89 : decode cX0_branchOverSum 89 = .ok (.goto (-54), 3) := by decide +kernel
theorem dX0_branchOverSum_92 : decode cX0_branchOverSum 92 = .ok (.aload_n 0, 1) := by decide +kernel
theorem dX0_branchOverSum_93 : decode cX0_branchOverSum 93 = .ok (.getfield 53, 3) := by decide +kernel
theorem dX0_branchOverSum_96 : decode cX0_branchOverSum 96 = .ok (.aload_n 0, 1) := by decide +kernel
theorem dX0_branchOverSum_97 : decode cX0_branchOverSum 97 = .ok (.getfield 20, 3) := by decide +kernel
theorem dX0_branchOverSum_100 : decode cX0_branchOverSum 100 = .ok (.iload_n 1, 1) := by decide +kernel
theorem dX0_branchOverSum_101 : decode cX0_branchOverSum 101 = .ok (.iaload, 1) := by decide +kernel
theorem dX0_branchOverSum_102 : decode cX0_branchOverSum 102 = .ok (.aload_n 0, 1) := by decide +kernel
theorem dX0_branchOverSum_103 : decode cX0_branchOverSum 103 = .ok (.getfield 53, 3) := by decide +kernel
theorem dX0_branchOverSum_106 : decode cX0_branchOverSum 106 = .ok (.iload_n 2, 1) := by decide +kernel
theorem dX0_branchOverSum_107 : decode cX0_branchOverSum 107 = .ok (.invokevirtual 125, 3) := by decide +kernel
theorem dX0_branchOverSum_110 : decode cX0_branchOverSum 110 = .ok (.invokestatic 158, 3) := by decide +kernel
theorem dX0_branchOverSum_113 : decode cX0_branchOverSum 113 = .ok (.invokevirtual 161, 3) := by decide +kernel
theorem dX0_branchOverSum_116 : decode cX0_branchOverSum 116 = .ok (.istore 6, 2) := by decide +kernel
theorem dX0_branchOverSum_118 : decode cX0_branchOverSum 118 = .ok (.aload_n 0, 1) := by decide +kernel
theorem dX0_branchOverSum_119 : decode cX0_branchOverSum 119 = .ok (.getfield 53, 3) := by decide +kernel
theorem dX0_branchOverSum_122 : decode cX0_branchOverSum 122 = .ok (.aload_n 0, 1) := by decide +kernel
theorem dX0_branchOverSum_123 : decode cX0_branchOverSum 123 = .ok (.getfield 53, 3) := by decide +kernel
theorem dX0_branchOverSum_126 : decode cX0_branchOverSum 126 = .ok (.iload_n 2, 1) := by decide +kernel
theorem dX0_branchOverSum_127 : decode cX0_branchOverSum 127 = .ok (.iload 4, 2) := by decide +kernel
theorem dX0_branchOverSum_129 : decode cX0_branchOverSum 129 = .ok (.invokevirtual 154, 3) := by decide +kernel
theorem dX0_branchOverSum_132 : decode cX0_branchOverSum 132 = .ok (.invokevirtual 192, 3) := by decide +kernel
theorem dX0_branchOverSum_135 : decode cX0_branchOverSum 135 = .ok (.iconst 2, 1) := by decide +kernel
theorem dX0_branchOverSum_136 : decode cX0_branchOverSum 136 = .ok (.if_icmp .ne 7, 3) := by decide +kernel
theorem dX0_branchOverSum_139 : decode cX0_branchOverSum 139 = .ok (.iconst 1, 1) := by decide +kernel
theorem dX0_branchOverSum_140 : decode cX0_branchOverSum 140 = .ok (.goto 4, 3) := by decide +kernel
theorem dX0_branchOverSum_143 : decode cX0_branchOverSum 143 = .ok (.iconst 0, 1) := by decide +kernel
theorem dX0_branchOverSum_144 : decode cX0_branchOverSum 144 = .ok (.istore 7, 2) := by decide +kernel
theorem dX0_branchOverSum_146 : decode cX0_branchOverSum 146 = .ok (.aload_n 0, 1) := by decide +kernel
theorem dX0_branchOverSum_147 : decode cX0_branchOverSum 147 = .ok (.iload_n 1, 1) := by decide +kernel
theorem dX0_branchOverSum_148 : decode cX0_branchOverSum 148 = .ok (.iload 4, 2) := by decide +kernel
theorem dX0_branchOverSum_150 : decode cX0_branchOverSum 150 = .ok (.iload 7, 2) := by decide +kernel
theorem dX0_branchOverSum_152 : decode cX0_branchOverSum 152 = .ok (.ifCond .eq 8, 3) := by decide +kernel
theorem dX0_branchOverSum_155 : decode cX0_branchOverSum 155 = .ok (.iload 6, 2) := by decide +kernel
theorem dX0_branchOverSum_157 : decode cX0_branchOverSum 157 = .ok (.goto 7, 3) := by decide +kernel
theorem dX0_branchOverSum_160 : decode cX0_branchOverSum 160 = .ok (.iconst 1, 1) := by decide +kernel
theorem dX0_branchOverSum_161 : decode cX0_branchOverSum 161 = .ok (.iload 6, 2) := by decide +kernel
theorem dX0_branchOverSum_163 : decode cX0_branchOverSum 163 = .ok (.ishl, 1) := by decide +kernel
theorem dX0_branchOverSum_164 : decode cX0_branchOverSum 164 = .ok (.invokevirtual 144, 3) := by decide +kernel
theorem dX0_branchOverSum_167 : decode cX0_branchOverSum 167 = .ok (.return_, 1) := by decide +kernel
theorem dX0_worthOf_0 : decode cX0_worthOf 0 = .ok (.aload_n 0, 1) := by decide +kernel
theorem dX0_worthOf_1 : decode cX0_worthOf 1 = .ok (.getfield 53, 3) := by decide +kernel
theorem dX0_worthOf_4 : decode cX0_worthOf 4 = .ok (.iload_n 1, 1) := by decide +kernel
theorem dX0_worthOf_5 : decode cX0_worthOf 5 = .ok (.invokevirtual 192, 3) := by decide +kernel
theorem dX0_worthOf_8 : decode cX0_worthOf 8 = .ok (.istore_n 2, 1) := by decide +kernel
theorem dX0_worthOf_9 : decode cX0_worthOf 9 = .ok (.iload_n 2, 1) := by decide +kernel
theorem dX0_worthOf_10 : decode cX0_worthOf 10 = .ok (.iconst 2, 1) := by decide +kernel
theorem dX0_worthOf_11 : decode cX0_worthOf 11 = .ok (.if_icmp .ne 6, 3) := by decide +kernel
theorem dX0_worthOf_14 : decode cX0_worthOf 14 = .ok (.bipush 22, 2) := by decide +kernel
theorem dX0_worthOf_16 : decode cX0_worthOf 16 = .ok (.ireturn, 1) := by decide +kernel
theorem dX0_worthOf_17 : decode cX0_worthOf 17 = .ok (.iload_n 2, 1) := by decide +kernel
theorem dX0_worthOf_18 : decode cX0_worthOf 18 = .ok (.iconst 1, 1) := by decide +kernel
theorem dX0_worthOf_19 : decode cX0_worthOf 19 = .ok (.if_icmp .ne 5, 3) := by decide +kernel
theorem dX0_worthOf_22 : decode cX0_worthOf 22 = .ok (.iconst 2, 1) := by decide +kernel
theorem dX0_worthOf_23 : decode cX0_worthOf 23 = .ok (.ireturn, 1) := by decide +kernel
theorem dX0_worthOf_24 : decode cX0_worthOf 24 = .ok (.aload_n 0, 1) := by decide +kernel
theorem dX0_worthOf_25 : decode cX0_worthOf 25 = .ok (.getfield 53, 3) := by decide +kernel
theorem dX0_worthOf_28 : decode cX0_worthOf 28 = .ok (.aload_n 0, 1) := by decide +kernel
theorem dX0_worthOf_29 : decode cX0_worthOf 29 = .ok (.getfield 70, 3) := by decide +kernel
theorem dX0_worthOf_32 : decode cX0_worthOf 32 = .ok (.invokevirtual 114, 3) := by decide +kernel
theorem dX0_worthOf_35 : decode cX0_worthOf 35 = .ok (.bipush 6, 2) := by decide +kernel
theorem dX0_worthOf_37 : decode cX0_worthOf 37 = .ok (.aload_n 0, 1) := by decide +kernel
theorem dX0_worthOf_38 : decode cX0_worthOf 38 = .ok (.getfield 53, 3) := by decide +kernel
