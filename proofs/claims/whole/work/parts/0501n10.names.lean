theorem dX7_rebuild_126 : decode cX7_rebuild 126 = .ok (.iload 8, 2) := by decide +kernel
theorem dX7_rebuild_128 : decode cX7_rebuild 128 = .ok (.invokevirtual 115, 3) := by decide +kernel
theorem dX7_rebuild_131 : decode cX7_rebuild 131 = .ok (.invokevirtual 167, 3) := by decide +kernel
theorem dX7_rebuild_134 : decode cX7_rebuild 134 = .ok (.iinc 8 1, 3) := by decide +kernel
theorem dX7_rebuild_137 : decode cX7_rebuild 137 = .ok (.goto (-52), 3) := by decide +kernel
theorem dX7_rebuild_140 : decode cX7_rebuild 140 = .ok (.aload_n 0, 1) := by decide +kernel
theorem dX7_rebuild_141 : decode cX7_rebuild 141 = .ok (.getfield 48, 3) := by decide +kernel
theorem dX7_rebuild_144 : decode cX7_rebuild 144 = .ok (.invokevirtual 170, 3) := by decide +kernel
theorem dX7_rebuild_147 : decode cX7_rebuild 147 = .ok (.istore_n 3, 1) := by decide +kernel
theorem dX7_rebuild_148 : decode cX7_rebuild 148 = .ok (.iload 6, 2) := by decide +kernel
theorem dX7_rebuild_150 : decode cX7_rebuild 150 = .ok (.istore 4, 2) := by decide +kernel
theorem dX7_rebuild_152 : decode cX7_rebuild 152 = .ok (.iinc 5 1, 3) := by decide +kernel
theorem dX7_rebuild_155 : decode cX7_rebuild 155 = .ok (.goto (-147), 3) := by decide +kernel
theorem dX7_rebuild_158 : decode cX7_rebuild 158 = .ok (.iload_n 3, 1) := by decide +kernel
theorem dX7_rebuild_159 : decode cX7_rebuild 159 = .ok (.ireturn, 1) := by decide +kernel
theorem dX7_insert_0 : decode cX7_insert 0 = .ok (.aload_n 0, 1) := by decide +kernel
theorem dX7_insert_1 : decode cX7_insert 1 = .ok (.getfield 14, 3) := by decide +kernel
theorem dX7_insert_4 : decode cX7_insert 4 = .ok (.getfield 75, 3) := by decide +kernel
theorem dX7_insert_7 : decode cX7_insert 7 = .ok (.istore 4, 2) := by decide +kernel
theorem dX7_insert_9 : decode cX7_insert 9 = .ok (.aload_n 0, 1) := by decide +kernel
theorem dX7_insert_10 : decode cX7_insert 10 = .ok (.getfield 48, 3) := by decide +kernel
theorem dX7_insert_13 : decode cX7_insert 13 = .ok (.iload_n 1, 1) := by decide +kernel
theorem dX7_insert_14 : decode cX7_insert 14 = .ok (.aload_n 0, 1) := by decide +kernel
theorem dX7_insert_15 : decode cX7_insert 15 = .ok (.getfield 14, 3) := by decide +kernel
theorem dX7_insert_18 : decode cX7_insert 18 = .ok (.invokevirtual 174, 3) := by decide +kernel
theorem dX7_insert_21 : decode cX7_insert 21 = .ok (.aload_n 0, 1) := by decide +kernel
theorem dX7_insert_22 : decode cX7_insert 22 = .ok (.getfield 91, 3) := by decide +kernel
theorem dX7_insert_25 : decode cX7_insert 25 = .ok (.istore 5, 2) := by decide +kernel
theorem dX7_insert_27 : decode cX7_insert 27 = .ok (.iload 4, 2) := by decide +kernel
theorem dX7_insert_29 : decode cX7_insert 29 = .ok (.istore 6, 2) := by decide +kernel
theorem dX7_insert_31 : decode cX7_insert 31 = .ok (.iload 5, 2) := by decide +kernel
theorem dX7_insert_33 : decode cX7_insert 33 = .ok (.ifCond .lt 84, 3) := by decide +kernel
theorem dX7_insert_36 : decode cX7_insert 36 = .ok (.iload 5, 2) := by decide +kernel
theorem dX7_insert_38 : decode cX7_insert 38 = .ok (.iload 6, 2) := by decide +kernel
theorem dX7_insert_40 : decode cX7_insert 40 = .ok (.if_icmp .ge 77, 3) := by decide +kernel
theorem dX7_insert_43 : decode cX7_insert 43 = .ok (.iload 6, 2) := by decide +kernel
theorem dX7_insert_45 : decode cX7_insert 45 = .ok (.sipush 200, 3) := by decide +kernel
theorem dX7_insert_48 : decode cX7_insert 48 = .ok (.if_icmp .gt 69, 3) := by decide +kernel
theorem dX7_insert_51 : decode cX7_insert 51 = .ok (.iload 5, 2) := by decide +kernel
theorem dX7_insert_53 : decode cX7_insert 53 = .ok (.iload 6, 2) := by decide +kernel
theorem dX7_insert_55 : decode cX7_insert 55 = .ok (.iadd, 1) := by decide +kernel
theorem dX7_insert_56 : decode cX7_insert 56 = .ok (.iconst 1, 1) := by decide +kernel
theorem dX7_insert_57 : decode cX7_insert 57 = .ok (.iushr, 1) := by decide +kernel
theorem dX7_insert_58 : decode cX7_insert 58 = .ok (.istore 7, 2) := by decide +kernel
theorem dX7_insert_60 : decode cX7_insert 60 = .ok (.aload_n 0, 1) := by decide +kernel
theorem dX7_insert_61 : decode cX7_insert 61 = .ok (.getfield 14, 3) := by decide +kernel
theorem dX7_insert_64 : decode cX7_insert 64 = .ok (.iload 4, 2) := by decide +kernel
theorem dX7_insert_66 : decode cX7_insert 66 = .ok (.aload_n 0, 1) := by decide +kernel
theorem dX7_insert_67 : decode cX7_insert 67 = .ok (.getfield 14, 3) := by decide +kernel
theorem dX7_insert_70 : decode cX7_insert 70 = .ok (.aload_n 0, 1) := by decide +kernel
theorem dX7_insert_71 : decode cX7_insert 71 = .ok (.getfield 20, 3) := by decide +kernel
theorem dX7_insert_74 : decode cX7_insert 74 = .ok (.iload 7, 2) := by decide +kernel
theorem dX7_insert_76 : decode cX7_insert 76 = .ok (.iaload, 1) := by decide +kernel
theorem dX7_insert_77 : decode cX7_insert 77 = .ok (.invokevirtual 178, 3) := by decide +kernel
theorem dX7_insert_80 : decode cX7_insert 80 = .ok (.istore 8, 2) := by decide +kernel
theorem dX7_insert_82 : decode cX7_insert 82 = .ok (.iload 8, 2) := by decide +kernel
theorem dX7_insert_84 : decode cX7_insert 84 = .ok (.ifCond .ne 12, 3) := by decide +kernel
theorem dX7_insert_87 : decode cX7_insert 87 = .ok (.aload_n 0, 1) := by decide +kernel
theorem dX7_insert_88 : decode cX7_insert 88 = .ok (.getfield 14, 3) := by decide +kernel
theorem dX7_insert_91 : decode cX7_insert 91 = .ok (.invokevirtual 182, 3) := by decide +kernel
theorem dX7_insert_94 : decode cX7_insert 94 = .ok (.iconst 1, 1) := by decide +kernel
theorem dX7_insert_95 : decode cX7_insert 95 = .ok (.ireturn, 1) := by decide +kernel
theorem dX7_insert_96 : decode cX7_insert 96 = .ok (.iload 8, 2) := by decide +kernel
theorem dX7_insert_98 : decode cX7_insert 98 = .ok (.ifCond .ge 10, 3) := by decide +kernel
theorem dX7_insert_101 : decode cX7_insert 101 = .ok (.iload 7, 2) := by decide +kernel
theorem dX7_insert_103 : decode cX7_insert 103 = .ok (.istore 6, 2) := by decide +kernel
theorem dX7_insert_105 : decode cX7_insert 105 = .ok (.goto 9, 3) := by decide +kernel
theorem dX7_insert_108 : decode cX7_insert 108 = .ok (.iload 7, 2) := by decide +kernel
theorem dX7_insert_110 : decode cX7_insert 110 = .ok (.iconst 1, 1) := by decide +kernel
theorem dX7_insert_111 : decode cX7_insert 111 = .ok (.iadd, 1) := by decide +kernel
theorem dX7_insert_112 : decode cX7_insert 112 = .ok (.istore 5, 2) := by decide +kernel
theorem dX7_insert_114 : decode cX7_insert 114 = .ok (.goto (-83), 3) := by decide +kernel
theorem dX7_insert_117 : decode cX7_insert 117 = .ok (.iload 4, 2) := by decide +kernel
theorem dX7_insert_119 : decode cX7_insert 119 = .ok (.ifCond .lt 23, 3) := by decide +kernel
theorem dX7_insert_122 : decode cX7_insert 122 = .ok (.iload 4, 2) := by decide +kernel
theorem dX7_insert_124 : decode cX7_insert 124 = .ok (.sipush 200, 3) := by decide +kernel
theorem dX7_insert_127 : decode cX7_insert 127 = .ok (.if_icmp .ge 15, 3) := by decide +kernel
theorem dX7_insert_130 : decode cX7_insert 130 = .ok (.iload 5, 2) := by decide +kernel
theorem dX7_insert_132 : decode cX7_insert 132 = .ok (.ifCond .lt 10, 3) := by decide +kernel
theorem dX7_insert_135 : decode cX7_insert 135 = .ok (.iload 5, 2) := by decide +kernel
theorem dX7_insert_137 : decode cX7_insert 137 = .ok (.iload 4, 2) := by decide +kernel
theorem dX7_insert_139 : decode cX7_insert 139 = .ok (.if_icmp .le 5, 3) := by decide +kernel
theorem dX7_insert_142 : decode cX7_insert 142 = .ok (.iconst 0, 1) := by decide +kernel
theorem dX7_insert_143 : decode cX7_insert 143 = .ok (.ireturn, 1) := by decide +kernel
theorem dX7_insert_144 : decode cX7_insert 144 = .ok (.aload_n 0, 1) := by decide +kernel
theorem dX7_insert_145 : decode cX7_insert 145 = .ok (.getfield 20, 3) := by decide +kernel
theorem dX7_insert_148 : decode cX7_insert 148 = .ok (.iload 5, 2) := by decide +kernel
theorem dX7_insert_150 : decode cX7_insert 150 = .ok (.aload_n 0, 1) := by decide +kernel
theorem dX7_insert_151 : decode cX7_insert 151 = .ok (.getfield 20, 3) := by decide +kernel
theorem dX7_insert_154 : decode cX7_insert 154 = .ok (.iload 5, 2) := by decide +kernel
theorem dX7_insert_156 : decode cX7_insert 156 = .ok (.iconst 1, 1) := by decide +kernel
theorem dX7_insert_157 : decode cX7_insert 157 = .ok (.iadd, 1) := by decide +kernel
theorem dX7_insert_158 : decode cX7_insert 158 = .ok (.iload 4, 2) := by decide +kernel
theorem dX7_insert_160 : decode cX7_insert 160 = .ok (.iload 5, 2) := by decide +kernel
theorem dX7_insert_162 : decode cX7_insert 162 = .ok (.isub, 1) := by decide +kernel
theorem dX7_insert_163 : decode cX7_insert 163 = .ok (.invokestatic 185, 3) := by decide +kernel
theorem dX7_insert_166 : decode cX7_insert 166 = .ok (.aload_n 0, 1) := by decide +kernel
theorem dX7_insert_167 : decode cX7_insert 167 = .ok (.getfield 20, 3) := by decide +kernel
theorem dX7_insert_170 : decode cX7_insert 170 = .ok (.iload 5, 2) := by decide +kernel
theorem dX7_insert_172 : decode cX7_insert 172 = .ok (.iload 4, 2) := by decide +kernel
theorem dX7_insert_174 : decode cX7_insert 174 = .ok (.iastore, 1) := by decide +kernel
theorem dX7_insert_175 : decode cX7_insert 175 = .ok (.aload_n 0, 1) := by decide +kernel
theorem dX7_insert_176 : decode cX7_insert 176 = .ok (.getfield 24, 3) := by decide +kernel
theorem dX7_insert_179 : decode cX7_insert 179 = .ok (.iload 4, 2) := by decide +kernel
theorem dX7_insert_181 : decode cX7_insert 181 = .ok (.iload_n 2, 1) := by decide +kernel
theorem dX7_insert_182 : decode cX7_insert 182 = .ok (.iastore, 1) := by decide +kernel
theorem dX7_insert_183 : decode cX7_insert 183 = .ok (.aload_n 0, 1) := by decide +kernel
theorem dX7_insert_184 : decode cX7_insert 184 = .ok (.getfield 27, 3) := by decide +kernel
theorem dX7_insert_187 : decode cX7_insert 187 = .ok (.iload 4, 2) := by decide +kernel
theorem dX7_insert_189 : decode cX7_insert 189 = .ok (.iload_n 3, 1) := by decide +kernel
theorem dX7_insert_190 : decode cX7_insert 190 = .ok (.iastore, 1) := by decide +kernel
theorem dX7_insert_191 : decode cX7_insert 191 = .ok (.iconst 1, 1) := by decide +kernel
theorem dX7_insert_192 : decode cX7_insert 192 = .ok (.ireturn, 1) := by decide +kernel

theorem dX6_init_0 : decode cX6_init 0 = .ok (.aload_n 0, 1) := by decide +kernel
theorem dX6_init_1 : decode cX6_init 1 = .ok (.invokespecial 3, 3) := by decide +kernel
theorem dX6_init_4 : decode cX6_init 4 = .ok (.aload_n 0, 1) := by decide +kernel
theorem dX6_init_5 : decode cX6_init 5 = .ok (.new 9, 3) := by decide +kernel
theorem dX6_init_8 : decode cX6_init 8 = .ok (.dup, 1) := by decide +kernel
theorem dX6_init_9 : decode cX6_init 9 = .ok (.bipush 51, 2) := by decide +kernel
theorem dX6_init_11 : decode cX6_init 11 = .ok (.invokespecial 11, 3) := by decide +kernel
theorem dX6_init_14 : decode cX6_init 14 = .ok (.putfield 14, 3) := by decide +kernel
theorem dX6_init_17 : decode cX6_init 17 = .ok (.aload_n 0, 1) := by decide +kernel
theorem dX6_init_18 : decode cX6_init 18 = .ok (.aload_n 1, 1) := by decide +kernel
theorem dX6_init_19 : decode cX6_init 19 = .ok (.putfield 20, 3) := by decide +kernel
theorem dX6_init_22 : decode cX6_init 22 = .ok (.return_, 1) := by decide +kernel
theorem dX6_begin_0 : decode cX6_begin 0 = .ok (.aload_n 0, 1) := by decide +kernel
theorem dX6_begin_1 : decode cX6_begin 1 = .ok (.getfield 14, 3) := by decide +kernel
theorem dX6_begin_4 : decode cX6_begin 4 = .ok (.invokevirtual 24, 3) := by decide +kernel
theorem dX6_begin_7 : decode cX6_begin 7 = .ok (.aload_n 0, 1) := by decide +kernel
theorem dX6_begin_8 : decode cX6_begin 8 = .ok (.getfield 14, 3) := by decide +kernel
theorem dX6_begin_11 : decode cX6_begin 11 = .ok (.aload_n 1, 1) := by decide +kernel
theorem dX6_begin_12 : decode cX6_begin 12 = .ok (.iload_n 2, 1) := by decide +kernel
theorem dX6_begin_13 : decode cX6_begin 13 = .ok (.invokevirtual 27, 3) := by decide +kernel
theorem dX6_begin_16 : decode cX6_begin 16 = .ok (.aload_n 0, 1) := by decide +kernel
theorem dX6_begin_17 : decode cX6_begin 17 = .ok (.iconst 0, 1) := by decide +kernel
theorem dX6_begin_18 : decode cX6_begin 18 = .ok (.putfield 31, 3) := by decide +kernel
theorem dX6_begin_21 : decode cX6_begin 21 = .ok (.aload_n 0, 1) := by decide +kernel
theorem dX6_begin_22 : decode cX6_begin 22 = .ok (.lconst 0, 1) := by decide +kernel
theorem dX6_begin_23 : decode cX6_begin 23 = .ok (.putfield 35, 3) := by decide +kernel
theorem dX6_begin_26 : decode cX6_begin 26 = .ok (.return_, 1) := by decide +kernel
theorem dX6_grow_0 : decode cX6_grow 0 = .ok (.iconst 0, 1) := by decide +kernel
theorem dX6_grow_1 : decode cX6_grow 1 = .ok (.istore_n 3, 1) := by decide +kernel
theorem dX6_grow_2 : decode cX6_grow 2 = .ok (.iload_n 3, 1) := by decide +kernel
theorem dX6_grow_3 : decode cX6_grow 3 = .ok (.iload_n 1, 1) := by decide +kernel
theorem dX6_grow_4 : decode cX6_grow 4 = .ok (.if_icmp .lt 12, 3) := by decide +kernel
theorem dX6_grow_7 : decode cX6_grow 7 = .ok (.iload_n 3, 1) := by decide +kernel
theorem dX6_grow_8 : decode cX6_grow 8 = .ok (.iload_n 1, 1) := by decide +kernel
theorem dX6_grow_9 : decode cX6_grow 9 = .ok (.if_icmp .ne 102, 3) := by decide +kernel
theorem dX6_grow_12 : decode cX6_grow 12 = .ok (.iload_n 2, 1) := by decide +kernel
theorem dX6_grow_13 : decode cX6_grow 13 = .ok (.ifCond .eq 98, 3) := by decide +kernel
theorem dX6_grow_16 : decode cX6_grow 16 = .ok (.aload_n 0, 1) := by decide +kernel
theorem dX6_grow_17 : decode cX6_grow 17 = .ok (.getfield 14, 3) := by decide +kernel
theorem dX6_grow_20 : decode cX6_grow 20 = .ok (.getfield 39, 3) := by decide +kernel
theorem dX6_grow_23 : decode cX6_grow 23 = .ok (.istore 4, 2) := by decide +kernel
theorem dX6_grow_25 : decode cX6_grow 25 = .ok (.aload_n 0, 1) := by decide +kernel
theorem dX6_grow_26 : decode cX6_grow 26 = .ok (.getfield 31, 3) := by decide +kernel
theorem dX6_grow_29 : decode cX6_grow 29 = .ok (.istore 5, 2) := by decide +kernel
theorem dX6_grow_31 : decode cX6_grow 31 = .ok (.iload 5, 2) := by decide +kernel
theorem dX6_grow_33 : decode cX6_grow 33 = .ok (.iload 4, 2) := by decide +kernel
theorem dX6_grow_35 : decode cX6_grow 35 = .ok (.if_icmp .ge 64, 3) := by decide +kernel
theorem dX6_grow_38 : decode cX6_grow 38 = .ok (.aload_n 0, 1) := by decide +kernel
theorem dX6_grow_39 : decode cX6_grow 39 = .ok (.getfield 20, 3) := by decide +kernel
theorem dX6_grow_42 : decode cX6_grow 42 = .ok (.aload_n 0, 1) := by decide +kernel
theorem dX6_grow_43 : decode cX6_grow 43 = .ok (.getfield 14, 3) := by decide +kernel
theorem dX6_grow_46 : decode cX6_grow 46 = .ok (.iload 5, 2) := by decide +kernel
theorem dX6_grow_48 : decode cX6_grow 48 = .ok (.bipush 20, 2) := by decide +kernel
theorem dX6_grow_50 : decode cX6_grow 50 = .ok (.invokevirtual 42, 3) := by decide +kernel
theorem dX6_grow_53 : decode cX6_grow 53 = .ok (.ifCond .eq 15, 3) := by decide +kernel
theorem dX6_grow_56 : decode cX6_grow 56 = .ok (.iload_n 3, 1) := by decide +kernel
theorem dX6_grow_57 : decode cX6_grow 57 = .ok (.iload_n 1, 1) := by decide +kernel
theorem dX6_grow_58 : decode cX6_grow 58 = .ok (.if_icmp .ge 12, 3) := by decide +kernel
theorem dX6_grow_61 : decode cX6_grow 61 = .ok (.aload_n 0, 1) := by decide +kernel
theorem dX6_grow_62 : decode cX6_grow 62 = .ok (.invokevirtual 48, 3) := by decide +kernel
theorem dX6_grow_65 : decode cX6_grow 65 = .ok (.ifCond .ne 5, 3) := by decide +kernel
theorem dX6_grow_68 : decode cX6_grow 68 = .ok (.iconst 0, 1) := by decide +kernel
theorem dX6_grow_69 : decode cX6_grow 69 = .ok (.ireturn, 1) := by decide +kernel
theorem dX6_grow_70 : decode cX6_grow 70 = .ok (.aload_n 0, 1) := by decide +kernel
theorem dX6_grow_71 : decode cX6_grow 71 = .ok (.getfield 20, 3) := by decide +kernel
theorem dX6_grow_74 : decode cX6_grow 74 = .ok (.invokevirtual 52, 3) := by decide +kernel
theorem dX6_grow_77 : decode cX6_grow 77 = .ok (.ifCond .ne 16, 3) := by decide +kernel
theorem dX6_grow_80 : decode cX6_grow 80 = .ok (.aload_n 0, 1) := by decide +kernel
theorem dX6_grow_81 : decode cX6_grow 81 = .ok (.dup, 1) := by decide +kernel
theorem dX6_grow_82 : decode cX6_grow 82 = .ok (.getfield 35, 3) := by decide +kernel
theorem dX6_grow_85 : decode cX6_grow 85 = .ok (.lconst 1, 1) := by decide +kernel
theorem dX6_grow_86 : decode cX6_grow 86 = .ok (.iload 5, 2) := by decide +kernel
theorem dX6_grow_88 : decode cX6_grow 88 = .ok (.lshl, 1) := by decide +kernel
theorem dX6_grow_89 : decode cX6_grow 89 = .ok (.lor, 1) := by decide +kernel
theorem dX6_grow_90 : decode cX6_grow 90 = .ok (.putfield 35, 3) := by decide +kernel
theorem dX6_grow_93 : decode cX6_grow 93 = .ok (.iinc 5 1, 3) := by decide +kernel
theorem dX6_grow_96 : decode cX6_grow 96 = .ok (.goto (-65), 3) := by decide +kernel
theorem dX6_grow_99 : decode cX6_grow 99 = .ok (.aload_n 0, 1) := by decide +kernel
theorem dX6_grow_100 : decode cX6_grow 100 = .ok (.iload 4, 2) := by decide +kernel
theorem dX6_grow_102 : decode cX6_grow 102 = .ok (.putfield 31, 3) := by decide +kernel
theorem dX6_grow_105 : decode cX6_grow 105 = .ok (.iinc 3 1, 3) := by decide +kernel
theorem dX6_grow_108 : decode cX6_grow 108 = .ok (.goto (-106), 3) := by decide +kernel
theorem dX6_grow_111 : decode cX6_grow 111 = .ok (.iconst 1, 1) := by decide +kernel
theorem dX6_grow_112 : decode cX6_grow 112 = .ok (.ireturn, 1) := by decide +kernel
theorem dX6_keepNew_0 : decode cX6_keepNew 0 = .ok (.iconst 0, 1) := by decide +kernel
theorem dX6_keepNew_1 : decode cX6_keepNew 1 = .ok (.istore_n 1, 1) := by decide +kernel
theorem dX6_keepNew_2 : decode cX6_keepNew 2 = .ok (.iload_n 1, 1) := by decide +kernel
theorem dX6_keepNew_3 : decode cX6_keepNew 3 = .ok (.aload_n 0, 1) := by decide +kernel
theorem dX6_keepNew_4 : decode cX6_keepNew 4 = .ok (.getfield 20, 3) := by decide +kernel
theorem dX6_keepNew_7 : decode cX6_keepNew 7 = .ok (.invokevirtual 52, 3) := by decide +kernel
theorem dX6_keepNew_10 : decode cX6_keepNew 10 = .ok (.if_icmp .ge 56, 3) := by decide +kernel
theorem dX6_keepNew_13 : decode cX6_keepNew 13 = .ok (.aload_n 0, 1) := by decide +kernel
theorem dX6_keepNew_14 : decode cX6_keepNew 14 = .ok (.getfield 14, 3) := by decide +kernel
theorem dX6_keepNew_17 : decode cX6_keepNew 17 = .ok (.aload_n 0, 1) := by decide +kernel
theorem dX6_keepNew_18 : decode cX6_keepNew 18 = .ok (.getfield 20, 3) := by decide +kernel
theorem dX6_keepNew_21 : decode cX6_keepNew 21 = .ok (.getfield 55, 3) := by decide +kernel
theorem dX6_keepNew_24 : decode cX6_keepNew 24 = .ok (.iload_n 1, 1) := by decide +kernel
theorem dX6_keepNew_25 : decode cX6_keepNew 25 = .ok (.invokevirtual 58, 3) := by decide +kernel
theorem dX6_keepNew_28 : decode cX6_keepNew 28 = .ok (.ifCond .ge 32, 3) := by decide +kernel
theorem dX6_keepNew_31 : decode cX6_keepNew 31 = .ok (.aload_n 0, 1) := by decide +kernel
theorem dX6_keepNew_32 : decode cX6_keepNew 32 = .ok (.getfield 14, 3) := by decide +kernel
theorem dX6_keepNew_35 : decode cX6_keepNew 35 = .ok (.getfield 39, 3) := by decide +kernel
theorem dX6_keepNew_38 : decode cX6_keepNew 38 = .ok (.bipush 50, 2) := by decide +kernel
theorem dX6_keepNew_40 : decode cX6_keepNew 40 = .ok (.if_icmp .lt 5, 3) := by decide +kernel
theorem dX6_keepNew_43 : decode cX6_keepNew 43 = .ok (.iconst 0, 1) := by decide +kernel
theorem dX6_keepNew_44 : decode cX6_keepNew 44 = .ok (.ireturn, 1) := by decide +kernel
theorem dX6_keepNew_45 : decode cX6_keepNew 45 = .ok (.aload_n 0, 1) := by decide +kernel
theorem dX6_keepNew_46 : decode cX6_keepNew 46 = .ok (.getfield 14, 3) := by decide +kernel
theorem dX6_keepNew_49 : decode cX6_keepNew 49 = .ok (.aload_n 0, 1) := by decide +kernel
theorem dX6_keepNew_50 : decode cX6_keepNew 50 = .ok (.getfield 20, 3) := by decide +kernel
theorem dX6_keepNew_53 : decode cX6_keepNew 53 = .ok (.getfield 55, 3) := by decide +kernel
theorem dX6_keepNew_56 : decode cX6_keepNew 56 = .ok (.iload_n 1, 1) := by decide +kernel
theorem dX6_keepNew_57 : decode cX6_keepNew 57 = .ok (.invokevirtual 27, 3) := by decide +kernel
theorem dX6_keepNew_60 : decode cX6_keepNew 60 = .ok (.iinc 1 1, 3) := by decide +kernel
theorem dX6_keepNew_63 : decode cX6_keepNew 63 = .ok (.goto (-61), 3) := by decide +kernel
theorem dX6_keepNew_66 : decode cX6_keepNew 66 = .ok (.iconst 1, 1) := by decide +kernel
theorem dX6_keepNew_67 : decode cX6_keepNew 67 = .ok (.ireturn, 1) := by decide +kernel
theorem dX6_howManyNormal_0 : decode cX6_howManyNormal 0 = .ok (.aload_n 0, 1) := by decide +kernel
theorem dX6_howManyNormal_1 : decode cX6_howManyNormal 1 = .ok (.getfield 35, 3) := by decide +kernel
theorem dX6_howManyNormal_4 : decode cX6_howManyNormal 4 = .ok (.invokestatic 62, 3) := by decide +kernel
theorem dX6_howManyNormal_7 : decode cX6_howManyNormal 7 = .ok (.ireturn, 1) := by decide +kernel
theorem dX6_meets_0 : decode cX6_meets 0 = .ok (.iconst 0, 1) := by decide +kernel
theorem dX6_meets_1 : decode cX6_meets 1 = .ok (.istore_n 2, 1) := by decide +kernel
theorem dX6_meets_2 : decode cX6_meets 2 = .ok (.iload_n 2, 1) := by decide +kernel
theorem dX6_meets_3 : decode cX6_meets 3 = .ok (.aload_n 0, 1) := by decide +kernel
theorem dX6_meets_4 : decode cX6_meets 4 = .ok (.getfield 14, 3) := by decide +kernel
theorem dX6_meets_7 : decode cX6_meets 7 = .ok (.getfield 39, 3) := by decide +kernel
theorem dX6_meets_10 : decode cX6_meets 10 = .ok (.if_icmp .ge 26, 3) := by decide +kernel
theorem dX6_meets_13 : decode cX6_meets 13 = .ok (.aload_n 1, 1) := by decide +kernel
theorem dX6_meets_14 : decode cX6_meets 14 = .ok (.getfield 14, 3) := by decide +kernel
theorem dX6_meets_17 : decode cX6_meets 17 = .ok (.aload_n 0, 1) := by decide +kernel
theorem dX6_meets_18 : decode cX6_meets 18 = .ok (.getfield 14, 3) := by decide +kernel
theorem dX6_meets_21 : decode cX6_meets 21 = .ok (.iload_n 2, 1) := by decide +kernel
theorem dX6_meets_22 : decode cX6_meets 22 = .ok (.invokevirtual 58, 3) := by decide +kernel
theorem dX6_meets_25 : decode cX6_meets 25 = .ok (.ifCond .lt 5, 3) := by decide +kernel
theorem dX6_meets_28 : decode cX6_meets 28 = .ok (.iconst 1, 1) := by decide +kernel
theorem dX6_meets_29 : decode cX6_meets 29 = .ok (.ireturn, 1) := by decide +kernel
theorem dX6_meets_30 : decode cX6_meets 30 = .ok (.iinc 2 1, 3) := by decide +kernel
theorem dX6_meets_33 : decode cX6_meets 33 = .ok (.goto (-31), 3) := by decide +kernel
theorem dX6_meets_36 : decode cX6_meets 36 = .ok (.iconst 0, 1) := by decide +kernel
theorem dX6_meets_37 : decode cX6_meets 37 = .ok (.ireturn, 1) := by decide +kernel

theorem dX9_init_0 : decode cX9_init 0 = .ok (.aload_n 0, 1) := by decide +kernel
theorem dX9_init_1 : decode cX9_init 1 = .ok (.invokespecial 1, 3) := by decide +kernel
theorem dX9_init_4 : decode cX9_init 4 = .ok (.aload_n 0, 1) := by decide +kernel
theorem dX9_init_5 : decode cX9_init 5 = .ok (.new 7, 3) := by decide +kernel
theorem dX9_init_8 : decode cX9_init 8 = .ok (.dup, 1) := by decide +kernel
theorem dX9_init_9 : decode cX9_init 9 = .ok (.invokespecial 9, 3) := by decide +kernel
theorem dX9_init_12 : decode cX9_init 12 = .ok (.putfield 10, 3) := by decide +kernel
theorem dX9_init_15 : decode cX9_init 15 = .ok (.aload_n 0, 1) := by decide +kernel
theorem dX9_init_16 : decode cX9_init 16 = .ok (.new 16, 3) := by decide +kernel
theorem dX9_init_19 : decode cX9_init 19 = .ok (.dup, 1) := by decide +kernel
theorem dX9_init_20 : decode cX9_init 20 = .ok (.invokespecial 18, 3) := by decide +kernel
theorem dX9_init_23 : decode cX9_init 23 = .ok (.putfield 19, 3) := by decide +kernel
theorem dX9_init_26 : decode cX9_init 26 = .ok (.aload_n 0, 1) := by decide +kernel
theorem dX9_init_27 : decode cX9_init 27 = .ok (.new 16, 3) := by decide +kernel
theorem dX9_init_30 : decode cX9_init 30 = .ok (.dup, 1) := by decide +kernel
theorem dX9_init_31 : decode cX9_init 31 = .ok (.invokespecial 18, 3) := by decide +kernel
theorem dX9_init_34 : decode cX9_init 34 = .ok (.putfield 23, 3) := by decide +kernel
theorem dX9_init_37 : decode cX9_init 37 = .ok (.aload_n 0, 1) := by decide +kernel
theorem dX9_init_38 : decode cX9_init 38 = .ok (.new 26, 3) := by decide +kernel
theorem dX9_init_41 : decode cX9_init 41 = .ok (.dup, 1) := by decide +kernel
theorem dX9_init_42 : decode cX9_init 42 = .ok (.aload_n 0, 1) := by decide +kernel
theorem dX9_init_43 : decode cX9_init 43 = .ok (.getfield 19, 3) := by decide +kernel
theorem dX9_init_46 : decode cX9_init 46 = .ok (.invokespecial 28, 3) := by decide +kernel
theorem dX9_init_49 : decode cX9_init 49 = .ok (.putfield 31, 3) := by decide +kernel
theorem dX9_init_52 : decode cX9_init 52 = .ok (.aload_n 0, 1) := by decide +kernel
theorem dX9_init_53 : decode cX9_init 53 = .ok (.new 35, 3) := by decide +kernel
theorem dX9_init_56 : decode cX9_init 56 = .ok (.dup, 1) := by decide +kernel
theorem dX9_init_57 : decode cX9_init 57 = .ok (.aload_n 0, 1) := by decide +kernel
theorem dX9_init_58 : decode cX9_init 58 = .ok (.getfield 10, 3) := by decide +kernel
theorem dX9_init_61 : decode cX9_init 61 = .ok (.aload_n 0, 1) := by decide +kernel
theorem dX9_init_62 : decode cX9_init 62 = .ok (.getfield 19, 3) := by decide +kernel
theorem dX9_init_65 : decode cX9_init 65 = .ok (.aload_n 0, 1) := by decide +kernel
theorem dX9_init_66 : decode cX9_init 66 = .ok (.getfield 31, 3) := by decide +kernel
theorem dX9_init_69 : decode cX9_init 69 = .ok (.invokespecial 37, 3) := by decide +kernel
theorem dX9_init_72 : decode cX9_init 72 = .ok (.putfield 40, 3) := by decide +kernel
theorem dX9_init_75 : decode cX9_init 75 = .ok (.aload_n 0, 1) := by decide +kernel
theorem dX9_init_76 : decode cX9_init 76 = .ok (.new 44, 3) := by decide +kernel
theorem dX9_init_79 : decode cX9_init 79 = .ok (.dup, 1) := by decide +kernel
theorem dX9_init_80 : decode cX9_init 80 = .ok (.bipush 30, 2) := by decide +kernel
theorem dX9_init_82 : decode cX9_init 82 = .ok (.invokespecial 46, 3) := by decide +kernel
theorem dX9_init_85 : decode cX9_init 85 = .ok (.putfield 49, 3) := by decide +kernel
theorem dX9_init_88 : decode cX9_init 88 = .ok (.aload_n 0, 1) := by decide +kernel
theorem dX9_init_89 : decode cX9_init 89 = .ok (.new 44, 3) := by decide +kernel
theorem dX9_init_92 : decode cX9_init 92 = .ok (.dup, 1) := by decide +kernel
theorem dX9_init_93 : decode cX9_init 93 = .ok (.bipush 16, 2) := by decide +kernel
theorem dX9_init_95 : decode cX9_init 95 = .ok (.invokespecial 46, 3) := by decide +kernel
theorem dX9_init_98 : decode cX9_init 98 = .ok (.putfield 53, 3) := by decide +kernel
theorem dX9_init_101 : decode cX9_init 101 = .ok (.aload_n 0, 1) := by decide +kernel
theorem dX9_init_102 : decode cX9_init 102 = .ok (.new 44, 3) := by decide +kernel
theorem dX9_init_105 : decode cX9_init 105 = .ok (.dup, 1) := by decide +kernel
theorem dX9_init_106 : decode cX9_init 106 = .ok (.iconst 1, 1) := by decide +kernel
theorem dX9_init_107 : decode cX9_init 107 = .ok (.invokespecial 46, 3) := by decide +kernel
theorem dX9_init_110 : decode cX9_init 110 = .ok (.putfield 56, 3) := by decide +kernel
theorem dX9_init_113 : decode cX9_init 113 = .ok (.aload_n 0, 1) := by decide +kernel
theorem dX9_init_114 : decode cX9_init 114 = .ok (.new 59, 3) := by decide +kernel
theorem dX9_init_117 : decode cX9_init 117 = .ok (.dup, 1) := by decide +kernel
theorem dX9_init_118 : decode cX9_init 118 = .ok (.aload_n 0, 1) := by decide +kernel
theorem dX9_init_119 : decode cX9_init 119 = .ok (.getfield 19, 3) := by decide +kernel
theorem dX9_init_122 : decode cX9_init 122 = .ok (.invokespecial 61, 3) := by decide +kernel
theorem dX9_init_125 : decode cX9_init 125 = .ok (.putfield 62, 3) := by decide +kernel
theorem dX9_init_128 : decode cX9_init 128 = .ok (.aload_n 0, 1) := by decide +kernel
theorem dX9_init_129 : decode cX9_init 129 = .ok (.new 66, 3) := by decide +kernel
theorem dX9_init_132 : decode cX9_init 132 = .ok (.dup, 1) := by decide +kernel
theorem dX9_init_133 : decode cX9_init 133 = .ok (.aload_n 0, 1) := by decide +kernel
theorem dX9_init_134 : decode cX9_init 134 = .ok (.getfield 31, 3) := by decide +kernel
theorem dX9_init_137 : decode cX9_init 137 = .ok (.invokespecial 68, 3) := by decide +kernel
theorem dX9_init_140 : decode cX9_init 140 = .ok (.putfield 71, 3) := by decide +kernel
theorem dX9_init_143 : decode cX9_init 143 = .ok (.aload_n 0, 1) := by decide +kernel
theorem dX9_init_144 : decode cX9_init 144 = .ok (.new 75, 3) := by decide +kernel
theorem dX9_init_147 : decode cX9_init 147 = .ok (.dup, 1) := by decide +kernel
theorem dX9_init_148 : decode cX9_init 148 = .ok (.aload_n 0, 1) := by decide +kernel
theorem dX9_init_149 : decode cX9_init 149 = .ok (.getfield 31, 3) := by decide +kernel
theorem dX9_init_152 : decode cX9_init 152 = .ok (.aload_n 0, 1) := by decide +kernel
theorem dX9_init_153 : decode cX9_init 153 = .ok (.getfield 71, 3) := by decide +kernel
theorem dX9_init_156 : decode cX9_init 156 = .ok (.invokespecial 77, 3) := by decide +kernel
theorem dX9_init_159 : decode cX9_init 159 = .ok (.putfield 80, 3) := by decide +kernel
theorem dX9_init_162 : decode cX9_init 162 = .ok (.aload_n 0, 1) := by decide +kernel
theorem dX9_init_163 : decode cX9_init 163 = .ok (.new 84, 3) := by decide +kernel
theorem dX9_init_166 : decode cX9_init 166 = .ok (.dup, 1) := by decide +kernel
theorem dX9_init_167 : decode cX9_init 167 = .ok (.aload_n 0, 1) := by decide +kernel
theorem dX9_init_168 : decode cX9_init 168 = .ok (.getfield 80, 3) := by decide +kernel
theorem dX9_init_171 : decode cX9_init 171 = .ok (.invokespecial 86, 3) := by decide +kernel
theorem dX9_init_174 : decode cX9_init 174 = .ok (.putfield 89, 3) := by decide +kernel
theorem dX9_init_177 : decode cX9_init 177 = .ok (.aload_n 0, 1) := by decide +kernel
theorem dX9_init_178 : decode cX9_init 178 = .ok (.new 84, 3) := by decide +kernel
theorem dX9_init_181 : decode cX9_init 181 = .ok (.dup, 1) := by decide +kernel
theorem dX9_init_182 : decode cX9_init 182 = .ok (.aload_n 0, 1) := by decide +kernel
theorem dX9_init_183 : decode cX9_init 183 = .ok (.getfield 80, 3) := by decide +kernel
theorem dX9_init_186 : decode cX9_init 186 = .ok (.invokespecial 86, 3) := by decide +kernel
theorem dX9_init_189 : decode cX9_init 189 = .ok (.putfield 93, 3) := by decide +kernel
theorem dX9_init_192 : decode cX9_init 192 = .ok (.aload_n 0, 1) := by decide +kernel
theorem dX9_init_193 : decode cX9_init 193 = .ok (.iconst 5, 1) := by decide +kernel
theorem dX9_init_194 : decode cX9_init 194 = .ok (.newarray .int, 2) := by decide +kernel
theorem dX9_init_196 : decode cX9_init 196 = .ok (.putfield 96, 3) := by decide +kernel
theorem dX9_init_199 : decode cX9_init 199 = .ok (.aload_n 0, 1) := by decide +kernel
theorem dX9_init_200 : decode cX9_init 200 = .ok (.iconst 0, 1) := by decide +kernel
theorem dX9_init_201 : decode cX9_init 201 = .ok (.putfield 100, 3) := by decide +kernel
theorem dX9_init_204 : decode cX9_init 204 = .ok (.aload_n 0, 1) := by decide +kernel
theorem dX9_init_205 : decode cX9_init 205 = .ok (.iconst (-1), 1) := by decide +kernel
theorem dX9_init_206 : decode cX9_init 206 = .ok (.putfield 104, 3) := by decide +kernel
theorem dX9_init_209 : decode cX9_init 209 = .ok (.return_, 1) := by decide +kernel
theorem dX9_feed_0 : decode cX9_feed 0 = .ok (.aload_n 0, 1) := by decide +kernel
theorem dX9_feed_1 : decode cX9_feed 1 = .ok (.getfield 10, 3) := by decide +kernel
theorem dX9_feed_4 : decode cX9_feed 4 = .ok (.iload_n 1, 1) := by decide +kernel
theorem dX9_feed_5 : decode cX9_feed 5 = .ok (.iload_n 2, 1) := by decide +kernel
theorem dX9_feed_6 : decode cX9_feed 6 = .ok (.iload_n 3, 1) := by decide +kernel
theorem dX9_feed_7 : decode cX9_feed 7 = .ok (.iload 4, 2) := by decide +kernel
theorem dX9_feed_9 : decode cX9_feed 9 = .ok (.iload 5, 2) := by decide +kernel
theorem dX9_feed_11 : decode cX9_feed 11 = .ok (.invokevirtual 107, 3) := by decide +kernel
theorem dX9_feed_14 : decode cX9_feed 14 = .ok (.ireturn, 1) := by decide +kernel
theorem dX9_end_0 : decode cX9_end 0 = .ok (.aload_n 0, 1) := by decide +kernel
theorem dX9_end_1 : decode cX9_end 1 = .ok (.getfield 10, 3) := by decide +kernel
theorem dX9_end_4 : decode cX9_end 4 = .ok (.iload_n 1, 1) := by decide +kernel
theorem dX9_end_5 : decode cX9_end 5 = .ok (.invokevirtual 111, 3) := by decide +kernel
theorem dX9_end_8 : decode cX9_end 8 = .ok (.ireturn, 1) := by decide +kernel
theorem dX9_fault_0 : decode cX9_fault 0 = .ok (.aload_n 0, 1) := by decide +kernel
theorem dX9_fault_1 : decode cX9_fault 1 = .ok (.getfield 104, 3) := by decide +kernel
theorem dX9_fault_4 : decode cX9_fault 4 = .ok (.ireturn, 1) := by decide +kernel
theorem dX9_checkText_0 : decode cX9_checkText 0 = .ok (.aload_n 0, 1) := by decide +kernel
theorem dX9_checkText_1 : decode cX9_checkText 1 = .ok (.iload_n 1, 1) := by decide +kernel
theorem dX9_checkText_2 : decode cX9_checkText 2 = .ok (.ifCond .eq 7, 3) := by decide +kernel
theorem dX9_checkText_5 : decode cX9_checkText 5 = .ok (.iconst (-1), 1) := by decide +kernel
theorem dX9_checkText_6 : decode cX9_checkText 6 = .ok (.goto 10, 3) := by decide +kernel
theorem dX9_checkText_9 : decode cX9_checkText 9 = .ok (.aload_n 0, 1) := by decide +kernel
theorem dX9_checkText_10 : decode cX9_checkText 10 = .ok (.getfield 10, 3) := by decide +kernel
theorem dX9_checkText_13 : decode cX9_checkText 13 = .ok (.getfield 122, 3) := by decide +kernel
theorem dX9_checkText_16 : decode cX9_checkText 16 = .ok (.putfield 104, 3) := by decide +kernel
theorem dX9_checkText_19 : decode cX9_checkText 19 = .ok (.iload_n 1, 1) := by decide +kernel
theorem dX9_checkText_20 : decode cX9_checkText 20 = .ok (.ifCond .ne 13, 3) := by decide +kernel
theorem dX9_checkText_23 : decode cX9_checkText 23 = .ok (.new 125, 3) := by decide +kernel
theorem dX9_checkText_26 : decode cX9_checkText 26 = .ok (.dup, 1) := by decide +kernel
theorem dX9_checkText_27 : decode cX9_checkText 27 = .ok (.ldc 186, 2) := by decide +kernel
theorem dX9_checkText_29 : decode cX9_checkText 29 = .ok (.invokespecial 129, 3) := by decide +kernel
theorem dX9_checkText_32 : decode cX9_checkText 32 = .ok (.athrow, 1) := by decide +kernel
theorem dX9_checkText_33 : decode cX9_checkText 33 = .ok (.return_, 1) := by decide +kernel
theorem dX9_tell_0 : decode cX9_tell 0 = .ok (.aload_n 0, 1) := by decide +kernel
theorem dX9_tell_1 : decode cX9_tell 1 = .ok (.getfield 49, 3) := by decide +kernel
theorem dX9_tell_4 : decode cX9_tell 4 = .ok (.aload_n 1, 1) := by decide +kernel
theorem dX9_tell_5 : decode cX9_tell 5 = .ok (.iconst 0, 1) := by decide +kernel
theorem dX9_tell_6 : decode cX9_tell 6 = .ok (.invokevirtual 188, 3) := by decide +kernel
theorem dX9_tell_9 : decode cX9_tell 9 = .ok (.istore_n 2, 1) := by decide +kernel
theorem dX9_tell_10 : decode cX9_tell 10 = .ok (.iload_n 2, 1) := by decide +kernel
theorem dX9_tell_11 : decode cX9_tell 11 = .ok (.ifCond .lt 5, 3) := by decide +kernel
theorem dX9_tell_14 : decode cX9_tell 14 = .ok (.iload_n 2, 1) := by decide +kernel
theorem dX9_tell_15 : decode cX9_tell 15 = .ok (.ireturn, 1) := by decide +kernel
theorem dX9_tell_16 : decode cX9_tell 16 = .ok (.aload_n 0, 1) := by decide +kernel
theorem dX9_tell_17 : decode cX9_tell 17 = .ok (.getfield 49, 3) := by decide +kernel
theorem dX9_tell_20 : decode cX9_tell 20 = .ok (.getfield 192, 3) := by decide +kernel
theorem dX9_tell_23 : decode cX9_tell 23 = .ok (.bipush 30, 2) := by decide +kernel
theorem dX9_tell_25 : decode cX9_tell 25 = .ok (.if_icmp .lt 13, 3) := by decide +kernel
theorem dX9_tell_28 : decode cX9_tell 28 = .ok (.new 153, 3) := by decide +kernel
theorem dX9_tell_31 : decode cX9_tell 31 = .ok (.dup, 1) := by decide +kernel
theorem dX9_tell_32 : decode cX9_tell 32 = .ok (.ldc 195, 2) := by decide +kernel
theorem dX9_tell_34 : decode cX9_tell 34 = .ok (.invokespecial 157, 3) := by decide +kernel
theorem dX9_tell_37 : decode cX9_tell 37 = .ok (.athrow, 1) := by decide +kernel
theorem dX9_tell_38 : decode cX9_tell 38 = .ok (.aload_n 0, 1) := by decide +kernel
theorem dX9_tell_39 : decode cX9_tell 39 = .ok (.getfield 49, 3) := by decide +kernel
theorem dX9_tell_42 : decode cX9_tell 42 = .ok (.getfield 192, 3) := by decide +kernel
theorem dX9_tell_45 : decode cX9_tell 45 = .ok (.istore_n 2, 1) := by decide +kernel
theorem dX9_tell_46 : decode cX9_tell 46 = .ok (.aload_n 0, 1) := by decide +kernel
theorem dX9_tell_47 : decode cX9_tell 47 = .ok (.getfield 49, 3) := by decide +kernel
theorem dX9_tell_50 : decode cX9_tell 50 = .ok (.aload_n 1, 1) := by decide +kernel
theorem dX9_tell_51 : decode cX9_tell 51 = .ok (.iconst 0, 1) := by decide +kernel
theorem dX9_tell_52 : decode cX9_tell 52 = .ok (.invokevirtual 197, 3) := by decide +kernel
theorem dX9_tell_55 : decode cX9_tell 55 = .ok (.iload_n 2, 1) := by decide +kernel
theorem dX9_tell_56 : decode cX9_tell 56 = .ok (.ireturn, 1) := by decide +kernel
theorem dX9_turn_0 : decode cX9_turn 0 = .ok (.aload_n 0, 1) := by decide +kernel
theorem dX9_turn_1 : decode cX9_turn 1 = .ok (.iload_n 1, 1) := by decide +kernel
theorem dX9_turn_2 : decode cX9_turn 2 = .ok (.invokevirtual 201, 3) := by decide +kernel
theorem dX9_turn_5 : decode cX9_turn 5 = .ok (.iconst 1, 1) := by decide +kernel
theorem dX9_turn_6 : decode cX9_turn 6 = .ok (.iload_n 1, 1) := by decide +kernel
theorem dX9_turn_7 : decode cX9_turn 7 = .ok (.ishl, 1) := by decide +kernel
theorem dX9_turn_8 : decode cX9_turn 8 = .ok (.istore_n 3, 1) := by decide +kernel
theorem dX9_turn_9 : decode cX9_turn 9 = .ok (.aload_n 0, 1) := by decide +kernel
theorem dX9_turn_10 : decode cX9_turn 10 = .ok (.getfield 100, 3) := by decide +kernel
theorem dX9_turn_13 : decode cX9_turn 13 = .ok (.iload_n 3, 1) := by decide +kernel
theorem dX9_turn_14 : decode cX9_turn 14 = .ok (.iand, 1) := by decide +kernel
theorem dX9_turn_15 : decode cX9_turn 15 = .ok (.ifCond .eq 7, 3) := by decide +kernel
theorem dX9_turn_18 : decode cX9_turn 18 = .ok (.iconst 1, 1) := by decide +kernel
theorem dX9_turn_19 : decode cX9_turn 19 = .ok (.goto 4, 3) := by decide +kernel
theorem dX9_turn_22 : decode cX9_turn 22 = .ok (.iconst 0, 1) := by decide +kernel
theorem dX9_turn_23 : decode cX9_turn 23 = .ok (.istore 4, 2) := by decide +kernel
theorem dX9_turn_25 : decode cX9_turn 25 = .ok (.aload_n 0, 1) := by decide +kernel
theorem dX9_turn_26 : decode cX9_turn 26 = .ok (.iload_n 2, 1) := by decide +kernel
theorem dX9_turn_27 : decode cX9_turn 27 = .ok (.ifCond .eq 12, 3) := by decide +kernel
theorem dX9_turn_30 : decode cX9_turn 30 = .ok (.aload_n 0, 1) := by decide +kernel
theorem dX9_turn_31 : decode cX9_turn 31 = .ok (.getfield 100, 3) := by decide +kernel
theorem dX9_turn_34 : decode cX9_turn 34 = .ok (.iload_n 3, 1) := by decide +kernel
theorem dX9_turn_35 : decode cX9_turn 35 = .ok (.ior, 1) := by decide +kernel
theorem dX9_turn_36 : decode cX9_turn 36 = .ok (.goto 11, 3) := by decide +kernel
theorem dX9_turn_39 : decode cX9_turn 39 = .ok (.aload_n 0, 1) := by decide +kernel
theorem dX9_turn_40 : decode cX9_turn 40 = .ok (.getfield 100, 3) := by decide +kernel
theorem dX9_turn_43 : decode cX9_turn 43 = .ok (.iload_n 3, 1) := by decide +kernel
theorem dX9_turn_44 : decode cX9_turn 44 = .ok (.iconst (-1), 1) := by decide +kernel
theorem dX9_turn_45 : decode cX9_turn 45 = .ok (.ixor, 1) := by decide +kernel
theorem dX9_turn_46 : decode cX9_turn 46 = .ok (.iand, 1) := by decide +kernel
theorem dX9_turn_47 : decode cX9_turn 47 = .ok (.putfield 100, 3) := by decide +kernel
theorem dX9_turn_50 : decode cX9_turn 50 = .ok (.iload 4, 2) := by decide +kernel
theorem dX9_turn_52 : decode cX9_turn 52 = .ok (.iload_n 2, 1) := by decide +kernel
theorem dX9_turn_53 : decode cX9_turn 53 = .ok (.if_icmp .eq 7, 3) := by decide +kernel
theorem dX9_turn_56 : decode cX9_turn 56 = .ok (.iconst 1, 1) := by decide +kernel
theorem dX9_turn_57 : decode cX9_turn 57 = .ok (.goto 4, 3) := by decide +kernel
theorem dX9_turn_60 : decode cX9_turn 60 = .ok (.iconst 0, 1) := by decide +kernel
theorem dX9_turn_61 : decode cX9_turn 61 = .ok (.ireturn, 1) := by decide +kernel
theorem dX9_operator_0 : decode cX9_operator 0 = .ok (.aload_n 0, 1) := by decide +kernel
theorem dX9_operator_1 : decode cX9_operator 1 = .ok (.iload_n 1, 1) := by decide +kernel
theorem dX9_operator_2 : decode cX9_operator 2 = .ok (.invokevirtual 204, 3) := by decide +kernel
theorem dX9_operator_5 : decode cX9_operator 5 = .ok (.iload_n 2, 1) := by decide +kernel
theorem dX9_operator_6 : decode cX9_operator 6 = .ok (.tableswitch 63 0 3 #[30, 39, 48, 57], 30) := by decide +kernel
theorem dX9_operator_36 : decode cX9_operator 36 = .ok (.aload_n 0, 1) := by decide +kernel
theorem dX9_operator_37 : decode cX9_operator 37 = .ok (.getfield 19, 3) := by decide +kernel
theorem dX9_operator_40 : decode cX9_operator 40 = .ok (.iload_n 1, 1) := by decide +kernel
theorem dX9_operator_41 : decode cX9_operator 41 = .ok (.invokevirtual 207, 3) := by decide +kernel
theorem dX9_operator_44 : decode cX9_operator 44 = .ok (.ireturn, 1) := by decide +kernel
theorem dX9_operator_45 : decode cX9_operator 45 = .ok (.aload_n 0, 1) := by decide +kernel
theorem dX9_operator_46 : decode cX9_operator 46 = .ok (.getfield 19, 3) := by decide +kernel
theorem dX9_operator_49 : decode cX9_operator 49 = .ok (.iload_n 1, 1) := by decide +kernel
theorem dX9_operator_50 : decode cX9_operator 50 = .ok (.invokevirtual 210, 3) := by decide +kernel
theorem dX9_operator_53 : decode cX9_operator 53 = .ok (.ireturn, 1) := by decide +kernel
theorem dX9_operator_54 : decode cX9_operator 54 = .ok (.aload_n 0, 1) := by decide +kernel
theorem dX9_operator_55 : decode cX9_operator 55 = .ok (.getfield 19, 3) := by decide +kernel
theorem dX9_operator_58 : decode cX9_operator 58 = .ok (.iload_n 1, 1) := by decide +kernel
theorem dX9_operator_59 : decode cX9_operator 59 = .ok (.invokevirtual 213, 3) := by decide +kernel
theorem dX9_operator_62 : decode cX9_operator 62 = .ok (.ireturn, 1) := by decide +kernel
theorem dX9_operator_63 : decode cX9_operator 63 = .ok (.aload_n 0, 1) := by decide +kernel
theorem dX9_operator_64 : decode cX9_operator 64 = .ok (.iload_n 1, 1) := by decide +kernel
theorem dX9_operator_65 : decode cX9_operator 65 = .ok (.invokevirtual 216, 3) := by decide +kernel
theorem dX9_operator_68 : decode cX9_operator 68 = .ok (.ireturn, 1) := by decide +kernel
theorem dX9_operator_69 : decode cX9_operator 69 = .ok (.new 219, 3) := by decide +kernel
theorem dX9_operator_72 : decode cX9_operator 72 = .ok (.dup, 1) := by decide +kernel
theorem dX9_operator_73 : decode cX9_operator 73 = .ok (.ldc 221, 2) := by decide +kernel
theorem dX9_operator_75 : decode cX9_operator 75 = .ok (.invokespecial 223, 3) := by decide +kernel
theorem dX9_operator_78 : decode cX9_operator 78 = .ok (.athrow, 1) := by decide +kernel
theorem dX9_termsWith_0 : decode cX9_termsWith 0 = .ok (.iconst 0, 1) := by decide +kernel
theorem dX9_termsWith_1 : decode cX9_termsWith 1 = .ok (.istore_n 2, 1) := by decide +kernel
theorem dX9_termsWith_2 : decode cX9_termsWith 2 = .ok (.iconst 0, 1) := by decide +kernel
theorem dX9_termsWith_3 : decode cX9_termsWith 3 = .ok (.istore_n 3, 1) := by decide +kernel
theorem dX9_termsWith_4 : decode cX9_termsWith 4 = .ok (.iload_n 3, 1) := by decide +kernel
theorem dX9_termsWith_5 : decode cX9_termsWith 5 = .ok (.aload_n 0, 1) := by decide +kernel
theorem dX9_termsWith_6 : decode cX9_termsWith 6 = .ok (.getfield 49, 3) := by decide +kernel
theorem dX9_termsWith_9 : decode cX9_termsWith 9 = .ok (.getfield 192, 3) := by decide +kernel
theorem dX9_termsWith_12 : decode cX9_termsWith 12 = .ok (.if_icmp .ge 30, 3) := by decide +kernel
theorem dX9_termsWith_15 : decode cX9_termsWith 15 = .ok (.aload_n 0, 1) := by decide +kernel
theorem dX9_termsWith_16 : decode cX9_termsWith 16 = .ok (.getfield 49, 3) := by decide +kernel
theorem dX9_termsWith_19 : decode cX9_termsWith 19 = .ok (.iload_n 3, 1) := by decide +kernel
theorem dX9_termsWith_20 : decode cX9_termsWith 20 = .ok (.invokevirtual 224, 3) := by decide +kernel
theorem dX9_termsWith_23 : decode cX9_termsWith 23 = .ok (.iload_n 1, 1) := by decide +kernel
theorem dX9_termsWith_24 : decode cX9_termsWith 24 = .ok (.ishr, 1) := by decide +kernel
theorem dX9_termsWith_25 : decode cX9_termsWith 25 = .ok (.iconst 1, 1) := by decide +kernel
theorem dX9_termsWith_26 : decode cX9_termsWith 26 = .ok (.iand, 1) := by decide +kernel
theorem dX9_termsWith_27 : decode cX9_termsWith 27 = .ok (.ifCond .eq 9, 3) := by decide +kernel
theorem dX9_termsWith_30 : decode cX9_termsWith 30 = .ok (.iload_n 2, 1) := by decide +kernel
theorem dX9_termsWith_31 : decode cX9_termsWith 31 = .ok (.iconst 1, 1) := by decide +kernel
theorem dX9_termsWith_32 : decode cX9_termsWith 32 = .ok (.iload_n 3, 1) := by decide +kernel
theorem dX9_termsWith_33 : decode cX9_termsWith 33 = .ok (.ishl, 1) := by decide +kernel
theorem dX9_termsWith_34 : decode cX9_termsWith 34 = .ok (.ior, 1) := by decide +kernel
theorem dX9_termsWith_35 : decode cX9_termsWith 35 = .ok (.istore_n 2, 1) := by decide +kernel
theorem dX9_termsWith_36 : decode cX9_termsWith 36 = .ok (.iinc 3 1, 3) := by decide +kernel
theorem dX9_termsWith_39 : decode cX9_termsWith 39 = .ok (.goto (-35), 3) := by decide +kernel
theorem dX9_termsWith_42 : decode cX9_termsWith 42 = .ok (.iload_n 2, 1) := by decide +kernel
theorem dX9_termsWith_43 : decode cX9_termsWith 43 = .ok (.ireturn, 1) := by decide +kernel
theorem dX9_about_0 : decode cX9_about 0 = .ok (.aload_n 0, 1) := by decide +kernel
theorem dX9_about_1 : decode cX9_about 1 = .ok (.iload_n 1, 1) := by decide +kernel
theorem dX9_about_2 : decode cX9_about 2 = .ok (.invokevirtual 227, 3) := by decide +kernel
theorem dX9_about_5 : decode cX9_about 5 = .ok (.aload_n 0, 1) := by decide +kernel
theorem dX9_about_6 : decode cX9_about 6 = .ok (.getfield 49, 3) := by decide +kernel
theorem dX9_about_9 : decode cX9_about 9 = .ok (.iload_n 1, 1) := by decide +kernel
theorem dX9_about_10 : decode cX9_about 10 = .ok (.iconst 0, 1) := by decide +kernel
theorem dX9_about_11 : decode cX9_about 11 = .ok (.invokevirtual 230, 3) := by decide +kernel
theorem dX9_about_14 : decode cX9_about 14 = .ok (.istore_n 3, 1) := by decide +kernel
theorem dX9_about_15 : decode cX9_about 15 = .ok (.iload_n 2, 1) := by decide +kernel
theorem dX9_about_16 : decode cX9_about 16 = .ok (.tableswitch 125 0 8 #[52, 57, 69, 74, 83, 92, 101, 110, 116], 52) := by decide +kernel
theorem dX9_about_68 : decode cX9_about 68 = .ok (.iload_n 3, 1) := by decide +kernel
theorem dX9_about_69 : decode cX9_about 69 = .ok (.invokestatic 234, 3) := by decide +kernel
theorem dX9_about_72 : decode cX9_about 72 = .ok (.ireturn, 1) := by decide +kernel
theorem dX9_about_73 : decode cX9_about 73 = .ok (.iload_n 3, 1) := by decide +kernel
theorem dX9_about_74 : decode cX9_about 74 = .ok (.bipush 8, 2) := by decide +kernel
theorem dX9_about_76 : decode cX9_about 76 = .ok (.if_icmp .ge 7, 3) := by decide +kernel
theorem dX9_about_79 : decode cX9_about 79 = .ok (.iload_n 3, 1) := by decide +kernel
theorem dX9_about_80 : decode cX9_about 80 = .ok (.goto 4, 3) := by decide +kernel
theorem dX9_about_83 : decode cX9_about 83 = .ok (.iconst (-1), 1) := by decide +kernel
theorem dX9_about_84 : decode cX9_about 84 = .ok (.ireturn, 1) := by decide +kernel
theorem dX9_about_85 : decode cX9_about 85 = .ok (.iload_n 3, 1) := by decide +kernel
theorem dX9_about_86 : decode cX9_about 86 = .ok (.invokestatic 237, 3) := by decide +kernel
theorem dX9_about_89 : decode cX9_about 89 = .ok (.ireturn, 1) := by decide +kernel
theorem dX9_about_90 : decode cX9_about 90 = .ok (.aload_n 0, 1) := by decide +kernel
theorem dX9_about_91 : decode cX9_about 91 = .ok (.getfield 49, 3) := by decide +kernel
theorem dX9_about_94 : decode cX9_about 94 = .ok (.iload_n 1, 1) := by decide +kernel
theorem dX9_about_95 : decode cX9_about 95 = .ok (.invokevirtual 240, 3) := by decide +kernel
theorem dX9_about_98 : decode cX9_about 98 = .ok (.ireturn, 1) := by decide +kernel
theorem dX9_about_99 : decode cX9_about 99 = .ok (.aload_n 0, 1) := by decide +kernel
theorem dX9_about_100 : decode cX9_about 100 = .ok (.getfield 49, 3) := by decide +kernel
theorem dX9_about_103 : decode cX9_about 103 = .ok (.iload_n 1, 1) := by decide +kernel
theorem dX9_about_104 : decode cX9_about 104 = .ok (.invokevirtual 243, 3) := by decide +kernel
theorem dX9_about_107 : decode cX9_about 107 = .ok (.ireturn, 1) := by decide +kernel
theorem dX9_about_108 : decode cX9_about 108 = .ok (.aload_n 0, 1) := by decide +kernel
theorem dX9_about_109 : decode cX9_about 109 = .ok (.getfield 49, 3) := by decide +kernel
theorem dX9_about_112 : decode cX9_about 112 = .ok (.iload_n 1, 1) := by decide +kernel
theorem dX9_about_113 : decode cX9_about 113 = .ok (.invokevirtual 246, 3) := by decide +kernel
theorem dX9_about_116 : decode cX9_about 116 = .ok (.ireturn, 1) := by decide +kernel
theorem dX9_about_117 : decode cX9_about 117 = .ok (.aload_n 0, 1) := by decide +kernel
theorem dX9_about_118 : decode cX9_about 118 = .ok (.getfield 49, 3) := by decide +kernel
theorem dX9_about_121 : decode cX9_about 121 = .ok (.iload_n 1, 1) := by decide +kernel
theorem dX9_about_122 : decode cX9_about 122 = .ok (.invokevirtual 224, 3) := by decide +kernel
theorem dX9_about_125 : decode cX9_about 125 = .ok (.ireturn, 1) := by decide +kernel
theorem dX9_about_126 : decode cX9_about 126 = .ok (.aload_n 0, 1) := by decide +kernel
theorem dX9_about_127 : decode cX9_about 127 = .ok (.iload_n 1, 1) := by decide +kernel
theorem dX9_about_128 : decode cX9_about 128 = .ok (.invokevirtual 249, 3) := by decide +kernel
theorem dX9_about_131 : decode cX9_about 131 = .ok (.ireturn, 1) := by decide +kernel
theorem dX9_about_132 : decode cX9_about 132 = .ok (.aload_n 0, 1) := by decide +kernel
theorem dX9_about_133 : decode cX9_about 133 = .ok (.getfield 49, 3) := by decide +kernel
theorem dX9_about_136 : decode cX9_about 136 = .ok (.iload_n 1, 1) := by decide +kernel
theorem dX9_about_137 : decode cX9_about 137 = .ok (.invokevirtual 252, 3) := by decide +kernel
theorem dX9_about_140 : decode cX9_about 140 = .ok (.ireturn, 1) := by decide +kernel
theorem dX9_about_141 : decode cX9_about 141 = .ok (.new 219, 3) := by decide +kernel
theorem dX9_about_144 : decode cX9_about 144 = .ok (.dup, 1) := by decide +kernel
theorem dX9_about_145 : decode cX9_about 145 = .ok (.ldc 221, 2) := by decide +kernel
theorem dX9_about_147 : decode cX9_about 147 = .ok (.invokespecial 223, 3) := by decide +kernel
theorem dX9_about_150 : decode cX9_about 150 = .ok (.athrow, 1) := by decide +kernel
theorem dX9_could_0 : decode cX9_could 0 = .ok (.iconst 0, 1) := by decide +kernel
theorem dX9_could_1 : decode cX9_could 1 = .ok (.istore_n 2, 1) := by decide +kernel
theorem dX9_could_2 : decode cX9_could 2 = .ok (.iconst 0, 1) := by decide +kernel
theorem dX9_could_3 : decode cX9_could 3 = .ok (.istore_n 3, 1) := by decide +kernel
theorem dX9_could_4 : decode cX9_could 4 = .ok (.iload_n 3, 1) := by decide +kernel
theorem dX9_could_5 : decode cX9_could 5 = .ok (.aload_n 0, 1) := by decide +kernel
theorem dX9_could_6 : decode cX9_could 6 = .ok (.invokevirtual 181, 3) := by decide +kernel
theorem dX9_could_9 : decode cX9_could 9 = .ok (.if_icmp .ge 37, 3) := by decide +kernel
theorem dX9_could_12 : decode cX9_could 12 = .ok (.aload_n 0, 1) := by decide +kernel
theorem dX9_could_13 : decode cX9_could 13 = .ok (.getfield 100, 3) := by decide +kernel
theorem dX9_could_16 : decode cX9_could 16 = .ok (.iload_n 3, 1) := by decide +kernel
theorem dX9_could_17 : decode cX9_could 17 = .ok (.ishr, 1) := by decide +kernel
theorem dX9_could_18 : decode cX9_could 18 = .ok (.iconst 1, 1) := by decide +kernel
theorem dX9_could_19 : decode cX9_could 19 = .ok (.iand, 1) := by decide +kernel
theorem dX9_could_20 : decode cX9_could 20 = .ok (.ifCond .eq 20, 3) := by decide +kernel
theorem dX9_could_23 : decode cX9_could 23 = .ok (.aload_n 0, 1) := by decide +kernel
theorem dX9_could_24 : decode cX9_could 24 = .ok (.iconst 2, 1) := by decide +kernel
theorem dX9_could_25 : decode cX9_could 25 = .ok (.iload_n 3, 1) := by decide +kernel
theorem dX9_could_26 : decode cX9_could 26 = .ok (.imul, 1) := by decide +kernel
theorem dX9_could_27 : decode cX9_could 27 = .ok (.iload_n 1, 1) := by decide +kernel
theorem dX9_could_28 : decode cX9_could 28 = .ok (.invokevirtual 255, 3) := by decide +kernel
theorem dX9_could_31 : decode cX9_could 31 = .ok (.ifCond .eq 9, 3) := by decide +kernel
theorem dX9_could_34 : decode cX9_could 34 = .ok (.iload_n 2, 1) := by decide +kernel
theorem dX9_could_35 : decode cX9_could 35 = .ok (.iconst 1, 1) := by decide +kernel
theorem dX9_could_36 : decode cX9_could 36 = .ok (.iload_n 3, 1) := by decide +kernel
theorem dX9_could_37 : decode cX9_could 37 = .ok (.ishl, 1) := by decide +kernel
theorem dX9_could_38 : decode cX9_could 38 = .ok (.ior, 1) := by decide +kernel
theorem dX9_could_39 : decode cX9_could 39 = .ok (.istore_n 2, 1) := by decide +kernel
theorem dX9_could_40 : decode cX9_could 40 = .ok (.iinc 3 1, 3) := by decide +kernel
theorem dX9_could_43 : decode cX9_could 43 = .ok (.goto (-39), 3) := by decide +kernel
theorem dX9_could_46 : decode cX9_could 46 = .ok (.iload_n 2, 1) := by decide +kernel
theorem dX9_could_47 : decode cX9_could 47 = .ok (.ireturn, 1) := by decide +kernel
theorem dX9_couldFit_0 : decode cX9_couldFit 0 = .ok (.aload_n 0, 1) := by decide +kernel
theorem dX9_couldFit_1 : decode cX9_couldFit 1 = .ok (.getfield 53, 3) := by decide +kernel
theorem dX9_couldFit_4 : decode cX9_couldFit 4 = .ok (.iload_n 1, 1) := by decide +kernel
theorem dX9_couldFit_5 : decode cX9_couldFit 5 = .ok (.iconst 0, 1) := by decide +kernel
theorem dX9_couldFit_6 : decode cX9_couldFit 6 = .ok (.invokevirtual 230, 3) := by decide +kernel
theorem dX9_couldFit_9 : decode cX9_couldFit 9 = .ok (.invokestatic 234, 3) := by decide +kernel
theorem dX9_couldFit_12 : decode cX9_couldFit 12 = .ok (.istore_n 3, 1) := by decide +kernel
theorem dX9_couldFit_13 : decode cX9_couldFit 13 = .ok (.aload_n 0, 1) := by decide +kernel
theorem dX9_couldFit_14 : decode cX9_couldFit 14 = .ok (.getfield 49, 3) := by decide +kernel
theorem dX9_couldFit_17 : decode cX9_couldFit 17 = .ok (.iload_n 2, 1) := by decide +kernel
theorem dX9_couldFit_18 : decode cX9_couldFit 18 = .ok (.iconst 0, 1) := by decide +kernel
theorem dX9_couldFit_19 : decode cX9_couldFit 19 = .ok (.invokevirtual 230, 3) := by decide +kernel
theorem dX9_couldFit_22 : decode cX9_couldFit 22 = .ok (.invokestatic 234, 3) := by decide +kernel
theorem dX9_couldFit_25 : decode cX9_couldFit 25 = .ok (.iload_n 3, 1) := by decide +kernel
theorem dX9_couldFit_26 : decode cX9_couldFit 26 = .ok (.if_icmp .ne 7, 3) := by decide +kernel
theorem dX9_couldFit_29 : decode cX9_couldFit 29 = .ok (.iconst 1, 1) := by decide +kernel
theorem dX9_couldFit_30 : decode cX9_couldFit 30 = .ok (.goto 4, 3) := by decide +kernel
theorem dX9_couldFit_33 : decode cX9_couldFit 33 = .ok (.iconst 0, 1) := by decide +kernel
theorem dX9_couldFit_34 : decode cX9_couldFit 34 = .ok (.istore 4, 2) := by decide +kernel
theorem dX9_couldFit_36 : decode cX9_couldFit 36 = .ok (.aload_n 0, 1) := by decide +kernel
theorem dX9_couldFit_37 : decode cX9_couldFit 37 = .ok (.getfield 19, 3) := by decide +kernel
theorem dX9_couldFit_40 : decode cX9_couldFit 40 = .ok (.iload_n 3, 1) := by decide +kernel
theorem dX9_couldFit_41 : decode cX9_couldFit 41 = .ok (.invokevirtual 207, 3) := by decide +kernel
theorem dX9_couldFit_44 : decode cX9_couldFit 44 = .ok (.iconst 2, 1) := by decide +kernel
theorem dX9_couldFit_45 : decode cX9_couldFit 45 = .ok (.if_icmp .eq 6, 3) := by decide +kernel
theorem dX9_couldFit_48 : decode cX9_couldFit 48 = .ok (.iload 4, 2) := by decide +kernel
theorem dX9_couldFit_50 : decode cX9_couldFit 50 = .ok (.ireturn, 1) := by decide +kernel
theorem dX9_couldFit_51 : decode cX9_couldFit 51 = .ok (.aload_n 0, 1) := by decide +kernel
theorem dX9_couldFit_52 : decode cX9_couldFit 52 = .ok (.getfield 19, 3) := by decide +kernel
theorem dX9_couldFit_55 : decode cX9_couldFit 55 = .ok (.iload_n 3, 1) := by decide +kernel
theorem dX9_couldFit_56 : decode cX9_couldFit 56 = .ok (.invokevirtual 213, 3) := by decide +kernel
theorem dX9_couldFit_59 : decode cX9_couldFit 59 = .ok (.ifCond .lt 5, 3) := by decide +kernel
theorem dX9_couldFit_62 : decode cX9_couldFit 62 = .ok (.iconst 1, 1) := by decide +kernel
theorem dX9_couldFit_63 : decode cX9_couldFit 63 = .ok (.ireturn, 1) := by decide +kernel
theorem dX9_couldFit_64 : decode cX9_couldFit 64 = .ok (.iconst 0, 1) := by decide +kernel
theorem dX9_couldFit_65 : decode cX9_couldFit 65 = .ok (.istore 5, 2) := by decide +kernel
theorem dX9_couldFit_67 : decode cX9_couldFit 67 = .ok (.iload 4, 2) := by decide +kernel
theorem dX9_couldFit_69 : decode cX9_couldFit 69 = .ok (.ifCond .eq 60, 3) := by decide +kernel
theorem dX9_couldFit_72 : decode cX9_couldFit 72 = .ok (.iload 5, 2) := by decide +kernel
theorem dX9_couldFit_74 : decode cX9_couldFit 74 = .ok (.aload_n 0, 1) := by decide +kernel
theorem dX9_couldFit_75 : decode cX9_couldFit 75 = .ok (.getfield 19, 3) := by decide +kernel
theorem dX9_couldFit_78 : decode cX9_couldFit 78 = .ok (.getfield 139, 3) := by decide +kernel
theorem dX9_couldFit_81 : decode cX9_couldFit 81 = .ok (.if_icmp .ge 48, 3) := by decide +kernel
theorem dX9_couldFit_84 : decode cX9_couldFit 84 = .ok (.aload_n 0, 1) := by decide +kernel
theorem dX9_couldFit_85 : decode cX9_couldFit 85 = .ok (.getfield 19, 3) := by decide +kernel
theorem dX9_couldFit_88 : decode cX9_couldFit 88 = .ok (.iload 5, 2) := by decide +kernel
theorem dX9_couldFit_90 : decode cX9_couldFit 90 = .ok (.invokevirtual 207, 3) := by decide +kernel
theorem dX9_couldFit_93 : decode cX9_couldFit 93 = .ok (.iconst 2, 1) := by decide +kernel
theorem dX9_couldFit_94 : decode cX9_couldFit 94 = .ok (.if_icmp .eq 29, 3) := by decide +kernel
theorem dX9_couldFit_97 : decode cX9_couldFit 97 = .ok (.aload_n 0, 1) := by decide +kernel
theorem dX9_couldFit_98 : decode cX9_couldFit 98 = .ok (.getfield 49, 3) := by decide +kernel
theorem dX9_couldFit_101 : decode cX9_couldFit 101 = .ok (.iload_n 2, 1) := by decide +kernel
theorem dX9_couldFit_102 : decode cX9_couldFit 102 = .ok (.iload 5, 2) := by decide +kernel
theorem dX9_couldFit_104 : decode cX9_couldFit 104 = .ok (.invokevirtual 259, 3) := by decide +kernel
theorem dX9_couldFit_107 : decode cX9_couldFit 107 = .ok (.aload_n 0, 1) := by decide +kernel
theorem dX9_couldFit_108 : decode cX9_couldFit 108 = .ok (.getfield 53, 3) := by decide +kernel
theorem dX9_couldFit_111 : decode cX9_couldFit 111 = .ok (.iload_n 1, 1) := by decide +kernel
theorem dX9_couldFit_112 : decode cX9_couldFit 112 = .ok (.iload 5, 2) := by decide +kernel
theorem dX9_couldFit_114 : decode cX9_couldFit 114 = .ok (.invokevirtual 259, 3) := by decide +kernel
theorem dX9_couldFit_117 : decode cX9_couldFit 117 = .ok (.if_icmp .ge 6, 3) := by decide +kernel
theorem dX9_couldFit_120 : decode cX9_couldFit 120 = .ok (.iconst 0, 1) := by decide +kernel
theorem dX9_couldFit_121 : decode cX9_couldFit 121 = .ok (.istore 4, 2) := by decide +kernel
theorem dX9_couldFit_123 : decode cX9_couldFit 123 = .ok (.iinc 5 1, 3) := by decide +kernel
theorem dX9_couldFit_126 : decode cX9_couldFit 126 = .ok (.goto (-59), 3) := by decide +kernel
theorem dX9_couldFit_129 : decode cX9_couldFit 129 = .ok (.iload 4, 2) := by decide +kernel
theorem dX9_couldFit_131 : decode cX9_couldFit 131 = .ok (.ireturn, 1) := by decide +kernel
theorem dX9_order_0 : decode cX9_order 0 = .ok (.aload_n 0, 1) := by decide +kernel
theorem dX9_order_1 : decode cX9_order 1 = .ok (.iload_n 1, 1) := by decide +kernel
theorem dX9_order_2 : decode cX9_order 2 = .ok (.invokevirtual 227, 3) := by decide +kernel
theorem dX9_order_5 : decode cX9_order 5 = .ok (.aload_n 0, 1) := by decide +kernel
theorem dX9_order_6 : decode cX9_order 6 = .ok (.iload_n 2, 1) := by decide +kernel
theorem dX9_order_7 : decode cX9_order 7 = .ok (.invokevirtual 227, 3) := by decide +kernel
theorem dX9_order_10 : decode cX9_order 10 = .ok (.aload_n 0, 1) := by decide +kernel
theorem dX9_order_11 : decode cX9_order 11 = .ok (.getfield 49, 3) := by decide +kernel
theorem dX9_order_14 : decode cX9_order 14 = .ok (.iload_n 1, 1) := by decide +kernel
theorem dX9_order_15 : decode cX9_order 15 = .ok (.aload_n 0, 1) := by decide +kernel
