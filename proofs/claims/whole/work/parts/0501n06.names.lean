theorem dX8_push_31 : decode cX8_push 31 = .ok (.getfield 54, 3) := by decide +kernel
theorem dX8_push_34 : decode cX8_push 34 = .ok (.iconst 1, 1) := by decide +kernel
theorem dX8_push_35 : decode cX8_push 35 = .ok (.iadd, 1) := by decide +kernel
theorem dX8_push_36 : decode cX8_push 36 = .ok (.putfield 54, 3) := by decide +kernel
theorem dX8_push_39 : decode cX8_push 39 = .ok (.return_, 1) := by decide +kernel
theorem dX8_pop_0 : decode cX8_pop 0 = .ok (.aload_n 0, 1) := by decide +kernel
theorem dX8_pop_1 : decode cX8_pop 1 = .ok (.getfield 54, 3) := by decide +kernel
theorem dX8_pop_4 : decode cX8_pop 4 = .ok (.ifCond .le 15, 3) := by decide +kernel
theorem dX8_pop_7 : decode cX8_pop 7 = .ok (.aload_n 0, 1) := by decide +kernel
theorem dX8_pop_8 : decode cX8_pop 8 = .ok (.getfield 54, 3) := by decide +kernel
theorem dX8_pop_11 : decode cX8_pop 11 = .ok (.aload_n 0, 1) := by decide +kernel
theorem dX8_pop_12 : decode cX8_pop 12 = .ok (.getfield 43, 3) := by decide +kernel
theorem dX8_pop_15 : decode cX8_pop 15 = .ok (.arraylength, 1) := by decide +kernel
theorem dX8_pop_16 : decode cX8_pop 16 = .ok (.if_icmp .le 5, 3) := by decide +kernel
theorem dX8_pop_19 : decode cX8_pop 19 = .ok (.iconst (-1), 1) := by decide +kernel
theorem dX8_pop_20 : decode cX8_pop 20 = .ok (.ireturn, 1) := by decide +kernel
theorem dX8_pop_21 : decode cX8_pop 21 = .ok (.aload_n 0, 1) := by decide +kernel
theorem dX8_pop_22 : decode cX8_pop 22 = .ok (.dup, 1) := by decide +kernel
theorem dX8_pop_23 : decode cX8_pop 23 = .ok (.getfield 54, 3) := by decide +kernel
theorem dX8_pop_26 : decode cX8_pop 26 = .ok (.iconst 1, 1) := by decide +kernel
theorem dX8_pop_27 : decode cX8_pop 27 = .ok (.isub, 1) := by decide +kernel
theorem dX8_pop_28 : decode cX8_pop 28 = .ok (.putfield 54, 3) := by decide +kernel
theorem dX8_pop_31 : decode cX8_pop 31 = .ok (.aload_n 0, 1) := by decide +kernel
theorem dX8_pop_32 : decode cX8_pop 32 = .ok (.getfield 43, 3) := by decide +kernel
theorem dX8_pop_35 : decode cX8_pop 35 = .ok (.aload_n 0, 1) := by decide +kernel
theorem dX8_pop_36 : decode cX8_pop 36 = .ok (.getfield 54, 3) := by decide +kernel
theorem dX8_pop_39 : decode cX8_pop 39 = .ok (.iaload, 1) := by decide +kernel
theorem dX8_pop_40 : decode cX8_pop 40 = .ok (.ireturn, 1) := by decide +kernel
theorem dX8_put_0 : decode cX8_put 0 = .ok (.aload_n 0, 1) := by decide +kernel
theorem dX8_put_1 : decode cX8_put 1 = .ok (.iload_n 1, 1) := by decide +kernel
theorem dX8_put_2 : decode cX8_put 2 = .ok (.invokevirtual 70, 3) := by decide +kernel
theorem dX8_put_5 : decode cX8_put 5 = .ok (.istore 5, 2) := by decide +kernel
theorem dX8_put_7 : decode cX8_put 7 = .ok (.iload 5, 2) := by decide +kernel
theorem dX8_put_9 : decode cX8_put 9 = .ok (.bipush 8, 2) := by decide +kernel
theorem dX8_put_11 : decode cX8_put 11 = .ok (.if_icmp .ge 43, 3) := by decide +kernel
theorem dX8_put_14 : decode cX8_put 14 = .ok (.iload_n 3, 1) := by decide +kernel
theorem dX8_put_15 : decode cX8_put 15 = .ok (.iload 5, 2) := by decide +kernel
theorem dX8_put_17 : decode cX8_put 17 = .ok (.iadd, 1) := by decide +kernel
theorem dX8_put_18 : decode cX8_put 18 = .ok (.istore 6, 2) := by decide +kernel
theorem dX8_put_20 : decode cX8_put 20 = .ok (.iload 6, 2) := by decide +kernel
theorem dX8_put_22 : decode cX8_put 22 = .ok (.ifCond .lt 17, 3) := by decide +kernel
theorem dX8_put_25 : decode cX8_put 25 = .ok (.iload 6, 2) := by decide +kernel
theorem dX8_put_27 : decode cX8_put 27 = .ok (.aload_n 2, 1) := by decide +kernel
theorem dX8_put_28 : decode cX8_put 28 = .ok (.arraylength, 1) := by decide +kernel
theorem dX8_put_29 : decode cX8_put 29 = .ok (.if_icmp .ge 10, 3) := by decide +kernel
theorem dX8_put_32 : decode cX8_put 32 = .ok (.aload_n 2, 1) := by decide +kernel
theorem dX8_put_33 : decode cX8_put 33 = .ok (.iload 6, 2) := by decide +kernel
theorem dX8_put_35 : decode cX8_put 35 = .ok (.iaload, 1) := by decide +kernel
theorem dX8_put_36 : decode cX8_put 36 = .ok (.goto 4, 3) := by decide +kernel
theorem dX8_put_39 : decode cX8_put 39 = .ok (.iconst (-1), 1) := by decide +kernel
theorem dX8_put_40 : decode cX8_put 40 = .ok (.istore 7, 2) := by decide +kernel
theorem dX8_put_42 : decode cX8_put 42 = .ok (.iload 7, 2) := by decide +kernel
theorem dX8_put_44 : decode cX8_put 44 = .ok (.ifCond .ge 7, 3) := by decide +kernel
theorem dX8_put_47 : decode cX8_put 47 = .ok (.iload_n 1, 1) := by decide +kernel
theorem dX8_put_48 : decode cX8_put 48 = .ok (.goto 5, 3) := by decide +kernel
theorem dX8_put_51 : decode cX8_put 51 = .ok (.iload 7, 2) := by decide +kernel
theorem dX8_put_53 : decode cX8_put 53 = .ok (.ireturn, 1) := by decide +kernel
theorem dX8_put_54 : decode cX8_put 54 = .ok (.aload_n 0, 1) := by decide +kernel
theorem dX8_put_55 : decode cX8_put 55 = .ok (.iload_n 1, 1) := by decide +kernel
theorem dX8_put_56 : decode cX8_put 56 = .ok (.invokevirtual 159, 3) := by decide +kernel
theorem dX8_put_59 : decode cX8_put 59 = .ok (.ifCond .ne 5, 3) := by decide +kernel
theorem dX8_put_62 : decode cX8_put 62 = .ok (.iload_n 1, 1) := by decide +kernel
theorem dX8_put_63 : decode cX8_put 63 = .ok (.ireturn, 1) := by decide +kernel
theorem dX8_put_64 : decode cX8_put 64 = .ok (.iload 4, 2) := by decide +kernel
theorem dX8_put_66 : decode cX8_put 66 = .ok (.bipush 20, 2) := by decide +kernel
theorem dX8_put_68 : decode cX8_put 68 = .ok (.if_icmp .le 5, 3) := by decide +kernel
theorem dX8_put_71 : decode cX8_put 71 = .ok (.iconst (-1), 1) := by decide +kernel
theorem dX8_put_72 : decode cX8_put 72 = .ok (.ireturn, 1) := by decide +kernel
theorem dX8_put_73 : decode cX8_put 73 = .ok (.aload_n 0, 1) := by decide +kernel
theorem dX8_put_74 : decode cX8_put 74 = .ok (.getfield 54, 3) := by decide +kernel
theorem dX8_put_77 : decode cX8_put 77 = .ok (.istore 6, 2) := by decide +kernel
theorem dX8_put_79 : decode cX8_put 79 = .ok (.iload 5, 2) := by decide +kernel
theorem dX8_put_81 : decode cX8_put 81 = .ok (.invokestatic 85, 3) := by decide +kernel
theorem dX8_put_84 : decode cX8_put 84 = .ok (.istore 7, 2) := by decide +kernel
theorem dX8_put_86 : decode cX8_put 86 = .ok (.iconst 0, 1) := by decide +kernel
theorem dX8_put_87 : decode cX8_put 87 = .ok (.istore 8, 2) := by decide +kernel
theorem dX8_put_89 : decode cX8_put 89 = .ok (.iload 8, 2) := by decide +kernel
theorem dX8_put_91 : decode cX8_put 91 = .ok (.iload 7, 2) := by decide +kernel
theorem dX8_put_93 : decode cX8_put 93 = .ok (.if_icmp .ge 30, 3) := by decide +kernel
theorem dX8_put_96 : decode cX8_put 96 = .ok (.aload_n 0, 1) := by decide +kernel
theorem dX8_put_97 : decode cX8_put 97 = .ok (.aload_n 0, 1) := by decide +kernel
theorem dX8_put_98 : decode cX8_put 98 = .ok (.aload_n 0, 1) := by decide +kernel
theorem dX8_put_99 : decode cX8_put 99 = .ok (.iload_n 1, 1) := by decide +kernel
theorem dX8_put_100 : decode cX8_put 100 = .ok (.iload 8, 2) := by decide +kernel
theorem dX8_put_102 : decode cX8_put 102 = .ok (.invokevirtual 156, 3) := by decide +kernel
theorem dX8_put_105 : decode cX8_put 105 = .ok (.aload_n 2, 1) := by decide +kernel
theorem dX8_put_106 : decode cX8_put 106 = .ok (.iload_n 3, 1) := by decide +kernel
theorem dX8_put_107 : decode cX8_put 107 = .ok (.iload 4, 2) := by decide +kernel
theorem dX8_put_109 : decode cX8_put 109 = .ok (.iconst 1, 1) := by decide +kernel
theorem dX8_put_110 : decode cX8_put 110 = .ok (.iadd, 1) := by decide +kernel
theorem dX8_put_111 : decode cX8_put 111 = .ok (.invokevirtual 162, 3) := by decide +kernel
theorem dX8_put_114 : decode cX8_put 114 = .ok (.invokevirtual 146, 3) := by decide +kernel
theorem dX8_put_117 : decode cX8_put 117 = .ok (.iinc 8 1, 3) := by decide +kernel
theorem dX8_put_120 : decode cX8_put 120 = .ok (.goto (-31), 3) := by decide +kernel
theorem dX8_put_123 : decode cX8_put 123 = .ok (.aload_n 0, 1) := by decide +kernel
theorem dX8_put_124 : decode cX8_put 124 = .ok (.iload 5, 2) := by decide +kernel
theorem dX8_put_126 : decode cX8_put 126 = .ok (.invokestatic 74, 3) := by decide +kernel
theorem dX8_put_129 : decode cX8_put 129 = .ok (.invokevirtual 165, 3) := by decide +kernel
theorem dX8_put_132 : decode cX8_put 132 = .ok (.iload 6, 2) := by decide +kernel
theorem dX8_put_134 : decode cX8_put 134 = .ok (.istore 8, 2) := by decide +kernel
theorem dX8_put_136 : decode cX8_put 136 = .ok (.iload 8, 2) := by decide +kernel
theorem dX8_put_138 : decode cX8_put 138 = .ok (.aload_n 0, 1) := by decide +kernel
theorem dX8_put_139 : decode cX8_put 139 = .ok (.getfield 54, 3) := by decide +kernel
theorem dX8_put_142 : decode cX8_put 142 = .ok (.if_icmp .ge 35, 3) := by decide +kernel
theorem dX8_put_145 : decode cX8_put 145 = .ok (.iload 8, 2) := by decide +kernel
theorem dX8_put_147 : decode cX8_put 147 = .ok (.ifCond .lt 30, 3) := by decide +kernel
theorem dX8_put_150 : decode cX8_put 150 = .ok (.iload 8, 2) := by decide +kernel
theorem dX8_put_152 : decode cX8_put 152 = .ok (.aload_n 0, 1) := by decide +kernel
theorem dX8_put_153 : decode cX8_put 153 = .ok (.getfield 43, 3) := by decide +kernel
theorem dX8_put_156 : decode cX8_put 156 = .ok (.arraylength, 1) := by decide +kernel
theorem dX8_put_157 : decode cX8_put 157 = .ok (.if_icmp .ge 20, 3) := by decide +kernel
theorem dX8_put_160 : decode cX8_put 160 = .ok (.aload_n 0, 1) := by decide +kernel
theorem dX8_put_161 : decode cX8_put 161 = .ok (.aload_n 0, 1) := by decide +kernel
theorem dX8_put_162 : decode cX8_put 162 = .ok (.getfield 43, 3) := by decide +kernel
theorem dX8_put_165 : decode cX8_put 165 = .ok (.iload 8, 2) := by decide +kernel
theorem dX8_put_167 : decode cX8_put 167 = .ok (.iaload, 1) := by decide +kernel
theorem dX8_put_168 : decode cX8_put 168 = .ok (.invokevirtual 168, 3) := by decide +kernel
theorem dX8_put_171 : decode cX8_put 171 = .ok (.iinc 8 1, 3) := by decide +kernel
theorem dX8_put_174 : decode cX8_put 174 = .ok (.goto (-38), 3) := by decide +kernel
theorem dX8_put_177 : decode cX8_put 177 = .ok (.aload_n 0, 1) := by decide +kernel
theorem dX8_put_178 : decode cX8_put 178 = .ok (.iload 6, 2) := by decide +kernel
theorem dX8_put_180 : decode cX8_put 180 = .ok (.putfield 54, 3) := by decide +kernel
theorem dX8_put_183 : decode cX8_put 183 = .ok (.aload_n 0, 1) := by decide +kernel
theorem dX8_put_184 : decode cX8_put 184 = .ok (.invokevirtual 171, 3) := by decide +kernel
theorem dX8_put_187 : decode cX8_put 187 = .ok (.ireturn, 1) := by decide +kernel

theorem dX1_init_0 : decode cX1_init 0 = .ok (.aload_n 0, 1) := by decide +kernel
theorem dX1_init_1 : decode cX1_init 1 = .ok (.invokespecial 3, 3) := by decide +kernel
theorem dX1_init_4 : decode cX1_init 4 = .ok (.aload_n 0, 1) := by decide +kernel
theorem dX1_init_5 : decode cX1_init 5 = .ok (.sipush 400, 3) := by decide +kernel
theorem dX1_init_8 : decode cX1_init 8 = .ok (.newarray .int, 2) := by decide +kernel
theorem dX1_init_10 : decode cX1_init 10 = .ok (.putfield 9, 3) := by decide +kernel
theorem dX1_init_13 : decode cX1_init 13 = .ok (.aload_n 0, 1) := by decide +kernel
theorem dX1_init_14 : decode cX1_init 14 = .ok (.sipush 400, 3) := by decide +kernel
theorem dX1_init_17 : decode cX1_init 17 = .ok (.newarray .int, 2) := by decide +kernel
theorem dX1_init_19 : decode cX1_init 19 = .ok (.putfield 15, 3) := by decide +kernel
theorem dX1_init_22 : decode cX1_init 22 = .ok (.aload_n 0, 1) := by decide +kernel
theorem dX1_init_23 : decode cX1_init 23 = .ok (.sipush 400, 3) := by decide +kernel
theorem dX1_init_26 : decode cX1_init 26 = .ok (.newarray .int, 2) := by decide +kernel
theorem dX1_init_28 : decode cX1_init 28 = .ok (.putfield 18, 3) := by decide +kernel
theorem dX1_init_31 : decode cX1_init 31 = .ok (.aload_n 0, 1) := by decide +kernel
theorem dX1_init_32 : decode cX1_init 32 = .ok (.aload_n 1, 1) := by decide +kernel
theorem dX1_init_33 : decode cX1_init 33 = .ok (.putfield 21, 3) := by decide +kernel
theorem dX1_init_36 : decode cX1_init 36 = .ok (.aload_n 0, 1) := by decide +kernel
theorem dX1_init_37 : decode cX1_init 37 = .ok (.aload_n 2, 1) := by decide +kernel
theorem dX1_init_38 : decode cX1_init 38 = .ok (.putfield 25, 3) := by decide +kernel
theorem dX1_init_41 : decode cX1_init 41 = .ok (.aload_n 0, 1) := by decide +kernel
theorem dX1_init_42 : decode cX1_init 42 = .ok (.aload_n 3, 1) := by decide +kernel
theorem dX1_init_43 : decode cX1_init 43 = .ok (.putfield 29, 3) := by decide +kernel
theorem dX1_init_46 : decode cX1_init 46 = .ok (.return_, 1) := by decide +kernel
theorem dX1_read_0 : decode cX1_read 0 = .ok (.aload_n 0, 1) := by decide +kernel
theorem dX1_read_1 : decode cX1_read 1 = .ok (.iconst 0, 1) := by decide +kernel
theorem dX1_read_2 : decode cX1_read 2 = .ok (.putfield 33, 3) := by decide +kernel
theorem dX1_read_5 : decode cX1_read 5 = .ok (.aload_n 0, 1) := by decide +kernel
theorem dX1_read_6 : decode cX1_read 6 = .ok (.iconst 0, 1) := by decide +kernel
theorem dX1_read_7 : decode cX1_read 7 = .ok (.putfield 37, 3) := by decide +kernel
theorem dX1_read_10 : decode cX1_read 10 = .ok (.iconst 0, 1) := by decide +kernel
theorem dX1_read_11 : decode cX1_read 11 = .ok (.istore_n 1, 1) := by decide +kernel
theorem dX1_read_12 : decode cX1_read 12 = .ok (.iload_n 1, 1) := by decide +kernel
theorem dX1_read_13 : decode cX1_read 13 = .ok (.sipush 400, 3) := by decide +kernel
theorem dX1_read_16 : decode cX1_read 16 = .ok (.if_icmp .ge 59, 3) := by decide +kernel
theorem dX1_read_19 : decode cX1_read 19 = .ok (.aload_n 0, 1) := by decide +kernel
theorem dX1_read_20 : decode cX1_read 20 = .ok (.getfield 37, 3) := by decide +kernel
theorem dX1_read_23 : decode cX1_read 23 = .ok (.istore_n 2, 1) := by decide +kernel
theorem dX1_read_24 : decode cX1_read 24 = .ok (.aload_n 0, 1) := by decide +kernel
theorem dX1_read_25 : decode cX1_read 25 = .ok (.invokevirtual 40, 3) := by decide +kernel
theorem dX1_read_28 : decode cX1_read 28 = .ok (.ifCond .ne 6, 3) := by decide +kernel
theorem dX1_read_31 : decode cX1_read 31 = .ok (.bipush (-2), 2) := by decide +kernel
theorem dX1_read_33 : decode cX1_read 33 = .ok (.ireturn, 1) := by decide +kernel
theorem dX1_read_34 : decode cX1_read 34 = .ok (.aload_n 0, 1) := by decide +kernel
theorem dX1_read_35 : decode cX1_read 35 = .ok (.getfield 37, 3) := by decide +kernel
theorem dX1_read_38 : decode cX1_read 38 = .ok (.iload_n 2, 1) := by decide +kernel
theorem dX1_read_39 : decode cX1_read 39 = .ok (.if_icmp .le 6, 3) := by decide +kernel
theorem dX1_read_42 : decode cX1_read 42 = .ok (.goto 27, 3) := by decide +kernel
theorem dX1_read_45 : decode cX1_read 45 = .ok (.aload_n 0, 1) := by decide +kernel
theorem dX1_read_46 : decode cX1_read 46 = .ok (.invokevirtual 44, 3) := by decide +kernel
theorem dX1_read_49 : decode cX1_read 49 = .ok (.ifCond .ne 6, 3) := by decide +kernel
theorem dX1_read_52 : decode cX1_read 52 = .ok (.bipush (-2), 2) := by decide +kernel
theorem dX1_read_54 : decode cX1_read 54 = .ok (.ireturn, 1) := by decide +kernel
theorem dX1_read_55 : decode cX1_read 55 = .ok (.aload_n 0, 1) := by decide +kernel
theorem dX1_read_56 : decode cX1_read 56 = .ok (.getfield 37, 3) := by decide +kernel
theorem dX1_read_59 : decode cX1_read 59 = .ok (.ifCond .ne 10, 3) := by decide +kernel
theorem dX1_read_62 : decode cX1_read 62 = .ok (.aload_n 0, 1) := by decide +kernel
theorem dX1_read_63 : decode cX1_read 63 = .ok (.getfield 9, 3) := by decide +kernel
theorem dX1_read_66 : decode cX1_read 66 = .ok (.iconst 0, 1) := by decide +kernel
theorem dX1_read_67 : decode cX1_read 67 = .ok (.iaload, 1) := by decide +kernel
theorem dX1_read_68 : decode cX1_read 68 = .ok (.ireturn, 1) := by decide +kernel
theorem dX1_read_69 : decode cX1_read 69 = .ok (.iinc 1 1, 3) := by decide +kernel
theorem dX1_read_72 : decode cX1_read 72 = .ok (.goto (-60), 3) := by decide +kernel
theorem dX1_read_75 : decode cX1_read 75 = .ok (.bipush (-2), 2) := by decide +kernel
theorem dX1_read_77 : decode cX1_read 77 = .ok (.ireturn, 1) := by decide +kernel
theorem dX1_readHead_0 : decode cX1_readHead 0 = .ok (.aload_n 0, 1) := by decide +kernel
theorem dX1_readHead_1 : decode cX1_readHead 1 = .ok (.getfield 21, 3) := by decide +kernel
theorem dX1_readHead_4 : decode cX1_readHead 4 = .ok (.getfield 47, 3) := by decide +kernel
theorem dX1_readHead_7 : decode cX1_readHead 7 = .ok (.iconst 1, 1) := by decide +kernel
theorem dX1_readHead_8 : decode cX1_readHead 8 = .ok (.if_icmp .eq 5, 3) := by decide +kernel
theorem dX1_readHead_11 : decode cX1_readHead 11 = .ok (.iconst 0, 1) := by decide +kernel
theorem dX1_readHead_12 : decode cX1_readHead 12 = .ok (.ireturn, 1) := by decide +kernel
theorem dX1_readHead_13 : decode cX1_readHead 13 = .ok (.aload_n 0, 1) := by decide +kernel
theorem dX1_readHead_14 : decode cX1_readHead 14 = .ok (.getfield 25, 3) := by decide +kernel
theorem dX1_readHead_17 : decode cX1_readHead 17 = .ok (.aload_n 0, 1) := by decide +kernel
theorem dX1_readHead_18 : decode cX1_readHead 18 = .ok (.getfield 21, 3) := by decide +kernel
theorem dX1_readHead_21 : decode cX1_readHead 21 = .ok (.getfield 52, 3) := by decide +kernel
theorem dX1_readHead_24 : decode cX1_readHead 24 = .ok (.invokevirtual 55, 3) := by decide +kernel
theorem dX1_readHead_27 : decode cX1_readHead 27 = .ok (.istore_n 1, 1) := by decide +kernel
theorem dX1_readHead_28 : decode cX1_readHead 28 = .ok (.aload_n 0, 1) := by decide +kernel
theorem dX1_readHead_29 : decode cX1_readHead 29 = .ok (.getfield 25, 3) := by decide +kernel
theorem dX1_readHead_32 : decode cX1_readHead 32 = .ok (.aload_n 0, 1) := by decide +kernel
theorem dX1_readHead_33 : decode cX1_readHead 33 = .ok (.getfield 21, 3) := by decide +kernel
theorem dX1_readHead_36 : decode cX1_readHead 36 = .ok (.getfield 52, 3) := by decide +kernel
theorem dX1_readHead_39 : decode cX1_readHead 39 = .ok (.invokevirtual 61, 3) := by decide +kernel
theorem dX1_readHead_42 : decode cX1_readHead 42 = .ok (.istore_n 2, 1) := by decide +kernel
theorem dX1_readHead_43 : decode cX1_readHead 43 = .ok (.iload_n 1, 1) := by decide +kernel
theorem dX1_readHead_44 : decode cX1_readHead 44 = .ok (.ifCond .ge 9, 3) := by decide +kernel
theorem dX1_readHead_47 : decode cX1_readHead 47 = .ok (.iload_n 2, 1) := by decide +kernel
theorem dX1_readHead_48 : decode cX1_readHead 48 = .ok (.ifCond .ge 5, 3) := by decide +kernel
theorem dX1_readHead_51 : decode cX1_readHead 51 = .ok (.iconst 0, 1) := by decide +kernel
theorem dX1_readHead_52 : decode cX1_readHead 52 = .ok (.ireturn, 1) := by decide +kernel
theorem dX1_readHead_53 : decode cX1_readHead 53 = .ok (.aload_n 0, 1) := by decide +kernel
theorem dX1_readHead_54 : decode cX1_readHead 54 = .ok (.getfield 21, 3) := by decide +kernel
theorem dX1_readHead_57 : decode cX1_readHead 57 = .ok (.invokevirtual 64, 3) := by decide +kernel
theorem dX1_readHead_60 : decode cX1_readHead 60 = .ok (.iload_n 1, 1) := by decide +kernel
theorem dX1_readHead_61 : decode cX1_readHead 61 = .ok (.ifCond .lt 17, 3) := by decide +kernel
theorem dX1_readHead_64 : decode cX1_readHead 64 = .ok (.aload_n 0, 1) := by decide +kernel
theorem dX1_readHead_65 : decode cX1_readHead 65 = .ok (.aload_n 0, 1) := by decide +kernel
theorem dX1_readHead_66 : decode cX1_readHead 66 = .ok (.getfield 29, 3) := by decide +kernel
theorem dX1_readHead_69 : decode cX1_readHead 69 = .ok (.iload_n 1, 1) := by decide +kernel
theorem dX1_readHead_70 : decode cX1_readHead 70 = .ok (.invokevirtual 67, 3) := by decide +kernel
theorem dX1_readHead_73 : decode cX1_readHead 73 = .ok (.invokevirtual 72, 3) := by decide +kernel
theorem dX1_readHead_76 : decode cX1_readHead 76 = .ok (.iconst 1, 1) := by decide +kernel
theorem dX1_readHead_77 : decode cX1_readHead 77 = .ok (.ireturn, 1) := by decide +kernel
theorem dX1_readHead_78 : decode cX1_readHead 78 = .ok (.aload_n 0, 1) := by decide +kernel
theorem dX1_readHead_79 : decode cX1_readHead 79 = .ok (.getfield 25, 3) := by decide +kernel
theorem dX1_readHead_82 : decode cX1_readHead 82 = .ok (.iload_n 2, 1) := by decide +kernel
theorem dX1_readHead_83 : decode cX1_readHead 83 = .ok (.invokevirtual 76, 3) := by decide +kernel
theorem dX1_readHead_86 : decode cX1_readHead 86 = .ok (.ifCond .ne 21, 3) := by decide +kernel
theorem dX1_readHead_89 : decode cX1_readHead 89 = .ok (.aload_n 0, 1) := by decide +kernel
theorem dX1_readHead_90 : decode cX1_readHead 90 = .ok (.aload_n 0, 1) := by decide +kernel
theorem dX1_readHead_91 : decode cX1_readHead 91 = .ok (.getfield 29, 3) := by decide +kernel
theorem dX1_readHead_94 : decode cX1_readHead 94 = .ok (.iload_n 2, 1) := by decide +kernel
theorem dX1_readHead_95 : decode cX1_readHead 95 = .ok (.iconst 0, 1) := by decide +kernel
theorem dX1_readHead_96 : decode cX1_readHead 96 = .ok (.invokestatic 79, 3) := by decide +kernel
theorem dX1_readHead_99 : decode cX1_readHead 99 = .ok (.invokevirtual 67, 3) := by decide +kernel
theorem dX1_readHead_102 : decode cX1_readHead 102 = .ok (.invokevirtual 72, 3) := by decide +kernel
theorem dX1_readHead_105 : decode cX1_readHead 105 = .ok (.iconst 1, 1) := by decide +kernel
theorem dX1_readHead_106 : decode cX1_readHead 106 = .ok (.ireturn, 1) := by decide +kernel
theorem dX1_readHead_107 : decode cX1_readHead 107 = .ok (.aload_n 0, 1) := by decide +kernel
theorem dX1_readHead_108 : decode cX1_readHead 108 = .ok (.getfield 21, 3) := by decide +kernel
theorem dX1_readHead_111 : decode cX1_readHead 111 = .ok (.bipush 40, 2) := by decide +kernel
theorem dX1_readHead_113 : decode cX1_readHead 113 = .ok (.invokevirtual 83, 3) := by decide +kernel
theorem dX1_readHead_116 : decode cX1_readHead 116 = .ok (.ifCond .eq 20, 3) := by decide +kernel
theorem dX1_readHead_119 : decode cX1_readHead 119 = .ok (.aload_n 0, 1) := by decide +kernel
theorem dX1_readHead_120 : decode cX1_readHead 120 = .ok (.getfield 37, 3) := by decide +kernel
theorem dX1_readHead_123 : decode cX1_readHead 123 = .ok (.ifCond .lt 13, 3) := by decide +kernel
theorem dX1_readHead_126 : decode cX1_readHead 126 = .ok (.aload_n 0, 1) := by decide +kernel
theorem dX1_readHead_127 : decode cX1_readHead 127 = .ok (.getfield 37, 3) := by decide +kernel
theorem dX1_readHead_130 : decode cX1_readHead 130 = .ok (.sipush 400, 3) := by decide +kernel
theorem dX1_readHead_133 : decode cX1_readHead 133 = .ok (.if_icmp .lt 5, 3) := by decide +kernel
theorem dX1_readHead_136 : decode cX1_readHead 136 = .ok (.iconst 0, 1) := by decide +kernel
theorem dX1_readHead_137 : decode cX1_readHead 137 = .ok (.ireturn, 1) := by decide +kernel
theorem dX1_readHead_138 : decode cX1_readHead 138 = .ok (.aload_n 0, 1) := by decide +kernel
theorem dX1_readHead_139 : decode cX1_readHead 139 = .ok (.getfield 15, 3) := by decide +kernel
theorem dX1_readHead_142 : decode cX1_readHead 142 = .ok (.aload_n 0, 1) := by decide +kernel
theorem dX1_readHead_143 : decode cX1_readHead 143 = .ok (.getfield 37, 3) := by decide +kernel
theorem dX1_readHead_146 : decode cX1_readHead 146 = .ok (.iload_n 2, 1) := by decide +kernel
theorem dX1_readHead_147 : decode cX1_readHead 147 = .ok (.iastore, 1) := by decide +kernel
theorem dX1_readHead_148 : decode cX1_readHead 148 = .ok (.aload_n 0, 1) := by decide +kernel
theorem dX1_readHead_149 : decode cX1_readHead 149 = .ok (.getfield 18, 3) := by decide +kernel
theorem dX1_readHead_152 : decode cX1_readHead 152 = .ok (.aload_n 0, 1) := by decide +kernel
theorem dX1_readHead_153 : decode cX1_readHead 153 = .ok (.getfield 37, 3) := by decide +kernel
theorem dX1_readHead_156 : decode cX1_readHead 156 = .ok (.aload_n 0, 1) := by decide +kernel
theorem dX1_readHead_157 : decode cX1_readHead 157 = .ok (.getfield 33, 3) := by decide +kernel
theorem dX1_readHead_160 : decode cX1_readHead 160 = .ok (.iastore, 1) := by decide +kernel
theorem dX1_readHead_161 : decode cX1_readHead 161 = .ok (.aload_n 0, 1) := by decide +kernel
theorem dX1_readHead_162 : decode cX1_readHead 162 = .ok (.dup, 1) := by decide +kernel
theorem dX1_readHead_163 : decode cX1_readHead 163 = .ok (.getfield 37, 3) := by decide +kernel
theorem dX1_readHead_166 : decode cX1_readHead 166 = .ok (.iconst 1, 1) := by decide +kernel
theorem dX1_readHead_167 : decode cX1_readHead 167 = .ok (.iadd, 1) := by decide +kernel
theorem dX1_readHead_168 : decode cX1_readHead 168 = .ok (.putfield 37, 3) := by decide +kernel
theorem dX1_readHead_171 : decode cX1_readHead 171 = .ok (.aload_n 0, 1) := by decide +kernel
theorem dX1_readHead_172 : decode cX1_readHead 172 = .ok (.getfield 21, 3) := by decide +kernel
theorem dX1_readHead_175 : decode cX1_readHead 175 = .ok (.invokevirtual 64, 3) := by decide +kernel
theorem dX1_readHead_178 : decode cX1_readHead 178 = .ok (.iconst 1, 1) := by decide +kernel
theorem dX1_readHead_179 : decode cX1_readHead 179 = .ok (.ireturn, 1) := by decide +kernel
theorem dX1_closeAll_0 : decode cX1_closeAll 0 = .ok (.iconst 0, 1) := by decide +kernel
theorem dX1_closeAll_1 : decode cX1_closeAll 1 = .ok (.istore_n 1, 1) := by decide +kernel
theorem dX1_closeAll_2 : decode cX1_closeAll 2 = .ok (.iload_n 1, 1) := by decide +kernel
theorem dX1_closeAll_3 : decode cX1_closeAll 3 = .ok (.sipush 400, 3) := by decide +kernel
theorem dX1_closeAll_6 : decode cX1_closeAll 6 = .ok (.if_icmp .ge 145, 3) := by decide +kernel
theorem dX1_closeAll_9 : decode cX1_closeAll 9 = .ok (.aload_n 0, 1) := by decide +kernel
theorem dX1_closeAll_10 : decode cX1_closeAll 10 = .ok (.getfield 37, 3) := by decide +kernel
theorem dX1_closeAll_13 : decode cX1_closeAll 13 = .ok (.ifCond .le 138, 3) := by decide +kernel
theorem dX1_closeAll_16 : decode cX1_closeAll 16 = .ok (.aload_n 0, 1) := by decide +kernel
theorem dX1_closeAll_17 : decode cX1_closeAll 17 = .ok (.getfield 37, 3) := by decide +kernel
theorem dX1_closeAll_20 : decode cX1_closeAll 20 = .ok (.sipush 400, 3) := by decide +kernel
theorem dX1_closeAll_23 : decode cX1_closeAll 23 = .ok (.if_icmp .gt 128, 3) := by decide +kernel
theorem dX1_closeAll_26 : decode cX1_closeAll 26 = .ok (.aload_n 0, 1) := by decide +kernel
theorem dX1_closeAll_27 : decode cX1_closeAll 27 = .ok (.getfield 15, 3) := by decide +kernel
theorem dX1_closeAll_30 : decode cX1_closeAll 30 = .ok (.aload_n 0, 1) := by decide +kernel
theorem dX1_closeAll_31 : decode cX1_closeAll 31 = .ok (.getfield 37, 3) := by decide +kernel
theorem dX1_closeAll_34 : decode cX1_closeAll 34 = .ok (.iconst 1, 1) := by decide +kernel
theorem dX1_closeAll_35 : decode cX1_closeAll 35 = .ok (.isub, 1) := by decide +kernel
theorem dX1_closeAll_36 : decode cX1_closeAll 36 = .ok (.iaload, 1) := by decide +kernel
theorem dX1_closeAll_37 : decode cX1_closeAll 37 = .ok (.istore_n 2, 1) := by decide +kernel
theorem dX1_closeAll_38 : decode cX1_closeAll 38 = .ok (.aload_n 0, 1) := by decide +kernel
theorem dX1_closeAll_39 : decode cX1_closeAll 39 = .ok (.getfield 33, 3) := by decide +kernel
theorem dX1_closeAll_42 : decode cX1_closeAll 42 = .ok (.aload_n 0, 1) := by decide +kernel
theorem dX1_closeAll_43 : decode cX1_closeAll 43 = .ok (.getfield 18, 3) := by decide +kernel
theorem dX1_closeAll_46 : decode cX1_closeAll 46 = .ok (.aload_n 0, 1) := by decide +kernel
theorem dX1_closeAll_47 : decode cX1_closeAll 47 = .ok (.getfield 37, 3) := by decide +kernel
theorem dX1_closeAll_50 : decode cX1_closeAll 50 = .ok (.iconst 1, 1) := by decide +kernel
theorem dX1_closeAll_51 : decode cX1_closeAll 51 = .ok (.isub, 1) := by decide +kernel
theorem dX1_closeAll_52 : decode cX1_closeAll 52 = .ok (.iaload, 1) := by decide +kernel
theorem dX1_closeAll_53 : decode cX1_closeAll 53 = .ok (.isub, 1) := by decide +kernel
theorem dX1_closeAll_54 : decode cX1_closeAll 54 = .ok (.istore_n 3, 1) := by decide +kernel
theorem dX1_closeAll_55 : decode cX1_closeAll 55 = .ok (.aload_n 0, 1) := by decide +kernel
theorem dX1_closeAll_56 : decode cX1_closeAll 56 = .ok (.getfield 25, 3) := by decide +kernel
theorem dX1_closeAll_59 : decode cX1_closeAll 59 = .ok (.iload_n 2, 1) := by decide +kernel
theorem dX1_closeAll_60 : decode cX1_closeAll 60 = .ok (.invokevirtual 76, 3) := by decide +kernel
theorem dX1_closeAll_63 : decode cX1_closeAll 63 = .ok (.istore 4, 2) := by decide +kernel
theorem dX1_closeAll_65 : decode cX1_closeAll 65 = .ok (.aload_n 0, 1) := by decide +kernel
theorem dX1_closeAll_66 : decode cX1_closeAll 66 = .ok (.getfield 25, 3) := by decide +kernel
theorem dX1_closeAll_69 : decode cX1_closeAll 69 = .ok (.iload_n 2, 1) := by decide +kernel
theorem dX1_closeAll_70 : decode cX1_closeAll 70 = .ok (.invokevirtual 87, 3) := by decide +kernel
theorem dX1_closeAll_73 : decode cX1_closeAll 73 = .ok (.iconst 2, 1) := by decide +kernel
theorem dX1_closeAll_74 : decode cX1_closeAll 74 = .ok (.if_icmp .ne 8, 3) := by decide +kernel
theorem dX1_closeAll_77 : decode cX1_closeAll 77 = .ok (.bipush 9, 2) := by decide +kernel
theorem dX1_closeAll_79 : decode cX1_closeAll 79 = .ok (.goto 5, 3) := by decide +kernel
theorem dX1_closeAll_82 : decode cX1_closeAll 82 = .ok (.iload 4, 2) := by decide +kernel
theorem dX1_closeAll_84 : decode cX1_closeAll 84 = .ok (.istore 5, 2) := by decide +kernel
theorem dX1_closeAll_86 : decode cX1_closeAll 86 = .ok (.iload_n 3, 1) := by decide +kernel
theorem dX1_closeAll_87 : decode cX1_closeAll 87 = .ok (.iload 5, 2) := by decide +kernel
theorem dX1_closeAll_89 : decode cX1_closeAll 89 = .ok (.if_icmp .ge 24, 3) := by decide +kernel
theorem dX1_closeAll_92 : decode cX1_closeAll 92 = .ok (.aload_n 0, 1) := by decide +kernel
theorem dX1_closeAll_93 : decode cX1_closeAll 93 = .ok (.getfield 21, 3) := by decide +kernel
theorem dX1_closeAll_96 : decode cX1_closeAll 96 = .ok (.bipush 44, 2) := by decide +kernel
theorem dX1_closeAll_98 : decode cX1_closeAll 98 = .ok (.invokevirtual 83, 3) := by decide +kernel
theorem dX1_closeAll_101 : decode cX1_closeAll 101 = .ok (.ifCond .eq 12, 3) := by decide +kernel
theorem dX1_closeAll_104 : decode cX1_closeAll 104 = .ok (.aload_n 0, 1) := by decide +kernel
theorem dX1_closeAll_105 : decode cX1_closeAll 105 = .ok (.getfield 21, 3) := by decide +kernel
theorem dX1_closeAll_108 : decode cX1_closeAll 108 = .ok (.invokevirtual 64, 3) := by decide +kernel
theorem dX1_closeAll_111 : decode cX1_closeAll 111 = .ok (.iconst 1, 1) := by decide +kernel
theorem dX1_closeAll_112 : decode cX1_closeAll 112 = .ok (.ireturn, 1) := by decide +kernel
theorem dX1_closeAll_113 : decode cX1_closeAll 113 = .ok (.iload_n 3, 1) := by decide +kernel
theorem dX1_closeAll_114 : decode cX1_closeAll 114 = .ok (.iload 4, 2) := by decide +kernel
theorem dX1_closeAll_116 : decode cX1_closeAll 116 = .ok (.if_icmp .lt 15, 3) := by decide +kernel
theorem dX1_closeAll_119 : decode cX1_closeAll 119 = .ok (.aload_n 0, 1) := by decide +kernel
theorem dX1_closeAll_120 : decode cX1_closeAll 120 = .ok (.getfield 21, 3) := by decide +kernel
theorem dX1_closeAll_123 : decode cX1_closeAll 123 = .ok (.bipush 41, 2) := by decide +kernel
theorem dX1_closeAll_125 : decode cX1_closeAll 125 = .ok (.invokevirtual 83, 3) := by decide +kernel
theorem dX1_closeAll_128 : decode cX1_closeAll 128 = .ok (.ifCond .ne 5, 3) := by decide +kernel
theorem dX1_closeAll_131 : decode cX1_closeAll 131 = .ok (.iconst 0, 1) := by decide +kernel
theorem dX1_closeAll_132 : decode cX1_closeAll 132 = .ok (.ireturn, 1) := by decide +kernel
theorem dX1_closeAll_133 : decode cX1_closeAll 133 = .ok (.aload_n 0, 1) := by decide +kernel
theorem dX1_closeAll_134 : decode cX1_closeAll 134 = .ok (.getfield 21, 3) := by decide +kernel
theorem dX1_closeAll_137 : decode cX1_closeAll 137 = .ok (.invokevirtual 64, 3) := by decide +kernel
theorem dX1_closeAll_140 : decode cX1_closeAll 140 = .ok (.aload_n 0, 1) := by decide +kernel
theorem dX1_closeAll_141 : decode cX1_closeAll 141 = .ok (.iload_n 2, 1) := by decide +kernel
theorem dX1_closeAll_142 : decode cX1_closeAll 142 = .ok (.invokevirtual 90, 3) := by decide +kernel
theorem dX1_closeAll_145 : decode cX1_closeAll 145 = .ok (.iinc 1 1, 3) := by decide +kernel
theorem dX1_closeAll_148 : decode cX1_closeAll 148 = .ok (.goto (-146), 3) := by decide +kernel
theorem dX1_closeAll_151 : decode cX1_closeAll 151 = .ok (.iconst 1, 1) := by decide +kernel
theorem dX1_closeAll_152 : decode cX1_closeAll 152 = .ok (.ireturn, 1) := by decide +kernel
theorem dX1_closeLast_0 : decode cX1_closeLast 0 = .ok (.aload_n 0, 1) := by decide +kernel
theorem dX1_closeLast_1 : decode cX1_closeLast 1 = .ok (.dup, 1) := by decide +kernel
theorem dX1_closeLast_2 : decode cX1_closeLast 2 = .ok (.getfield 37, 3) := by decide +kernel
theorem dX1_closeLast_5 : decode cX1_closeLast 5 = .ok (.iconst 1, 1) := by decide +kernel
theorem dX1_closeLast_6 : decode cX1_closeLast 6 = .ok (.isub, 1) := by decide +kernel
theorem dX1_closeLast_7 : decode cX1_closeLast 7 = .ok (.putfield 37, 3) := by decide +kernel
theorem dX1_closeLast_10 : decode cX1_closeLast 10 = .ok (.aload_n 0, 1) := by decide +kernel
theorem dX1_closeLast_11 : decode cX1_closeLast 11 = .ok (.getfield 37, 3) := by decide +kernel
theorem dX1_closeLast_14 : decode cX1_closeLast 14 = .ok (.ifCond .lt 25, 3) := by decide +kernel
theorem dX1_closeLast_17 : decode cX1_closeLast 17 = .ok (.aload_n 0, 1) := by decide +kernel
theorem dX1_closeLast_18 : decode cX1_closeLast 18 = .ok (.getfield 37, 3) := by decide +kernel
theorem dX1_closeLast_21 : decode cX1_closeLast 21 = .ok (.sipush 400, 3) := by decide +kernel
theorem dX1_closeLast_24 : decode cX1_closeLast 24 = .ok (.if_icmp .ge 15, 3) := by decide +kernel
theorem dX1_closeLast_27 : decode cX1_closeLast 27 = .ok (.aload_n 0, 1) := by decide +kernel
theorem dX1_closeLast_28 : decode cX1_closeLast 28 = .ok (.getfield 18, 3) := by decide +kernel
theorem dX1_closeLast_31 : decode cX1_closeLast 31 = .ok (.aload_n 0, 1) := by decide +kernel
theorem dX1_closeLast_32 : decode cX1_closeLast 32 = .ok (.getfield 37, 3) := by decide +kernel
theorem dX1_closeLast_35 : decode cX1_closeLast 35 = .ok (.iaload, 1) := by decide +kernel
theorem dX1_closeLast_36 : decode cX1_closeLast 36 = .ok (.goto 4, 3) := by decide +kernel
theorem dX1_closeLast_39 : decode cX1_closeLast 39 = .ok (.iconst 0, 1) := by decide +kernel
theorem dX1_closeLast_40 : decode cX1_closeLast 40 = .ok (.istore_n 2, 1) := by decide +kernel
theorem dX1_closeLast_41 : decode cX1_closeLast 41 = .ok (.aload_n 0, 1) := by decide +kernel
theorem dX1_closeLast_42 : decode cX1_closeLast 42 = .ok (.getfield 29, 3) := by decide +kernel
theorem dX1_closeLast_45 : decode cX1_closeLast 45 = .ok (.iload_n 1, 1) := by decide +kernel
theorem dX1_closeLast_46 : decode cX1_closeLast 46 = .ok (.invokevirtual 93, 3) := by decide +kernel
theorem dX1_closeLast_49 : decode cX1_closeLast 49 = .ok (.iload_n 2, 1) := by decide +kernel
theorem dX1_closeLast_50 : decode cX1_closeLast 50 = .ok (.istore_n 3, 1) := by decide +kernel
theorem dX1_closeLast_51 : decode cX1_closeLast 51 = .ok (.iload_n 3, 1) := by decide +kernel
theorem dX1_closeLast_52 : decode cX1_closeLast 52 = .ok (.aload_n 0, 1) := by decide +kernel
theorem dX1_closeLast_53 : decode cX1_closeLast 53 = .ok (.getfield 33, 3) := by decide +kernel
theorem dX1_closeLast_56 : decode cX1_closeLast 56 = .ok (.if_icmp .ge 33, 3) := by decide +kernel
theorem dX1_closeLast_59 : decode cX1_closeLast 59 = .ok (.iload_n 3, 1) := by decide +kernel
theorem dX1_closeLast_60 : decode cX1_closeLast 60 = .ok (.ifCond .lt 29, 3) := by decide +kernel
theorem dX1_closeLast_63 : decode cX1_closeLast 63 = .ok (.iload_n 3, 1) := by decide +kernel
theorem dX1_closeLast_64 : decode cX1_closeLast 64 = .ok (.sipush 400, 3) := by decide +kernel
theorem dX1_closeLast_67 : decode cX1_closeLast 67 = .ok (.if_icmp .ge 22, 3) := by decide +kernel
theorem dX1_closeLast_70 : decode cX1_closeLast 70 = .ok (.aload_n 0, 1) := by decide +kernel
theorem dX1_closeLast_71 : decode cX1_closeLast 71 = .ok (.getfield 29, 3) := by decide +kernel
theorem dX1_closeLast_74 : decode cX1_closeLast 74 = .ok (.aload_n 0, 1) := by decide +kernel
theorem dX1_closeLast_75 : decode cX1_closeLast 75 = .ok (.getfield 9, 3) := by decide +kernel
theorem dX1_closeLast_78 : decode cX1_closeLast 78 = .ok (.iload_n 3, 1) := by decide +kernel
theorem dX1_closeLast_79 : decode cX1_closeLast 79 = .ok (.iaload, 1) := by decide +kernel
theorem dX1_closeLast_80 : decode cX1_closeLast 80 = .ok (.invokevirtual 96, 3) := by decide +kernel
theorem dX1_closeLast_83 : decode cX1_closeLast 83 = .ok (.iinc 3 1, 3) := by decide +kernel
theorem dX1_closeLast_86 : decode cX1_closeLast 86 = .ok (.goto (-35), 3) := by decide +kernel
theorem dX1_closeLast_89 : decode cX1_closeLast 89 = .ok (.aload_n 0, 1) := by decide +kernel
theorem dX1_closeLast_90 : decode cX1_closeLast 90 = .ok (.iload_n 2, 1) := by decide +kernel
theorem dX1_closeLast_91 : decode cX1_closeLast 91 = .ok (.putfield 33, 3) := by decide +kernel
theorem dX1_closeLast_94 : decode cX1_closeLast 94 = .ok (.aload_n 0, 1) := by decide +kernel
theorem dX1_closeLast_95 : decode cX1_closeLast 95 = .ok (.aload_n 0, 1) := by decide +kernel
theorem dX1_closeLast_96 : decode cX1_closeLast 96 = .ok (.getfield 29, 3) := by decide +kernel
theorem dX1_closeLast_99 : decode cX1_closeLast 99 = .ok (.invokevirtual 99, 3) := by decide +kernel
theorem dX1_closeLast_102 : decode cX1_closeLast 102 = .ok (.invokevirtual 72, 3) := by decide +kernel
theorem dX1_closeLast_105 : decode cX1_closeLast 105 = .ok (.return_, 1) := by decide +kernel
theorem dX1_addValue_0 : decode cX1_addValue 0 = .ok (.aload_n 0, 1) := by decide +kernel
theorem dX1_addValue_1 : decode cX1_addValue 1 = .ok (.getfield 33, 3) := by decide +kernel
theorem dX1_addValue_4 : decode cX1_addValue 4 = .ok (.ifCond .lt 33, 3) := by decide +kernel
theorem dX1_addValue_7 : decode cX1_addValue 7 = .ok (.aload_n 0, 1) := by decide +kernel
theorem dX1_addValue_8 : decode cX1_addValue 8 = .ok (.getfield 33, 3) := by decide +kernel
theorem dX1_addValue_11 : decode cX1_addValue 11 = .ok (.sipush 400, 3) := by decide +kernel
theorem dX1_addValue_14 : decode cX1_addValue 14 = .ok (.if_icmp .ge 23, 3) := by decide +kernel
theorem dX1_addValue_17 : decode cX1_addValue 17 = .ok (.aload_n 0, 1) := by decide +kernel
theorem dX1_addValue_18 : decode cX1_addValue 18 = .ok (.getfield 9, 3) := by decide +kernel
theorem dX1_addValue_21 : decode cX1_addValue 21 = .ok (.aload_n 0, 1) := by decide +kernel
theorem dX1_addValue_22 : decode cX1_addValue 22 = .ok (.getfield 33, 3) := by decide +kernel
theorem dX1_addValue_25 : decode cX1_addValue 25 = .ok (.iload_n 1, 1) := by decide +kernel
theorem dX1_addValue_26 : decode cX1_addValue 26 = .ok (.iastore, 1) := by decide +kernel
theorem dX1_addValue_27 : decode cX1_addValue 27 = .ok (.aload_n 0, 1) := by decide +kernel
theorem dX1_addValue_28 : decode cX1_addValue 28 = .ok (.dup, 1) := by decide +kernel
theorem dX1_addValue_29 : decode cX1_addValue 29 = .ok (.getfield 33, 3) := by decide +kernel
theorem dX1_addValue_32 : decode cX1_addValue 32 = .ok (.iconst 1, 1) := by decide +kernel
theorem dX1_addValue_33 : decode cX1_addValue 33 = .ok (.iadd, 1) := by decide +kernel
theorem dX1_addValue_34 : decode cX1_addValue 34 = .ok (.putfield 33, 3) := by decide +kernel
theorem dX1_addValue_37 : decode cX1_addValue 37 = .ok (.return_, 1) := by decide +kernel

theorem dX0_init_0 : decode cX0_init 0 = .ok (.aload_n 0, 1) := by decide +kernel
theorem dX0_init_1 : decode cX0_init 1 = .ok (.invokespecial 5, 3) := by decide +kernel
theorem dX0_init_4 : decode cX0_init 4 = .ok (.aload_n 0, 1) := by decide +kernel
theorem dX0_init_5 : decode cX0_init 5 = .ok (.sipush 256, 3) := by decide +kernel
theorem dX0_init_8 : decode cX0_init 8 = .ok (.newarray .int, 2) := by decide +kernel
theorem dX0_init_10 : decode cX0_init 10 = .ok (.putfield 13, 3) := by decide +kernel
theorem dX0_init_13 : decode cX0_init 13 = .ok (.aload_n 0, 1) := by decide +kernel
theorem dX0_init_14 : decode cX0_init 14 = .ok (.sipush 256, 3) := by decide +kernel
theorem dX0_init_17 : decode cX0_init 17 = .ok (.newarray .int, 2) := by decide +kernel
theorem dX0_init_19 : decode cX0_init 19 = .ok (.putfield 17, 3) := by decide +kernel
theorem dX0_init_22 : decode cX0_init 22 = .ok (.aload_n 0, 1) := by decide +kernel
theorem dX0_init_23 : decode cX0_init 23 = .ok (.sipush 256, 3) := by decide +kernel
theorem dX0_init_26 : decode cX0_init 26 = .ok (.newarray .int, 2) := by decide +kernel
theorem dX0_init_28 : decode cX0_init 28 = .ok (.putfield 20, 3) := by decide +kernel
theorem dX0_init_31 : decode cX0_init 31 = .ok (.aload_n 0, 1) := by decide +kernel
theorem dX0_init_32 : decode cX0_init 32 = .ok (.sipush 256, 3) := by decide +kernel
theorem dX0_init_35 : decode cX0_init 35 = .ok (.newarray .int, 2) := by decide +kernel
theorem dX0_init_37 : decode cX0_init 37 = .ok (.putfield 23, 3) := by decide +kernel
theorem dX0_init_40 : decode cX0_init 40 = .ok (.aload_n 0, 1) := by decide +kernel
theorem dX0_init_41 : decode cX0_init 41 = .ok (.iconst 5, 1) := by decide +kernel
theorem dX0_init_42 : decode cX0_init 42 = .ok (.newarray .int, 2) := by decide +kernel
theorem dX0_init_44 : decode cX0_init 44 = .ok (.putfield 26, 3) := by decide +kernel
theorem dX0_init_47 : decode cX0_init 47 = .ok (.aload_n 0, 1) := by decide +kernel
theorem dX0_init_48 : decode cX0_init 48 = .ok (.bipush 64, 2) := by decide +kernel
theorem dX0_init_50 : decode cX0_init 50 = .ok (.newarray .int, 2) := by decide +kernel
theorem dX0_init_52 : decode cX0_init 52 = .ok (.putfield 29, 3) := by decide +kernel
theorem dX0_init_55 : decode cX0_init 55 = .ok (.aload_n 0, 1) := by decide +kernel
theorem dX0_init_56 : decode cX0_init 56 = .ok (.bipush 64, 2) := by decide +kernel
theorem dX0_init_58 : decode cX0_init 58 = .ok (.newarray .int, 2) := by decide +kernel
theorem dX0_init_60 : decode cX0_init 60 = .ok (.putfield 32, 3) := by decide +kernel
theorem dX0_init_63 : decode cX0_init 63 = .ok (.aload_n 0, 1) := by decide +kernel
theorem dX0_init_64 : decode cX0_init 64 = .ok (.bipush 64, 2) := by decide +kernel
theorem dX0_init_66 : decode cX0_init 66 = .ok (.newarray .int, 2) := by decide +kernel
theorem dX0_init_68 : decode cX0_init 68 = .ok (.putfield 35, 3) := by decide +kernel
theorem dX0_init_71 : decode cX0_init 71 = .ok (.aload_n 0, 1) := by decide +kernel
theorem dX0_init_72 : decode cX0_init 72 = .ok (.bipush 64, 2) := by decide +kernel
theorem dX0_init_74 : decode cX0_init 74 = .ok (.newarray .int, 2) := by decide +kernel
theorem dX0_init_76 : decode cX0_init 76 = .ok (.putfield 38, 3) := by decide +kernel
theorem dX0_init_79 : decode cX0_init 79 = .ok (.aload_n 0, 1) := by decide +kernel
theorem dX0_init_80 : decode cX0_init 80 = .ok (.bipush 64, 2) := by decide +kernel
theorem dX0_init_82 : decode cX0_init 82 = .ok (.newarray .int, 2) := by decide +kernel
theorem dX0_init_84 : decode cX0_init 84 = .ok (.putfield 41, 3) := by decide +kernel
theorem dX0_init_87 : decode cX0_init 87 = .ok (.aload_n 0, 1) := by decide +kernel
theorem dX0_init_88 : decode cX0_init 88 = .ok (.bipush 64, 2) := by decide +kernel
theorem dX0_init_90 : decode cX0_init 90 = .ok (.newarray .int, 2) := by decide +kernel
theorem dX0_init_92 : decode cX0_init 92 = .ok (.putfield 44, 3) := by decide +kernel
theorem dX0_init_95 : decode cX0_init 95 = .ok (.aload_n 0, 1) := by decide +kernel
theorem dX0_init_96 : decode cX0_init 96 = .ok (.sipush 1505, 3) := by decide +kernel
theorem dX0_init_99 : decode cX0_init 99 = .ok (.newarray .int, 2) := by decide +kernel
theorem dX0_init_101 : decode cX0_init 101 = .ok (.putfield 47, 3) := by decide +kernel
theorem dX0_init_104 : decode cX0_init 104 = .ok (.aload_n 0, 1) := by decide +kernel
theorem dX0_init_105 : decode cX0_init 105 = .ok (.sipush 301, 3) := by decide +kernel
theorem dX0_init_108 : decode cX0_init 108 = .ok (.newarray .int, 2) := by decide +kernel
theorem dX0_init_110 : decode cX0_init 110 = .ok (.putfield 50, 3) := by decide +kernel
theorem dX0_init_113 : decode cX0_init 113 = .ok (.aload_n 0, 1) := by decide +kernel
theorem dX0_init_114 : decode cX0_init 114 = .ok (.aload_n 1, 1) := by decide +kernel
theorem dX0_init_115 : decode cX0_init 115 = .ok (.putfield 53, 3) := by decide +kernel
theorem dX0_init_118 : decode cX0_init 118 = .ok (.return_, 1) := by decide +kernel
theorem dX0_run_0 : decode cX0_run 0 = .ok (.aload_n 0, 1) := by decide +kernel
theorem dX0_run_1 : decode cX0_run 1 = .ok (.iconst 0, 1) := by decide +kernel
theorem dX0_run_2 : decode cX0_run 2 = .ok (.putfield 57, 3) := by decide +kernel
theorem dX0_run_5 : decode cX0_run 5 = .ok (.aload_n 0, 1) := by decide +kernel
theorem dX0_run_6 : decode cX0_run 6 = .ok (.iconst 0, 1) := by decide +kernel
theorem dX0_run_7 : decode cX0_run 7 = .ok (.putfield 61, 3) := by decide +kernel
theorem dX0_run_10 : decode cX0_run 10 = .ok (.aload_n 0, 1) := by decide +kernel
theorem dX0_run_11 : decode cX0_run 11 = .ok (.iconst 0, 1) := by decide +kernel
theorem dX0_run_12 : decode cX0_run 12 = .ok (.putfield 64, 3) := by decide +kernel
theorem dX0_run_15 : decode cX0_run 15 = .ok (.aload_n 0, 1) := by decide +kernel
theorem dX0_run_16 : decode cX0_run 16 = .ok (.iconst 0, 1) := by decide +kernel
theorem dX0_run_17 : decode cX0_run 17 = .ok (.putfield 67, 3) := by decide +kernel
theorem dX0_run_20 : decode cX0_run 20 = .ok (.aload_n 0, 1) := by decide +kernel
theorem dX0_run_21 : decode cX0_run 21 = .ok (.iload_n 1, 1) := by decide +kernel
theorem dX0_run_22 : decode cX0_run 22 = .ok (.putfield 70, 3) := by decide +kernel
theorem dX0_run_25 : decode cX0_run 25 = .ok (.aload_n 0, 1) := by decide +kernel
theorem dX0_run_26 : decode cX0_run 26 = .ok (.iload_n 2, 1) := by decide +kernel
theorem dX0_run_27 : decode cX0_run 27 = .ok (.putfield 73, 3) := by decide +kernel
theorem dX0_run_30 : decode cX0_run 30 = .ok (.aload_n 0, 1) := by decide +kernel
theorem dX0_run_31 : decode cX0_run 31 = .ok (.iload_n 1, 1) := by decide +kernel
theorem dX0_run_32 : decode cX0_run 32 = .ok (.iload_n 2, 1) := by decide +kernel
theorem dX0_run_33 : decode cX0_run 33 = .ok (.invokevirtual 76, 3) := by decide +kernel
theorem dX0_run_36 : decode cX0_run 36 = .ok (.ifCond .ne 8, 3) := by decide +kernel
theorem dX0_run_39 : decode cX0_run 39 = .ok (.bipush (-2), 2) := by decide +kernel
theorem dX0_run_41 : decode cX0_run 41 = .ok (.goto 12, 3) := by decide +kernel
theorem dX0_run_44 : decode cX0_run 44 = .ok (.aload_n 0, 1) := by decide +kernel
theorem dX0_run_45 : decode cX0_run 45 = .ok (.iload_n 1, 1) := by decide +kernel
theorem dX0_run_46 : decode cX0_run 46 = .ok (.bipush 63, 2) := by decide +kernel
theorem dX0_run_48 : decode cX0_run 48 = .ok (.iload_n 2, 1) := by decide +kernel
theorem dX0_run_49 : decode cX0_run 49 = .ok (.iconst (-1), 1) := by decide +kernel
theorem dX0_run_50 : decode cX0_run 50 = .ok (.invokevirtual 80, 3) := by decide +kernel
theorem dX0_run_53 : decode cX0_run 53 = .ok (.istore_n 3, 1) := by decide +kernel
theorem dX0_run_54 : decode cX0_run 54 = .ok (.iconst 0, 1) := by decide +kernel
theorem dX0_run_55 : decode cX0_run 55 = .ok (.istore 4, 2) := by decide +kernel
theorem dX0_run_57 : decode cX0_run 57 = .ok (.iload 4, 2) := by decide +kernel
theorem dX0_run_59 : decode cX0_run 59 = .ok (.ldc 84, 2) := by decide +kernel
theorem dX0_run_61 : decode cX0_run 61 = .ok (.if_icmp .ge 126, 3) := by decide +kernel
theorem dX0_run_64 : decode cX0_run 64 = .ok (.aload_n 0, 1) := by decide +kernel
theorem dX0_run_65 : decode cX0_run 65 = .ok (.getfield 57, 3) := by decide +kernel
theorem dX0_run_68 : decode cX0_run 68 = .ok (.sipush 300, 3) := by decide +kernel
theorem dX0_run_71 : decode cX0_run 71 = .ok (.if_icmp .gt 116, 3) := by decide +kernel
theorem dX0_run_74 : decode cX0_run 74 = .ok (.iload_n 3, 1) := by decide +kernel
theorem dX0_run_75 : decode cX0_run 75 = .ok (.ifCond .lt 44, 3) := by decide +kernel
theorem dX0_run_78 : decode cX0_run 78 = .ok (.iload_n 3, 1) := by decide +kernel
theorem dX0_run_79 : decode cX0_run 79 = .ok (.sipush 256, 3) := by decide +kernel
theorem dX0_run_82 : decode cX0_run 82 = .ok (.if_icmp .ge 37, 3) := by decide +kernel
theorem dX0_run_85 : decode cX0_run 85 = .ok (.aload_n 0, 1) := by decide +kernel
theorem dX0_run_86 : decode cX0_run 86 = .ok (.getfield 53, 3) := by decide +kernel
theorem dX0_run_89 : decode cX0_run 89 = .ok (.aload_n 0, 1) := by decide +kernel
theorem dX0_run_90 : decode cX0_run 90 = .ok (.getfield 13, 3) := by decide +kernel
theorem dX0_run_93 : decode cX0_run 93 = .ok (.iload_n 3, 1) := by decide +kernel
theorem dX0_run_94 : decode cX0_run 94 = .ok (.iaload, 1) := by decide +kernel
theorem dX0_run_95 : decode cX0_run 95 = .ok (.invokevirtual 85, 3) := by decide +kernel
theorem dX0_run_98 : decode cX0_run 98 = .ok (.iconst 2, 1) := by decide +kernel
theorem dX0_run_99 : decode cX0_run 99 = .ok (.if_icmp .ne 11, 3) := by decide +kernel
theorem dX0_run_102 : decode cX0_run 102 = .ok (.aload_n 0, 1) := by decide +kernel
theorem dX0_run_103 : decode cX0_run 103 = .ok (.iload_n 3, 1) := by decide +kernel
theorem dX0_run_104 : decode cX0_run 104 = .ok (.invokevirtual 89, 3) := by decide +kernel
theorem dX0_run_107 : decode cX0_run 107 = .ok (.goto 8, 3) := by decide +kernel
theorem dX0_run_110 : decode cX0_run 110 = .ok (.aload_n 0, 1) := by decide +kernel
theorem dX0_run_111 : decode cX0_run 111 = .ok (.iload_n 3, 1) := by decide +kernel
theorem dX0_run_112 : decode cX0_run 112 = .ok (.invokevirtual 92, 3) := by decide +kernel
theorem dX0_run_115 : decode cX0_run 115 = .ok (.istore_n 3, 1) := by decide +kernel
theorem dX0_run_116 : decode cX0_run 116 = .ok (.goto 65, 3) := by decide +kernel
theorem dX0_run_119 : decode cX0_run 119 = .ok (.iload_n 3, 1) := by decide +kernel
theorem dX0_run_120 : decode cX0_run 120 = .ok (.iconst (-1), 1) := by decide +kernel
theorem dX0_run_121 : decode cX0_run 121 = .ok (.if_icmp .ne 13, 3) := by decide +kernel
theorem dX0_run_124 : decode cX0_run 124 = .ok (.aload_n 0, 1) := by decide +kernel
theorem dX0_run_125 : decode cX0_run 125 = .ok (.invokevirtual 95, 3) := by decide +kernel
theorem dX0_run_128 : decode cX0_run 128 = .ok (.bipush (-2), 2) := by decide +kernel
theorem dX0_run_130 : decode cX0_run 130 = .ok (.istore_n 3, 1) := by decide +kernel
theorem dX0_run_131 : decode cX0_run 131 = .ok (.goto 50, 3) := by decide +kernel
theorem dX0_run_134 : decode cX0_run 134 = .ok (.aload_n 0, 1) := by decide +kernel
theorem dX0_run_135 : decode cX0_run 135 = .ok (.getfield 64, 3) := by decide +kernel
theorem dX0_run_138 : decode cX0_run 138 = .ok (.ifCond .gt 5, 3) := by decide +kernel
theorem dX0_run_141 : decode cX0_run 141 = .ok (.iconst 1, 1) := by decide +kernel
theorem dX0_run_142 : decode cX0_run 142 = .ok (.ireturn, 1) := by decide +kernel
theorem dX0_run_143 : decode cX0_run 143 = .ok (.aload_n 0, 1) := by decide +kernel
theorem dX0_run_144 : decode cX0_run 144 = .ok (.invokevirtual 98, 3) := by decide +kernel
theorem dX0_run_147 : decode cX0_run 147 = .ok (.ifCond .eq 34, 3) := by decide +kernel
theorem dX0_run_150 : decode cX0_run 150 = .ok (.aload_n 0, 1) := by decide +kernel
theorem dX0_run_151 : decode cX0_run 151 = .ok (.invokevirtual 102, 3) := by decide +kernel
theorem dX0_run_154 : decode cX0_run 154 = .ok (.ifCond .eq 16, 3) := by decide +kernel
theorem dX0_run_157 : decode cX0_run 157 = .ok (.aload_n 0, 1) := by decide +kernel
theorem dX0_run_158 : decode cX0_run 158 = .ok (.aload_n 0, 1) := by decide +kernel
theorem dX0_run_159 : decode cX0_run 159 = .ok (.getfield 64, 3) := by decide +kernel
theorem dX0_run_162 : decode cX0_run 162 = .ok (.iconst 1, 1) := by decide +kernel
theorem dX0_run_163 : decode cX0_run 163 = .ok (.isub, 1) := by decide +kernel
theorem dX0_run_164 : decode cX0_run 164 = .ok (.invokevirtual 105, 3) := by decide +kernel
theorem dX0_run_167 : decode cX0_run 167 = .ok (.goto 13, 3) := by decide +kernel
theorem dX0_run_170 : decode cX0_run 170 = .ok (.aload_n 0, 1) := by decide +kernel
theorem dX0_run_171 : decode cX0_run 171 = .ok (.aload_n 0, 1) := by decide +kernel
theorem dX0_run_172 : decode cX0_run 172 = .ok (.getfield 64, 3) := by decide +kernel
theorem dX0_run_175 : decode cX0_run 175 = .ok (.iconst 1, 1) := by decide +kernel
theorem dX0_run_176 : decode cX0_run 176 = .ok (.isub, 1) := by decide +kernel
theorem dX0_run_177 : decode cX0_run 177 = .ok (.invokevirtual 108, 3) := by decide +kernel
theorem dX0_run_180 : decode cX0_run 180 = .ok (.istore_n 3, 1) := by decide +kernel
theorem dX0_run_181 : decode cX0_run 181 = .ok (.iinc 4 1, 3) := by decide +kernel
theorem dX0_run_184 : decode cX0_run 184 = .ok (.goto (-127), 3) := by decide +kernel
theorem dX0_run_187 : decode cX0_run 187 = .ok (.iconst 0, 1) := by decide +kernel
theorem dX0_run_188 : decode cX0_run 188 = .ok (.ireturn, 1) := by decide +kernel
theorem dX0_baseOf_0 : decode cX0_baseOf 0 = .ok (.iload_n 1, 1) := by decide +kernel
theorem dX0_baseOf_1 : decode cX0_baseOf 1 = .ok (.ifCond .lt 29, 3) := by decide +kernel
theorem dX0_baseOf_4 : decode cX0_baseOf 4 = .ok (.iload_n 1, 1) := by decide +kernel
theorem dX0_baseOf_5 : decode cX0_baseOf 5 = .ok (.aload_n 0, 1) := by decide +kernel
theorem dX0_baseOf_6 : decode cX0_baseOf 6 = .ok (.getfield 57, 3) := by decide +kernel
theorem dX0_baseOf_9 : decode cX0_baseOf 9 = .ok (.if_icmp .ge 21, 3) := by decide +kernel
theorem dX0_baseOf_12 : decode cX0_baseOf 12 = .ok (.iload_n 1, 1) := by decide +kernel
theorem dX0_baseOf_13 : decode cX0_baseOf 13 = .ok (.sipush 300, 3) := by decide +kernel
theorem dX0_baseOf_16 : decode cX0_baseOf 16 = .ok (.if_icmp .gt 14, 3) := by decide +kernel
theorem dX0_baseOf_19 : decode cX0_baseOf 19 = .ok (.aload_n 0, 1) := by decide +kernel
theorem dX0_baseOf_20 : decode cX0_baseOf 20 = .ok (.getfield 50, 3) := by decide +kernel
theorem dX0_baseOf_23 : decode cX0_baseOf 23 = .ok (.iload_n 1, 1) := by decide +kernel
theorem dX0_baseOf_24 : decode cX0_baseOf 24 = .ok (.iaload, 1) := by decide +kernel
theorem dX0_baseOf_25 : decode cX0_baseOf 25 = .ok (.iconst 5, 1) := by decide +kernel
theorem dX0_baseOf_26 : decode cX0_baseOf 26 = .ok (.imul, 1) := by decide +kernel
theorem dX0_baseOf_27 : decode cX0_baseOf 27 = .ok (.goto 4, 3) := by decide +kernel
theorem dX0_baseOf_30 : decode cX0_baseOf 30 = .ok (.iconst 0, 1) := by decide +kernel
theorem dX0_baseOf_31 : decode cX0_baseOf 31 = .ok (.ireturn, 1) := by decide +kernel
theorem dX0_boundTo_0 : decode cX0_boundTo 0 = .ok (.aload_n 0, 1) := by decide +kernel
theorem dX0_boundTo_1 : decode cX0_boundTo 1 = .ok (.iload_n 1, 1) := by decide +kernel
theorem dX0_boundTo_2 : decode cX0_boundTo 2 = .ok (.invokevirtual 111, 3) := by decide +kernel
theorem dX0_boundTo_5 : decode cX0_boundTo 5 = .ok (.iload_n 2, 1) := by decide +kernel
theorem dX0_boundTo_6 : decode cX0_boundTo 6 = .ok (.iadd, 1) := by decide +kernel
theorem dX0_boundTo_7 : decode cX0_boundTo 7 = .ok (.istore_n 3, 1) := by decide +kernel
theorem dX0_boundTo_8 : decode cX0_boundTo 8 = .ok (.iload_n 3, 1) := by decide +kernel
theorem dX0_boundTo_9 : decode cX0_boundTo 9 = .ok (.ifCond .lt 21, 3) := by decide +kernel
theorem dX0_boundTo_12 : decode cX0_boundTo 12 = .ok (.iload_n 3, 1) := by decide +kernel
theorem dX0_boundTo_13 : decode cX0_boundTo 13 = .ok (.aload_n 0, 1) := by decide +kernel
theorem dX0_boundTo_14 : decode cX0_boundTo 14 = .ok (.getfield 47, 3) := by decide +kernel
theorem dX0_boundTo_17 : decode cX0_boundTo 17 = .ok (.arraylength, 1) := by decide +kernel
theorem dX0_boundTo_18 : decode cX0_boundTo 18 = .ok (.if_icmp .ge 12, 3) := by decide +kernel
theorem dX0_boundTo_21 : decode cX0_boundTo 21 = .ok (.aload_n 0, 1) := by decide +kernel
theorem dX0_boundTo_22 : decode cX0_boundTo 22 = .ok (.getfield 47, 3) := by decide +kernel
theorem dX0_boundTo_25 : decode cX0_boundTo 25 = .ok (.iload_n 3, 1) := by decide +kernel
theorem dX0_boundTo_26 : decode cX0_boundTo 26 = .ok (.iaload, 1) := by decide +kernel
theorem dX0_boundTo_27 : decode cX0_boundTo 27 = .ok (.goto 4, 3) := by decide +kernel
theorem dX0_boundTo_30 : decode cX0_boundTo 30 = .ok (.iconst (-1), 1) := by decide +kernel
theorem dX0_boundTo_31 : decode cX0_boundTo 31 = .ok (.ireturn, 1) := by decide +kernel
theorem dX0_addGoal_0 : decode cX0_addGoal 0 = .ok (.aload_n 0, 1) := by decide +kernel
theorem dX0_addGoal_1 : decode cX0_addGoal 1 = .ok (.getfield 61, 3) := by decide +kernel
theorem dX0_addGoal_4 : decode cX0_addGoal 4 = .ok (.ifCond .lt 17, 3) := by decide +kernel
theorem dX0_addGoal_7 : decode cX0_addGoal 7 = .ok (.aload_n 0, 1) := by decide +kernel
theorem dX0_addGoal_8 : decode cX0_addGoal 8 = .ok (.getfield 61, 3) := by decide +kernel
theorem dX0_addGoal_11 : decode cX0_addGoal 11 = .ok (.sipush 256, 3) := by decide +kernel
theorem dX0_addGoal_14 : decode cX0_addGoal 14 = .ok (.if_icmp .ge 7, 3) := by decide +kernel
theorem dX0_addGoal_17 : decode cX0_addGoal 17 = .ok (.iload_n 3, 1) := by decide +kernel
theorem dX0_addGoal_18 : decode cX0_addGoal 18 = .ok (.ifCond .ge 6, 3) := by decide +kernel
theorem dX0_addGoal_21 : decode cX0_addGoal 21 = .ok (.bipush (-2), 2) := by decide +kernel
theorem dX0_addGoal_23 : decode cX0_addGoal 23 = .ok (.ireturn, 1) := by decide +kernel
theorem dX0_addGoal_24 : decode cX0_addGoal 24 = .ok (.aload_n 0, 1) := by decide +kernel
theorem dX0_addGoal_25 : decode cX0_addGoal 25 = .ok (.getfield 13, 3) := by decide +kernel
theorem dX0_addGoal_28 : decode cX0_addGoal 28 = .ok (.aload_n 0, 1) := by decide +kernel
theorem dX0_addGoal_29 : decode cX0_addGoal 29 = .ok (.getfield 61, 3) := by decide +kernel
theorem dX0_addGoal_32 : decode cX0_addGoal 32 = .ok (.iload_n 1, 1) := by decide +kernel
theorem dX0_addGoal_33 : decode cX0_addGoal 33 = .ok (.iastore, 1) := by decide +kernel
theorem dX0_addGoal_34 : decode cX0_addGoal 34 = .ok (.aload_n 0, 1) := by decide +kernel
theorem dX0_addGoal_35 : decode cX0_addGoal 35 = .ok (.getfield 17, 3) := by decide +kernel
theorem dX0_addGoal_38 : decode cX0_addGoal 38 = .ok (.aload_n 0, 1) := by decide +kernel
theorem dX0_addGoal_39 : decode cX0_addGoal 39 = .ok (.getfield 61, 3) := by decide +kernel
theorem dX0_addGoal_42 : decode cX0_addGoal 42 = .ok (.iload_n 2, 1) := by decide +kernel
theorem dX0_addGoal_43 : decode cX0_addGoal 43 = .ok (.iastore, 1) := by decide +kernel
theorem dX0_addGoal_44 : decode cX0_addGoal 44 = .ok (.aload_n 0, 1) := by decide +kernel
theorem dX0_addGoal_45 : decode cX0_addGoal 45 = .ok (.getfield 20, 3) := by decide +kernel
theorem dX0_addGoal_48 : decode cX0_addGoal 48 = .ok (.aload_n 0, 1) := by decide +kernel
theorem dX0_addGoal_49 : decode cX0_addGoal 49 = .ok (.getfield 61, 3) := by decide +kernel
theorem dX0_addGoal_52 : decode cX0_addGoal 52 = .ok (.iload_n 3, 1) := by decide +kernel
theorem dX0_addGoal_53 : decode cX0_addGoal 53 = .ok (.iastore, 1) := by decide +kernel
theorem dX0_addGoal_54 : decode cX0_addGoal 54 = .ok (.aload_n 0, 1) := by decide +kernel
theorem dX0_addGoal_55 : decode cX0_addGoal 55 = .ok (.getfield 23, 3) := by decide +kernel
theorem dX0_addGoal_58 : decode cX0_addGoal 58 = .ok (.aload_n 0, 1) := by decide +kernel
theorem dX0_addGoal_59 : decode cX0_addGoal 59 = .ok (.getfield 61, 3) := by decide +kernel
theorem dX0_addGoal_62 : decode cX0_addGoal 62 = .ok (.iload 4, 2) := by decide +kernel
theorem dX0_addGoal_64 : decode cX0_addGoal 64 = .ok (.iastore, 1) := by decide +kernel
theorem dX0_addGoal_65 : decode cX0_addGoal 65 = .ok (.aload_n 0, 1) := by decide +kernel
theorem dX0_addGoal_66 : decode cX0_addGoal 66 = .ok (.dup, 1) := by decide +kernel
theorem dX0_addGoal_67 : decode cX0_addGoal 67 = .ok (.getfield 61, 3) := by decide +kernel
theorem dX0_addGoal_70 : decode cX0_addGoal 70 = .ok (.iconst 1, 1) := by decide +kernel
theorem dX0_addGoal_71 : decode cX0_addGoal 71 = .ok (.iadd, 1) := by decide +kernel
theorem dX0_addGoal_72 : decode cX0_addGoal 72 = .ok (.putfield 61, 3) := by decide +kernel
theorem dX0_addGoal_75 : decode cX0_addGoal 75 = .ok (.aload_n 0, 1) := by decide +kernel
theorem dX0_addGoal_76 : decode cX0_addGoal 76 = .ok (.getfield 61, 3) := by decide +kernel
theorem dX0_addGoal_79 : decode cX0_addGoal 79 = .ok (.iconst 1, 1) := by decide +kernel
theorem dX0_addGoal_80 : decode cX0_addGoal 80 = .ok (.isub, 1) := by decide +kernel
theorem dX0_addGoal_81 : decode cX0_addGoal 81 = .ok (.ireturn, 1) := by decide +kernel
theorem dX0_bind_0 : decode cX0_bind 0 = .ok (.iload_n 1, 1) := by decide +kernel
