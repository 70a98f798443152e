theorem dX7_init_86 : decode cX7_init 86 = .ok (.bipush 20, 2) := by decide +kernel
theorem dX7_init_88 : decode cX7_init 88 = .ok (.newarray .int, 2) := by decide +kernel
theorem dX7_init_90 : decode cX7_init 90 = .ok (.putfield 45, 3) := by decide +kernel
theorem dX7_init_93 : decode cX7_init 93 = .ok (.aload_n 0, 1) := by decide +kernel
theorem dX7_init_94 : decode cX7_init 94 = .ok (.aload_n 1, 1) := by decide +kernel
theorem dX7_init_95 : decode cX7_init 95 = .ok (.putfield 48, 3) := by decide +kernel
theorem dX7_init_98 : decode cX7_init 98 = .ok (.aload_n 0, 1) := by decide +kernel
theorem dX7_init_99 : decode cX7_init 99 = .ok (.aload_n 2, 1) := by decide +kernel
theorem dX7_init_100 : decode cX7_init 100 = .ok (.putfield 52, 3) := by decide +kernel
theorem dX7_init_103 : decode cX7_init 103 = .ok (.return_, 1) := by decide +kernel
theorem dX7_prepare_0 : decode cX7_prepare 0 = .ok (.aload_n 0, 1) := by decide +kernel
theorem dX7_prepare_1 : decode cX7_prepare 1 = .ok (.iload_n 2, 1) := by decide +kernel
theorem dX7_prepare_2 : decode cX7_prepare 2 = .ok (.putfield 56, 3) := by decide +kernel
theorem dX7_prepare_5 : decode cX7_prepare 5 = .ok (.aload_n 0, 1) := by decide +kernel
theorem dX7_prepare_6 : decode cX7_prepare 6 = .ok (.getfield 48, 3) := by decide +kernel
theorem dX7_prepare_9 : decode cX7_prepare 9 = .ok (.invokevirtual 60, 3) := by decide +kernel
theorem dX7_prepare_12 : decode cX7_prepare 12 = .ok (.iconst 0, 1) := by decide +kernel
theorem dX7_prepare_13 : decode cX7_prepare 13 = .ok (.istore_n 3, 1) := by decide +kernel
theorem dX7_prepare_14 : decode cX7_prepare 14 = .ok (.iload_n 3, 1) := by decide +kernel
theorem dX7_prepare_15 : decode cX7_prepare 15 = .ok (.bipush 8, 2) := by decide +kernel
theorem dX7_prepare_17 : decode cX7_prepare 17 = .ok (.if_icmp .ge 53, 3) := by decide +kernel
theorem dX7_prepare_20 : decode cX7_prepare 20 = .ok (.iload_n 2, 1) := by decide +kernel
theorem dX7_prepare_21 : decode cX7_prepare 21 = .ok (.iload_n 3, 1) := by decide +kernel
theorem dX7_prepare_22 : decode cX7_prepare 22 = .ok (.ishr, 1) := by decide +kernel
theorem dX7_prepare_23 : decode cX7_prepare 23 = .ok (.iconst 1, 1) := by decide +kernel
theorem dX7_prepare_24 : decode cX7_prepare 24 = .ok (.iand, 1) := by decide +kernel
theorem dX7_prepare_25 : decode cX7_prepare 25 = .ok (.ifCond .eq 39, 3) := by decide +kernel
theorem dX7_prepare_28 : decode cX7_prepare 28 = .ok (.aload_n 0, 1) := by decide +kernel
theorem dX7_prepare_29 : decode cX7_prepare 29 = .ok (.getfield 30, 3) := by decide +kernel
theorem dX7_prepare_32 : decode cX7_prepare 32 = .ok (.iload_n 3, 1) := by decide +kernel
theorem dX7_prepare_33 : decode cX7_prepare 33 = .ok (.aload_n 0, 1) := by decide +kernel
theorem dX7_prepare_34 : decode cX7_prepare 34 = .ok (.getfield 48, 3) := by decide +kernel
theorem dX7_prepare_37 : decode cX7_prepare 37 = .ok (.aload_n 1, 1) := by decide +kernel
theorem dX7_prepare_38 : decode cX7_prepare 38 = .ok (.iconst 2, 1) := by decide +kernel
theorem dX7_prepare_39 : decode cX7_prepare 39 = .ok (.iload_n 3, 1) := by decide +kernel
theorem dX7_prepare_40 : decode cX7_prepare 40 = .ok (.imul, 1) := by decide +kernel
theorem dX7_prepare_41 : decode cX7_prepare 41 = .ok (.invokevirtual 65, 3) := by decide +kernel
theorem dX7_prepare_44 : decode cX7_prepare 44 = .ok (.iastore, 1) := by decide +kernel
theorem dX7_prepare_45 : decode cX7_prepare 45 = .ok (.aload_n 0, 1) := by decide +kernel
theorem dX7_prepare_46 : decode cX7_prepare 46 = .ok (.getfield 33, 3) := by decide +kernel
theorem dX7_prepare_49 : decode cX7_prepare 49 = .ok (.iload_n 3, 1) := by decide +kernel
theorem dX7_prepare_50 : decode cX7_prepare 50 = .ok (.aload_n 0, 1) := by decide +kernel
theorem dX7_prepare_51 : decode cX7_prepare 51 = .ok (.getfield 48, 3) := by decide +kernel
theorem dX7_prepare_54 : decode cX7_prepare 54 = .ok (.aload_n 1, 1) := by decide +kernel
theorem dX7_prepare_55 : decode cX7_prepare 55 = .ok (.iconst 2, 1) := by decide +kernel
theorem dX7_prepare_56 : decode cX7_prepare 56 = .ok (.iload_n 3, 1) := by decide +kernel
theorem dX7_prepare_57 : decode cX7_prepare 57 = .ok (.imul, 1) := by decide +kernel
theorem dX7_prepare_58 : decode cX7_prepare 58 = .ok (.iconst 1, 1) := by decide +kernel
theorem dX7_prepare_59 : decode cX7_prepare 59 = .ok (.iadd, 1) := by decide +kernel
theorem dX7_prepare_60 : decode cX7_prepare 60 = .ok (.invokevirtual 65, 3) := by decide +kernel
theorem dX7_prepare_63 : decode cX7_prepare 63 = .ok (.iastore, 1) := by decide +kernel
theorem dX7_prepare_64 : decode cX7_prepare 64 = .ok (.iinc 3 1, 3) := by decide +kernel
theorem dX7_prepare_67 : decode cX7_prepare 67 = .ok (.goto (-53), 3) := by decide +kernel
theorem dX7_prepare_70 : decode cX7_prepare 70 = .ok (.aload_n 0, 1) := by decide +kernel
theorem dX7_prepare_71 : decode cX7_prepare 71 = .ok (.aload_n 0, 1) := by decide +kernel
theorem dX7_prepare_72 : decode cX7_prepare 72 = .ok (.getfield 48, 3) := by decide +kernel
theorem dX7_prepare_75 : decode cX7_prepare 75 = .ok (.getfield 69, 3) := by decide +kernel
theorem dX7_prepare_78 : decode cX7_prepare 78 = .ok (.putfield 72, 3) := by decide +kernel
theorem dX7_prepare_81 : decode cX7_prepare 81 = .ok (.return_, 1) := by decide +kernel
theorem dX7_used_0 : decode cX7_used 0 = .ok (.aload_n 0, 1) := by decide +kernel
theorem dX7_used_1 : decode cX7_used 1 = .ok (.getfield 14, 3) := by decide +kernel
theorem dX7_used_4 : decode cX7_used 4 = .ok (.getfield 75, 3) := by decide +kernel
theorem dX7_used_7 : decode cX7_used 7 = .ok (.ireturn, 1) := by decide +kernel
theorem dX7_slotOf_0 : decode cX7_slotOf 0 = .ok (.iload_n 1, 1) := by decide +kernel
theorem dX7_slotOf_1 : decode cX7_slotOf 1 = .ok (.ifCond .lt 30, 3) := by decide +kernel
theorem dX7_slotOf_4 : decode cX7_slotOf 4 = .ok (.iload_n 1, 1) := by decide +kernel
theorem dX7_slotOf_5 : decode cX7_slotOf 5 = .ok (.aload_n 0, 1) := by decide +kernel
theorem dX7_slotOf_6 : decode cX7_slotOf 6 = .ok (.getfield 14, 3) := by decide +kernel
theorem dX7_slotOf_9 : decode cX7_slotOf 9 = .ok (.getfield 75, 3) := by decide +kernel
theorem dX7_slotOf_12 : decode cX7_slotOf 12 = .ok (.if_icmp .ge 19, 3) := by decide +kernel
theorem dX7_slotOf_15 : decode cX7_slotOf 15 = .ok (.iload_n 1, 1) := by decide +kernel
theorem dX7_slotOf_16 : decode cX7_slotOf 16 = .ok (.sipush 200, 3) := by decide +kernel
theorem dX7_slotOf_19 : decode cX7_slotOf 19 = .ok (.if_icmp .gt 12, 3) := by decide +kernel
theorem dX7_slotOf_22 : decode cX7_slotOf 22 = .ok (.aload_n 0, 1) := by decide +kernel
theorem dX7_slotOf_23 : decode cX7_slotOf 23 = .ok (.getfield 20, 3) := by decide +kernel
theorem dX7_slotOf_26 : decode cX7_slotOf 26 = .ok (.iload_n 1, 1) := by decide +kernel
theorem dX7_slotOf_27 : decode cX7_slotOf 27 = .ok (.iaload, 1) := by decide +kernel
theorem dX7_slotOf_28 : decode cX7_slotOf 28 = .ok (.goto 4, 3) := by decide +kernel
theorem dX7_slotOf_31 : decode cX7_slotOf 31 = .ok (.iconst 0, 1) := by decide +kernel
theorem dX7_slotOf_32 : decode cX7_slotOf 32 = .ok (.ireturn, 1) := by decide +kernel
theorem dX7_placeOf_0 : decode cX7_placeOf 0 = .ok (.aload_n 0, 1) := by decide +kernel
theorem dX7_placeOf_1 : decode cX7_placeOf 1 = .ok (.iload_n 1, 1) := by decide +kernel
theorem dX7_placeOf_2 : decode cX7_placeOf 2 = .ok (.invokevirtual 76, 3) := by decide +kernel
theorem dX7_placeOf_5 : decode cX7_placeOf 5 = .ok (.istore_n 2, 1) := by decide +kernel
theorem dX7_placeOf_6 : decode cX7_placeOf 6 = .ok (.iload_n 2, 1) := by decide +kernel
theorem dX7_placeOf_7 : decode cX7_placeOf 7 = .ok (.ifCond .lt 19, 3) := by decide +kernel
theorem dX7_placeOf_10 : decode cX7_placeOf 10 = .ok (.iload_n 2, 1) := by decide +kernel
theorem dX7_placeOf_11 : decode cX7_placeOf 11 = .ok (.sipush 200, 3) := by decide +kernel
theorem dX7_placeOf_14 : decode cX7_placeOf 14 = .ok (.if_icmp .gt 12, 3) := by decide +kernel
theorem dX7_placeOf_17 : decode cX7_placeOf 17 = .ok (.aload_n 0, 1) := by decide +kernel
theorem dX7_placeOf_18 : decode cX7_placeOf 18 = .ok (.getfield 24, 3) := by decide +kernel
theorem dX7_placeOf_21 : decode cX7_placeOf 21 = .ok (.iload_n 2, 1) := by decide +kernel
theorem dX7_placeOf_22 : decode cX7_placeOf 22 = .ok (.iaload, 1) := by decide +kernel
theorem dX7_placeOf_23 : decode cX7_placeOf 23 = .ok (.goto 4, 3) := by decide +kernel
theorem dX7_placeOf_26 : decode cX7_placeOf 26 = .ok (.iconst 0, 1) := by decide +kernel
theorem dX7_placeOf_27 : decode cX7_placeOf 27 = .ok (.ireturn, 1) := by decide +kernel
theorem dX7_ruleOf_0 : decode cX7_ruleOf 0 = .ok (.aload_n 0, 1) := by decide +kernel
theorem dX7_ruleOf_1 : decode cX7_ruleOf 1 = .ok (.iload_n 1, 1) := by decide +kernel
theorem dX7_ruleOf_2 : decode cX7_ruleOf 2 = .ok (.invokevirtual 76, 3) := by decide +kernel
theorem dX7_ruleOf_5 : decode cX7_ruleOf 5 = .ok (.istore_n 2, 1) := by decide +kernel
theorem dX7_ruleOf_6 : decode cX7_ruleOf 6 = .ok (.iload_n 2, 1) := by decide +kernel
theorem dX7_ruleOf_7 : decode cX7_ruleOf 7 = .ok (.ifCond .lt 19, 3) := by decide +kernel
theorem dX7_ruleOf_10 : decode cX7_ruleOf 10 = .ok (.iload_n 2, 1) := by decide +kernel
theorem dX7_ruleOf_11 : decode cX7_ruleOf 11 = .ok (.sipush 200, 3) := by decide +kernel
theorem dX7_ruleOf_14 : decode cX7_ruleOf 14 = .ok (.if_icmp .gt 12, 3) := by decide +kernel
theorem dX7_ruleOf_17 : decode cX7_ruleOf 17 = .ok (.aload_n 0, 1) := by decide +kernel
theorem dX7_ruleOf_18 : decode cX7_ruleOf 18 = .ok (.getfield 27, 3) := by decide +kernel
theorem dX7_ruleOf_21 : decode cX7_ruleOf 21 = .ok (.iload_n 2, 1) := by decide +kernel
theorem dX7_ruleOf_22 : decode cX7_ruleOf 22 = .ok (.iaload, 1) := by decide +kernel
theorem dX7_ruleOf_23 : decode cX7_ruleOf 23 = .ok (.goto 4, 3) := by decide +kernel
theorem dX7_ruleOf_26 : decode cX7_ruleOf 26 = .ok (.iconst 0, 1) := by decide +kernel
theorem dX7_ruleOf_27 : decode cX7_ruleOf 27 = .ok (.ireturn, 1) := by decide +kernel
theorem dX7_list_0 : decode cX7_list 0 = .ok (.aload_n 0, 1) := by decide +kernel
theorem dX7_list_1 : decode cX7_list 1 = .ok (.getfield 14, 3) := by decide +kernel
theorem dX7_list_4 : decode cX7_list 4 = .ok (.invokevirtual 80, 3) := by decide +kernel
theorem dX7_list_7 : decode cX7_list 7 = .ok (.aload_n 0, 1) := by decide +kernel
theorem dX7_list_8 : decode cX7_list 8 = .ok (.getfield 48, 3) := by decide +kernel
theorem dX7_list_11 : decode cX7_list 11 = .ok (.aload_n 0, 1) := by decide +kernel
theorem dX7_list_12 : decode cX7_list 12 = .ok (.getfield 72, 3) := by decide +kernel
theorem dX7_list_15 : decode cX7_list 15 = .ok (.invokevirtual 81, 3) := by decide +kernel
theorem dX7_list_18 : decode cX7_list 18 = .ok (.aload_n 0, 1) := by decide +kernel
theorem dX7_list_19 : decode cX7_list 19 = .ok (.aload_n 0, 1) := by decide +kernel
theorem dX7_list_20 : decode cX7_list 20 = .ok (.getfield 48, 3) := by decide +kernel
theorem dX7_list_23 : decode cX7_list 23 = .ok (.aload_n 1, 1) := by decide +kernel
theorem dX7_list_24 : decode cX7_list 24 = .ok (.iload_n 2, 1) := by decide +kernel
theorem dX7_list_25 : decode cX7_list 25 = .ok (.invokevirtual 65, 3) := by decide +kernel
theorem dX7_list_28 : decode cX7_list 28 = .ok (.iload_n 3, 1) := by decide +kernel
theorem dX7_list_29 : decode cX7_list 29 = .ok (.invokevirtual 84, 3) := by decide +kernel
theorem dX7_list_32 : decode cX7_list 32 = .ok (.aload_n 0, 1) := by decide +kernel
theorem dX7_list_33 : decode cX7_list 33 = .ok (.getfield 48, 3) := by decide +kernel
theorem dX7_list_36 : decode cX7_list 36 = .ok (.getfield 69, 3) := by decide +kernel
theorem dX7_list_39 : decode cX7_list 39 = .ok (.istore 4, 2) := by decide +kernel
theorem dX7_list_41 : decode cX7_list 41 = .ok (.iconst 0, 1) := by decide +kernel
theorem dX7_list_42 : decode cX7_list 42 = .ok (.istore 5, 2) := by decide +kernel
theorem dX7_list_44 : decode cX7_list 44 = .ok (.iload 5, 2) := by decide +kernel
theorem dX7_list_46 : decode cX7_list 46 = .ok (.aload_n 0, 1) := by decide +kernel
theorem dX7_list_47 : decode cX7_list 47 = .ok (.getfield 88, 3) := by decide +kernel
theorem dX7_list_50 : decode cX7_list 50 = .ok (.if_icmp .ge 117, 3) := by decide +kernel
theorem dX7_list_53 : decode cX7_list 53 = .ok (.iconst 0, 1) := by decide +kernel
theorem dX7_list_54 : decode cX7_list 54 = .ok (.istore 6, 2) := by decide +kernel
theorem dX7_list_56 : decode cX7_list 56 = .ok (.iload 6, 2) := by decide +kernel
theorem dX7_list_58 : decode cX7_list 58 = .ok (.bipush 8, 2) := by decide +kernel
theorem dX7_list_60 : decode cX7_list 60 = .ok (.if_icmp .ge 101, 3) := by decide +kernel
theorem dX7_list_63 : decode cX7_list 63 = .ok (.aload_n 0, 1) := by decide +kernel
theorem dX7_list_64 : decode cX7_list 64 = .ok (.aload_n 0, 1) := by decide +kernel
theorem dX7_list_65 : decode cX7_list 65 = .ok (.getfield 14, 3) := by decide +kernel
theorem dX7_list_68 : decode cX7_list 68 = .ok (.getfield 75, 3) := by decide +kernel
theorem dX7_list_71 : decode cX7_list 71 = .ok (.putfield 91, 3) := by decide +kernel
theorem dX7_list_74 : decode cX7_list 74 = .ok (.aload_n 0, 1) := by decide +kernel
theorem dX7_list_75 : decode cX7_list 75 = .ok (.iload 5, 2) := by decide +kernel
theorem dX7_list_77 : decode cX7_list 77 = .ok (.iload 6, 2) := by decide +kernel
theorem dX7_list_79 : decode cX7_list 79 = .ok (.invokevirtual 94, 3) := by decide +kernel
theorem dX7_list_82 : decode cX7_list 82 = .ok (.istore 7, 2) := by decide +kernel
theorem dX7_list_84 : decode cX7_list 84 = .ok (.iload 7, 2) := by decide +kernel
theorem dX7_list_86 : decode cX7_list 86 = .ok (.ifCond .lt 69, 3) := by decide +kernel
theorem dX7_list_89 : decode cX7_list 89 = .ok (.aload_n 0, 1) := by decide +kernel
theorem dX7_list_90 : decode cX7_list 90 = .ok (.iload 5, 2) := by decide +kernel
theorem dX7_list_92 : decode cX7_list 92 = .ok (.iload 6, 2) := by decide +kernel
theorem dX7_list_94 : decode cX7_list 94 = .ok (.iload 7, 2) := by decide +kernel
theorem dX7_list_96 : decode cX7_list 96 = .ok (.invokevirtual 98, 3) := by decide +kernel
theorem dX7_list_99 : decode cX7_list 99 = .ok (.istore 8, 2) := by decide +kernel
theorem dX7_list_101 : decode cX7_list 101 = .ok (.iload 8, 2) := by decide +kernel
theorem dX7_list_103 : decode cX7_list 103 = .ok (.ifCond .lt 37, 3) := by decide +kernel
theorem dX7_list_106 : decode cX7_list 106 = .ok (.aload_n 0, 1) := by decide +kernel
theorem dX7_list_107 : decode cX7_list 107 = .ok (.getfield 52, 3) := by decide +kernel
theorem dX7_list_110 : decode cX7_list 110 = .ok (.aload_n 0, 1) := by decide +kernel
theorem dX7_list_111 : decode cX7_list 111 = .ok (.getfield 30, 3) := by decide +kernel
theorem dX7_list_114 : decode cX7_list 114 = .ok (.iload 6, 2) := by decide +kernel
theorem dX7_list_116 : decode cX7_list 116 = .ok (.iaload, 1) := by decide +kernel
theorem dX7_list_117 : decode cX7_list 117 = .ok (.iload 8, 2) := by decide +kernel
theorem dX7_list_119 : decode cX7_list 119 = .ok (.invokevirtual 102, 3) := by decide +kernel
theorem dX7_list_122 : decode cX7_list 122 = .ok (.ifCond .eq 16, 3) := by decide +kernel
theorem dX7_list_125 : decode cX7_list 125 = .ok (.aload_n 0, 1) := by decide +kernel
theorem dX7_list_126 : decode cX7_list 126 = .ok (.iload 5, 2) := by decide +kernel
theorem dX7_list_128 : decode cX7_list 128 = .ok (.iload 6, 2) := by decide +kernel
theorem dX7_list_130 : decode cX7_list 130 = .ok (.iload 7, 2) := by decide +kernel
theorem dX7_list_132 : decode cX7_list 132 = .ok (.invokevirtual 108, 3) := by decide +kernel
theorem dX7_list_135 : decode cX7_list 135 = .ok (.ifCond .ne 5, 3) := by decide +kernel
theorem dX7_list_138 : decode cX7_list 138 = .ok (.iconst 0, 1) := by decide +kernel
theorem dX7_list_139 : decode cX7_list 139 = .ok (.ireturn, 1) := by decide +kernel
theorem dX7_list_140 : decode cX7_list 140 = .ok (.aload_n 0, 1) := by decide +kernel
theorem dX7_list_141 : decode cX7_list 141 = .ok (.getfield 48, 3) := by decide +kernel
theorem dX7_list_144 : decode cX7_list 144 = .ok (.iload 4, 2) := by decide +kernel
theorem dX7_list_146 : decode cX7_list 146 = .ok (.invokevirtual 81, 3) := by decide +kernel
theorem dX7_list_149 : decode cX7_list 149 = .ok (.iinc 7 (-1), 3) := by decide +kernel
theorem dX7_list_152 : decode cX7_list 152 = .ok (.goto (-68), 3) := by decide +kernel
theorem dX7_list_155 : decode cX7_list 155 = .ok (.iinc 6 1, 3) := by decide +kernel
theorem dX7_list_158 : decode cX7_list 158 = .ok (.goto (-102), 3) := by decide +kernel
theorem dX7_list_161 : decode cX7_list 161 = .ok (.iinc 5 1, 3) := by decide +kernel
theorem dX7_list_164 : decode cX7_list 164 = .ok (.goto (-120), 3) := by decide +kernel
theorem dX7_list_167 : decode cX7_list 167 = .ok (.iconst 1, 1) := by decide +kernel
theorem dX7_list_168 : decode cX7_list 168 = .ok (.ireturn, 1) := by decide +kernel
theorem dX7_layPlaces_0 : decode cX7_layPlaces 0 = .ok (.aload_n 0, 1) := by decide +kernel
theorem dX7_layPlaces_1 : decode cX7_layPlaces 1 = .ok (.iconst 0, 1) := by decide +kernel
theorem dX7_layPlaces_2 : decode cX7_layPlaces 2 = .ok (.putfield 88, 3) := by decide +kernel
theorem dX7_layPlaces_5 : decode cX7_layPlaces 5 = .ok (.iconst (-1), 1) := by decide +kernel
theorem dX7_layPlaces_6 : decode cX7_layPlaces 6 = .ok (.istore_n 3, 1) := by decide +kernel
theorem dX7_layPlaces_7 : decode cX7_layPlaces 7 = .ok (.iconst 0, 1) := by decide +kernel
theorem dX7_layPlaces_8 : decode cX7_layPlaces 8 = .ok (.istore 4, 2) := by decide +kernel
theorem dX7_layPlaces_10 : decode cX7_layPlaces 10 = .ok (.iload 4, 2) := by decide +kernel
theorem dX7_layPlaces_12 : decode cX7_layPlaces 12 = .ok (.iload_n 2, 1) := by decide +kernel
theorem dX7_layPlaces_13 : decode cX7_layPlaces 13 = .ok (.if_icmp .ge 138, 3) := by decide +kernel
theorem dX7_layPlaces_16 : decode cX7_layPlaces 16 = .ok (.iload 4, 2) := by decide +kernel
theorem dX7_layPlaces_18 : decode cX7_layPlaces 18 = .ok (.bipush 20, 2) := by decide +kernel
theorem dX7_layPlaces_20 : decode cX7_layPlaces 20 = .ok (.if_icmp .ge 131, 3) := by decide +kernel
theorem dX7_layPlaces_23 : decode cX7_layPlaces 23 = .ok (.aload_n 0, 1) := by decide +kernel
theorem dX7_layPlaces_24 : decode cX7_layPlaces 24 = .ok (.iload_n 3, 1) := by decide +kernel
theorem dX7_layPlaces_25 : decode cX7_layPlaces 25 = .ok (.invokevirtual 112, 3) := by decide +kernel
theorem dX7_layPlaces_28 : decode cX7_layPlaces 28 = .ok (.istore_n 3, 1) := by decide +kernel
theorem dX7_layPlaces_29 : decode cX7_layPlaces 29 = .ok (.iload 4, 2) := by decide +kernel
theorem dX7_layPlaces_31 : decode cX7_layPlaces 31 = .ok (.ifCond .le 14, 3) := by decide +kernel
theorem dX7_layPlaces_34 : decode cX7_layPlaces 34 = .ok (.iload_n 3, 1) := by decide +kernel
theorem dX7_layPlaces_35 : decode cX7_layPlaces 35 = .ok (.ifCond .lt 9, 3) := by decide +kernel
theorem dX7_layPlaces_38 : decode cX7_layPlaces 38 = .ok (.iload_n 3, 1) := by decide +kernel
theorem dX7_layPlaces_39 : decode cX7_layPlaces 39 = .ok (.iload 4, 2) := by decide +kernel
theorem dX7_layPlaces_41 : decode cX7_layPlaces 41 = .ok (.if_icmp .lt 4, 3) := by decide +kernel
theorem dX7_layPlaces_44 : decode cX7_layPlaces 44 = .ok (.return_, 1) := by decide +kernel
theorem dX7_layPlaces_45 : decode cX7_layPlaces 45 = .ok (.aload_n 0, 1) := by decide +kernel
theorem dX7_layPlaces_46 : decode cX7_layPlaces 46 = .ok (.getfield 42, 3) := by decide +kernel
theorem dX7_layPlaces_49 : decode cX7_layPlaces 49 = .ok (.iload 4, 2) := by decide +kernel
theorem dX7_layPlaces_51 : decode cX7_layPlaces 51 = .ok (.iload 4, 2) := by decide +kernel
theorem dX7_layPlaces_53 : decode cX7_layPlaces 53 = .ok (.ifCond .le 12, 3) := by decide +kernel
theorem dX7_layPlaces_56 : decode cX7_layPlaces 56 = .ok (.aload_n 0, 1) := by decide +kernel
theorem dX7_layPlaces_57 : decode cX7_layPlaces 57 = .ok (.getfield 45, 3) := by decide +kernel
theorem dX7_layPlaces_60 : decode cX7_layPlaces 60 = .ok (.iload_n 3, 1) := by decide +kernel
theorem dX7_layPlaces_61 : decode cX7_layPlaces 61 = .ok (.iaload, 1) := by decide +kernel
theorem dX7_layPlaces_62 : decode cX7_layPlaces 62 = .ok (.goto 4, 3) := by decide +kernel
theorem dX7_layPlaces_65 : decode cX7_layPlaces 65 = .ok (.iconst 0, 1) := by decide +kernel
theorem dX7_layPlaces_66 : decode cX7_layPlaces 66 = .ok (.iastore, 1) := by decide +kernel
theorem dX7_layPlaces_67 : decode cX7_layPlaces 67 = .ok (.aload_n 0, 1) := by decide +kernel
theorem dX7_layPlaces_68 : decode cX7_layPlaces 68 = .ok (.getfield 36, 3) := by decide +kernel
theorem dX7_layPlaces_71 : decode cX7_layPlaces 71 = .ok (.iload 4, 2) := by decide +kernel
theorem dX7_layPlaces_73 : decode cX7_layPlaces 73 = .ok (.iload 4, 2) := by decide +kernel
theorem dX7_layPlaces_75 : decode cX7_layPlaces 75 = .ok (.ifCond .le 26, 3) := by decide +kernel
theorem dX7_layPlaces_78 : decode cX7_layPlaces 78 = .ok (.aload_n 0, 1) := by decide +kernel
theorem dX7_layPlaces_79 : decode cX7_layPlaces 79 = .ok (.getfield 48, 3) := by decide +kernel
theorem dX7_layPlaces_82 : decode cX7_layPlaces 82 = .ok (.aload_n 0, 1) := by decide +kernel
theorem dX7_layPlaces_83 : decode cX7_layPlaces 83 = .ok (.getfield 36, 3) := by decide +kernel
theorem dX7_layPlaces_86 : decode cX7_layPlaces 86 = .ok (.iload_n 3, 1) := by decide +kernel
theorem dX7_layPlaces_87 : decode cX7_layPlaces 87 = .ok (.iaload, 1) := by decide +kernel
theorem dX7_layPlaces_88 : decode cX7_layPlaces 88 = .ok (.aload_n 0, 1) := by decide +kernel
theorem dX7_layPlaces_89 : decode cX7_layPlaces 89 = .ok (.getfield 42, 3) := by decide +kernel
theorem dX7_layPlaces_92 : decode cX7_layPlaces 92 = .ok (.iload 4, 2) := by decide +kernel
theorem dX7_layPlaces_94 : decode cX7_layPlaces 94 = .ok (.iaload, 1) := by decide +kernel
theorem dX7_layPlaces_95 : decode cX7_layPlaces 95 = .ok (.invokevirtual 115, 3) := by decide +kernel
theorem dX7_layPlaces_98 : decode cX7_layPlaces 98 = .ok (.goto 4, 3) := by decide +kernel
theorem dX7_layPlaces_101 : decode cX7_layPlaces 101 = .ok (.iload_n 1, 1) := by decide +kernel
theorem dX7_layPlaces_102 : decode cX7_layPlaces 102 = .ok (.iastore, 1) := by decide +kernel
theorem dX7_layPlaces_103 : decode cX7_layPlaces 103 = .ok (.aload_n 0, 1) := by decide +kernel
theorem dX7_layPlaces_104 : decode cX7_layPlaces 104 = .ok (.getfield 39, 3) := by decide +kernel
theorem dX7_layPlaces_107 : decode cX7_layPlaces 107 = .ok (.iload 4, 2) := by decide +kernel
theorem dX7_layPlaces_109 : decode cX7_layPlaces 109 = .ok (.iload_n 3, 1) := by decide +kernel
theorem dX7_layPlaces_110 : decode cX7_layPlaces 110 = .ok (.iastore, 1) := by decide +kernel
theorem dX7_layPlaces_111 : decode cX7_layPlaces 111 = .ok (.aload_n 0, 1) := by decide +kernel
theorem dX7_layPlaces_112 : decode cX7_layPlaces 112 = .ok (.getfield 45, 3) := by decide +kernel
theorem dX7_layPlaces_115 : decode cX7_layPlaces 115 = .ok (.iload 4, 2) := by decide +kernel
theorem dX7_layPlaces_117 : decode cX7_layPlaces 117 = .ok (.iconst 0, 1) := by decide +kernel
theorem dX7_layPlaces_118 : decode cX7_layPlaces 118 = .ok (.iastore, 1) := by decide +kernel
theorem dX7_layPlaces_119 : decode cX7_layPlaces 119 = .ok (.iload 4, 2) := by decide +kernel
theorem dX7_layPlaces_121 : decode cX7_layPlaces 121 = .ok (.ifCond .le 13, 3) := by decide +kernel
theorem dX7_layPlaces_124 : decode cX7_layPlaces 124 = .ok (.aload_n 0, 1) := by decide +kernel
theorem dX7_layPlaces_125 : decode cX7_layPlaces 125 = .ok (.getfield 45, 3) := by decide +kernel
theorem dX7_layPlaces_128 : decode cX7_layPlaces 128 = .ok (.iload_n 3, 1) := by decide +kernel
theorem dX7_layPlaces_129 : decode cX7_layPlaces 129 = .ok (.dup2, 1) := by decide +kernel
theorem dX7_layPlaces_130 : decode cX7_layPlaces 130 = .ok (.iaload, 1) := by decide +kernel
theorem dX7_layPlaces_131 : decode cX7_layPlaces 131 = .ok (.iconst 1, 1) := by decide +kernel
theorem dX7_layPlaces_132 : decode cX7_layPlaces 132 = .ok (.iadd, 1) := by decide +kernel
theorem dX7_layPlaces_133 : decode cX7_layPlaces 133 = .ok (.iastore, 1) := by decide +kernel
theorem dX7_layPlaces_134 : decode cX7_layPlaces 134 = .ok (.iload 4, 2) := by decide +kernel
theorem dX7_layPlaces_136 : decode cX7_layPlaces 136 = .ok (.istore_n 3, 1) := by decide +kernel
theorem dX7_layPlaces_137 : decode cX7_layPlaces 137 = .ok (.aload_n 0, 1) := by decide +kernel
theorem dX7_layPlaces_138 : decode cX7_layPlaces 138 = .ok (.iload 4, 2) := by decide +kernel
theorem dX7_layPlaces_140 : decode cX7_layPlaces 140 = .ok (.iconst 1, 1) := by decide +kernel
theorem dX7_layPlaces_141 : decode cX7_layPlaces 141 = .ok (.iadd, 1) := by decide +kernel
theorem dX7_layPlaces_142 : decode cX7_layPlaces 142 = .ok (.putfield 88, 3) := by decide +kernel
theorem dX7_layPlaces_145 : decode cX7_layPlaces 145 = .ok (.iinc 4 1, 3) := by decide +kernel
theorem dX7_layPlaces_148 : decode cX7_layPlaces 148 = .ok (.goto (-138), 3) := by decide +kernel
theorem dX7_layPlaces_151 : decode cX7_layPlaces 151 = .ok (.return_, 1) := by decide +kernel
theorem dX7_awaiting_0 : decode cX7_awaiting 0 = .ok (.iload_n 1, 1) := by decide +kernel
theorem dX7_awaiting_1 : decode cX7_awaiting 1 = .ok (.istore_n 2, 1) := by decide +kernel
theorem dX7_awaiting_2 : decode cX7_awaiting 2 = .ok (.iconst 0, 1) := by decide +kernel
theorem dX7_awaiting_3 : decode cX7_awaiting 3 = .ok (.istore_n 3, 1) := by decide +kernel
theorem dX7_awaiting_4 : decode cX7_awaiting 4 = .ok (.iload_n 3, 1) := by decide +kernel
theorem dX7_awaiting_5 : decode cX7_awaiting 5 = .ok (.bipush 20, 2) := by decide +kernel
theorem dX7_awaiting_7 : decode cX7_awaiting 7 = .ok (.if_icmp .ge 53, 3) := by decide +kernel
theorem dX7_awaiting_10 : decode cX7_awaiting 10 = .ok (.iload_n 2, 1) := by decide +kernel
theorem dX7_awaiting_11 : decode cX7_awaiting 11 = .ok (.ifCond .lt 49, 3) := by decide +kernel
theorem dX7_awaiting_14 : decode cX7_awaiting 14 = .ok (.iload_n 2, 1) := by decide +kernel
theorem dX7_awaiting_15 : decode cX7_awaiting 15 = .ok (.bipush 20, 2) := by decide +kernel
theorem dX7_awaiting_17 : decode cX7_awaiting 17 = .ok (.if_icmp .ge 43, 3) := by decide +kernel
theorem dX7_awaiting_20 : decode cX7_awaiting 20 = .ok (.aload_n 0, 1) := by decide +kernel
theorem dX7_awaiting_21 : decode cX7_awaiting 21 = .ok (.getfield 45, 3) := by decide +kernel
theorem dX7_awaiting_24 : decode cX7_awaiting 24 = .ok (.iload_n 2, 1) := by decide +kernel
theorem dX7_awaiting_25 : decode cX7_awaiting 25 = .ok (.iaload, 1) := by decide +kernel
theorem dX7_awaiting_26 : decode cX7_awaiting 26 = .ok (.aload_n 0, 1) := by decide +kernel
theorem dX7_awaiting_27 : decode cX7_awaiting 27 = .ok (.getfield 48, 3) := by decide +kernel
theorem dX7_awaiting_30 : decode cX7_awaiting 30 = .ok (.aload_n 0, 1) := by decide +kernel
theorem dX7_awaiting_31 : decode cX7_awaiting 31 = .ok (.getfield 36, 3) := by decide +kernel
theorem dX7_awaiting_34 : decode cX7_awaiting 34 = .ok (.iload_n 2, 1) := by decide +kernel
theorem dX7_awaiting_35 : decode cX7_awaiting 35 = .ok (.iaload, 1) := by decide +kernel
theorem dX7_awaiting_36 : decode cX7_awaiting 36 = .ok (.invokevirtual 118, 3) := by decide +kernel
theorem dX7_awaiting_39 : decode cX7_awaiting 39 = .ok (.invokestatic 121, 3) := by decide +kernel
theorem dX7_awaiting_42 : decode cX7_awaiting 42 = .ok (.if_icmp .ge 5, 3) := by decide +kernel
theorem dX7_awaiting_45 : decode cX7_awaiting 45 = .ok (.iload_n 2, 1) := by decide +kernel
theorem dX7_awaiting_46 : decode cX7_awaiting 46 = .ok (.ireturn, 1) := by decide +kernel
theorem dX7_awaiting_47 : decode cX7_awaiting 47 = .ok (.aload_n 0, 1) := by decide +kernel
theorem dX7_awaiting_48 : decode cX7_awaiting 48 = .ok (.getfield 39, 3) := by decide +kernel
theorem dX7_awaiting_51 : decode cX7_awaiting 51 = .ok (.iload_n 2, 1) := by decide +kernel
theorem dX7_awaiting_52 : decode cX7_awaiting 52 = .ok (.iaload, 1) := by decide +kernel
theorem dX7_awaiting_53 : decode cX7_awaiting 53 = .ok (.istore_n 2, 1) := by decide +kernel
theorem dX7_awaiting_54 : decode cX7_awaiting 54 = .ok (.iinc 3 1, 3) := by decide +kernel
theorem dX7_awaiting_57 : decode cX7_awaiting 57 = .ok (.goto (-53), 3) := by decide +kernel
theorem dX7_awaiting_60 : decode cX7_awaiting 60 = .ok (.iconst (-1), 1) := by decide +kernel
theorem dX7_awaiting_61 : decode cX7_awaiting 61 = .ok (.ireturn, 1) := by decide +kernel
theorem dX7_wholeOf_0 : decode cX7_wholeOf 0 = .ok (.iload_n 1, 1) := by decide +kernel
theorem dX7_wholeOf_1 : decode cX7_wholeOf 1 = .ok (.ifCond .lt 30, 3) := by decide +kernel
theorem dX7_wholeOf_4 : decode cX7_wholeOf 4 = .ok (.iload_n 1, 1) := by decide +kernel
theorem dX7_wholeOf_5 : decode cX7_wholeOf 5 = .ok (.bipush 20, 2) := by decide +kernel
theorem dX7_wholeOf_7 : decode cX7_wholeOf 7 = .ok (.if_icmp .ge 24, 3) := by decide +kernel
theorem dX7_wholeOf_10 : decode cX7_wholeOf 10 = .ok (.iload_n 2, 1) := by decide +kernel
theorem dX7_wholeOf_11 : decode cX7_wholeOf 11 = .ok (.ifCond .lt 20, 3) := by decide +kernel
theorem dX7_wholeOf_14 : decode cX7_wholeOf 14 = .ok (.iload_n 2, 1) := by decide +kernel
theorem dX7_wholeOf_15 : decode cX7_wholeOf 15 = .ok (.bipush 8, 2) := by decide +kernel
theorem dX7_wholeOf_17 : decode cX7_wholeOf 17 = .ok (.if_icmp .ge 14, 3) := by decide +kernel
theorem dX7_wholeOf_20 : decode cX7_wholeOf 20 = .ok (.aload_n 0, 1) := by decide +kernel
theorem dX7_wholeOf_21 : decode cX7_wholeOf 21 = .ok (.getfield 56, 3) := by decide +kernel
theorem dX7_wholeOf_24 : decode cX7_wholeOf 24 = .ok (.iload_n 2, 1) := by decide +kernel
theorem dX7_wholeOf_25 : decode cX7_wholeOf 25 = .ok (.ishr, 1) := by decide +kernel
theorem dX7_wholeOf_26 : decode cX7_wholeOf 26 = .ok (.iconst 1, 1) := by decide +kernel
theorem dX7_wholeOf_27 : decode cX7_wholeOf 27 = .ok (.iand, 1) := by decide +kernel
theorem dX7_wholeOf_28 : decode cX7_wholeOf 28 = .ok (.ifCond .ne 5, 3) := by decide +kernel
theorem dX7_wholeOf_31 : decode cX7_wholeOf 31 = .ok (.iconst (-1), 1) := by decide +kernel
theorem dX7_wholeOf_32 : decode cX7_wholeOf 32 = .ok (.ireturn, 1) := by decide +kernel
theorem dX7_wholeOf_33 : decode cX7_wholeOf 33 = .ok (.aload_n 0, 1) := by decide +kernel
theorem dX7_wholeOf_34 : decode cX7_wholeOf 34 = .ok (.getfield 48, 3) := by decide +kernel
theorem dX7_wholeOf_37 : decode cX7_wholeOf 37 = .ok (.aload_n 0, 1) := by decide +kernel
theorem dX7_wholeOf_38 : decode cX7_wholeOf 38 = .ok (.getfield 36, 3) := by decide +kernel
theorem dX7_wholeOf_41 : decode cX7_wholeOf 41 = .ok (.iload_n 1, 1) := by decide +kernel
theorem dX7_wholeOf_42 : decode cX7_wholeOf 42 = .ok (.iaload, 1) := by decide +kernel
theorem dX7_wholeOf_43 : decode cX7_wholeOf 43 = .ok (.invokevirtual 118, 3) := by decide +kernel
theorem dX7_wholeOf_46 : decode cX7_wholeOf 46 = .ok (.istore_n 3, 1) := by decide +kernel
theorem dX7_wholeOf_47 : decode cX7_wholeOf 47 = .ok (.aload_n 0, 1) := by decide +kernel
theorem dX7_wholeOf_48 : decode cX7_wholeOf 48 = .ok (.getfield 48, 3) := by decide +kernel
theorem dX7_wholeOf_51 : decode cX7_wholeOf 51 = .ok (.aload_n 0, 1) := by decide +kernel
theorem dX7_wholeOf_52 : decode cX7_wholeOf 52 = .ok (.getfield 30, 3) := by decide +kernel
theorem dX7_wholeOf_55 : decode cX7_wholeOf 55 = .ok (.iload_n 2, 1) := by decide +kernel
theorem dX7_wholeOf_56 : decode cX7_wholeOf 56 = .ok (.iaload, 1) := by decide +kernel
theorem dX7_wholeOf_57 : decode cX7_wholeOf 57 = .ok (.invokevirtual 124, 3) := by decide +kernel
theorem dX7_wholeOf_60 : decode cX7_wholeOf 60 = .ok (.iconst 2, 1) := by decide +kernel
theorem dX7_wholeOf_61 : decode cX7_wholeOf 61 = .ok (.if_icmp .ne 30, 3) := by decide +kernel
theorem dX7_wholeOf_64 : decode cX7_wholeOf 64 = .ok (.iload_n 3, 1) := by decide +kernel
theorem dX7_wholeOf_65 : decode cX7_wholeOf 65 = .ok (.invokestatic 127, 3) := by decide +kernel
theorem dX7_wholeOf_68 : decode cX7_wholeOf 68 = .ok (.aload_n 0, 1) := by decide +kernel
theorem dX7_wholeOf_69 : decode cX7_wholeOf 69 = .ok (.getfield 48, 3) := by decide +kernel
theorem dX7_wholeOf_72 : decode cX7_wholeOf 72 = .ok (.aload_n 0, 1) := by decide +kernel
theorem dX7_wholeOf_73 : decode cX7_wholeOf 73 = .ok (.getfield 30, 3) := by decide +kernel
theorem dX7_wholeOf_76 : decode cX7_wholeOf 76 = .ok (.iload_n 2, 1) := by decide +kernel
theorem dX7_wholeOf_77 : decode cX7_wholeOf 77 = .ok (.iaload, 1) := by decide +kernel
theorem dX7_wholeOf_78 : decode cX7_wholeOf 78 = .ok (.invokevirtual 118, 3) := by decide +kernel
theorem dX7_wholeOf_81 : decode cX7_wholeOf 81 = .ok (.invokestatic 127, 3) := by decide +kernel
theorem dX7_wholeOf_84 : decode cX7_wholeOf 84 = .ok (.if_icmp .ne 7, 3) := by decide +kernel
theorem dX7_wholeOf_87 : decode cX7_wholeOf 87 = .ok (.iconst 1, 1) := by decide +kernel
theorem dX7_wholeOf_88 : decode cX7_wholeOf 88 = .ok (.goto 4, 3) := by decide +kernel
theorem dX7_wholeOf_91 : decode cX7_wholeOf 91 = .ok (.iconst 0, 1) := by decide +kernel
theorem dX7_wholeOf_92 : decode cX7_wholeOf 92 = .ok (.istore 4, 2) := by decide +kernel
theorem dX7_wholeOf_94 : decode cX7_wholeOf 94 = .ok (.iload 4, 2) := by decide +kernel
theorem dX7_wholeOf_96 : decode cX7_wholeOf 96 = .ok (.ifCond .eq 14, 3) := by decide +kernel
theorem dX7_wholeOf_99 : decode cX7_wholeOf 99 = .ok (.iconst 1, 1) := by decide +kernel
theorem dX7_wholeOf_100 : decode cX7_wholeOf 100 = .ok (.iload_n 3, 1) := by decide +kernel
theorem dX7_wholeOf_101 : decode cX7_wholeOf 101 = .ok (.invokestatic 121, 3) := by decide +kernel
theorem dX7_wholeOf_104 : decode cX7_wholeOf 104 = .ok (.ishl, 1) := by decide +kernel
theorem dX7_wholeOf_105 : decode cX7_wholeOf 105 = .ok (.iconst 1, 1) := by decide +kernel
theorem dX7_wholeOf_106 : decode cX7_wholeOf 106 = .ok (.isub, 1) := by decide +kernel
theorem dX7_wholeOf_107 : decode cX7_wholeOf 107 = .ok (.goto 4, 3) := by decide +kernel
theorem dX7_wholeOf_110 : decode cX7_wholeOf 110 = .ok (.iconst 0, 1) := by decide +kernel
theorem dX7_wholeOf_111 : decode cX7_wholeOf 111 = .ok (.ireturn, 1) := by decide +kernel
theorem dX7_targetOf_0 : decode cX7_targetOf 0 = .ok (.iload_n 1, 1) := by decide +kernel
theorem dX7_targetOf_1 : decode cX7_targetOf 1 = .ok (.ifCond .lt 19, 3) := by decide +kernel
theorem dX7_targetOf_4 : decode cX7_targetOf 4 = .ok (.iload_n 1, 1) := by decide +kernel
theorem dX7_targetOf_5 : decode cX7_targetOf 5 = .ok (.bipush 20, 2) := by decide +kernel
theorem dX7_targetOf_7 : decode cX7_targetOf 7 = .ok (.if_icmp .ge 13, 3) := by decide +kernel
theorem dX7_targetOf_10 : decode cX7_targetOf 10 = .ok (.iload_n 2, 1) := by decide +kernel
theorem dX7_targetOf_11 : decode cX7_targetOf 11 = .ok (.ifCond .lt 9, 3) := by decide +kernel
theorem dX7_targetOf_14 : decode cX7_targetOf 14 = .ok (.iload_n 2, 1) := by decide +kernel
theorem dX7_targetOf_15 : decode cX7_targetOf 15 = .ok (.bipush 8, 2) := by decide +kernel
theorem dX7_targetOf_17 : decode cX7_targetOf 17 = .ok (.if_icmp .lt 5, 3) := by decide +kernel
theorem dX7_targetOf_20 : decode cX7_targetOf 20 = .ok (.iconst (-1), 1) := by decide +kernel
theorem dX7_targetOf_21 : decode cX7_targetOf 21 = .ok (.ireturn, 1) := by decide +kernel
theorem dX7_targetOf_22 : decode cX7_targetOf 22 = .ok (.aload_n 0, 1) := by decide +kernel
theorem dX7_targetOf_23 : decode cX7_targetOf 23 = .ok (.getfield 36, 3) := by decide +kernel
theorem dX7_targetOf_26 : decode cX7_targetOf 26 = .ok (.iload_n 1, 1) := by decide +kernel
theorem dX7_targetOf_27 : decode cX7_targetOf 27 = .ok (.iaload, 1) := by decide +kernel
theorem dX7_targetOf_28 : decode cX7_targetOf 28 = .ok (.istore 4, 2) := by decide +kernel
theorem dX7_targetOf_30 : decode cX7_targetOf 30 = .ok (.aload_n 0, 1) := by decide +kernel
theorem dX7_targetOf_31 : decode cX7_targetOf 31 = .ok (.getfield 48, 3) := by decide +kernel
theorem dX7_targetOf_34 : decode cX7_targetOf 34 = .ok (.aload_n 0, 1) := by decide +kernel
theorem dX7_targetOf_35 : decode cX7_targetOf 35 = .ok (.getfield 30, 3) := by decide +kernel
theorem dX7_targetOf_38 : decode cX7_targetOf 38 = .ok (.iload_n 2, 1) := by decide +kernel
theorem dX7_targetOf_39 : decode cX7_targetOf 39 = .ok (.iaload, 1) := by decide +kernel
theorem dX7_targetOf_40 : decode cX7_targetOf 40 = .ok (.invokevirtual 118, 3) := by decide +kernel
theorem dX7_targetOf_43 : decode cX7_targetOf 43 = .ok (.istore 5, 2) := by decide +kernel
theorem dX7_targetOf_45 : decode cX7_targetOf 45 = .ok (.iload 5, 2) := by decide +kernel
theorem dX7_targetOf_47 : decode cX7_targetOf 47 = .ok (.invokestatic 127, 3) := by decide +kernel
theorem dX7_targetOf_50 : decode cX7_targetOf 50 = .ok (.istore 6, 2) := by decide +kernel
theorem dX7_targetOf_52 : decode cX7_targetOf 52 = .ok (.aload_n 0, 1) := by decide +kernel
theorem dX7_targetOf_53 : decode cX7_targetOf 53 = .ok (.getfield 48, 3) := by decide +kernel
theorem dX7_targetOf_56 : decode cX7_targetOf 56 = .ok (.aload_n 0, 1) := by decide +kernel
theorem dX7_targetOf_57 : decode cX7_targetOf 57 = .ok (.getfield 30, 3) := by decide +kernel
theorem dX7_targetOf_60 : decode cX7_targetOf 60 = .ok (.iload_n 2, 1) := by decide +kernel
theorem dX7_targetOf_61 : decode cX7_targetOf 61 = .ok (.iaload, 1) := by decide +kernel
theorem dX7_targetOf_62 : decode cX7_targetOf 62 = .ok (.invokevirtual 124, 3) := by decide +kernel
theorem dX7_targetOf_65 : decode cX7_targetOf 65 = .ok (.iconst 2, 1) := by decide +kernel
theorem dX7_targetOf_66 : decode cX7_targetOf 66 = .ok (.if_icmp .ne 7, 3) := by decide +kernel
theorem dX7_targetOf_69 : decode cX7_targetOf 69 = .ok (.iconst 1, 1) := by decide +kernel
theorem dX7_targetOf_70 : decode cX7_targetOf 70 = .ok (.goto 4, 3) := by decide +kernel
theorem dX7_targetOf_73 : decode cX7_targetOf 73 = .ok (.iconst 0, 1) := by decide +kernel
theorem dX7_targetOf_74 : decode cX7_targetOf 74 = .ok (.istore 7, 2) := by decide +kernel
theorem dX7_targetOf_76 : decode cX7_targetOf 76 = .ok (.iload 7, 2) := by decide +kernel
theorem dX7_targetOf_78 : decode cX7_targetOf 78 = .ok (.ifCond .eq 19, 3) := by decide +kernel
theorem dX7_targetOf_81 : decode cX7_targetOf 81 = .ok (.aload_n 0, 1) := by decide +kernel
theorem dX7_targetOf_82 : decode cX7_targetOf 82 = .ok (.getfield 48, 3) := by decide +kernel
theorem dX7_targetOf_85 : decode cX7_targetOf 85 = .ok (.iload 6, 2) := by decide +kernel
theorem dX7_targetOf_87 : decode cX7_targetOf 87 = .ok (.invokevirtual 130, 3) := by decide +kernel
theorem dX7_targetOf_90 : decode cX7_targetOf 90 = .ok (.ifCond .eq 7, 3) := by decide +kernel
theorem dX7_targetOf_93 : decode cX7_targetOf 93 = .ok (.iconst 1, 1) := by decide +kernel
theorem dX7_targetOf_94 : decode cX7_targetOf 94 = .ok (.goto 4, 3) := by decide +kernel
theorem dX7_targetOf_97 : decode cX7_targetOf 97 = .ok (.iconst 0, 1) := by decide +kernel
theorem dX7_targetOf_98 : decode cX7_targetOf 98 = .ok (.istore 8, 2) := by decide +kernel
theorem dX7_targetOf_100 : decode cX7_targetOf 100 = .ok (.aload_n 0, 1) := by decide +kernel
theorem dX7_targetOf_101 : decode cX7_targetOf 101 = .ok (.getfield 48, 3) := by decide +kernel
theorem dX7_targetOf_104 : decode cX7_targetOf 104 = .ok (.iload 4, 2) := by decide +kernel
theorem dX7_targetOf_106 : decode cX7_targetOf 106 = .ok (.invokevirtual 118, 3) := by decide +kernel
theorem dX7_targetOf_109 : decode cX7_targetOf 109 = .ok (.invokestatic 127, 3) := by decide +kernel
theorem dX7_targetOf_112 : decode cX7_targetOf 112 = .ok (.iload 6, 2) := by decide +kernel
theorem dX7_targetOf_114 : decode cX7_targetOf 114 = .ok (.if_icmp .eq 15, 3) := by decide +kernel
theorem dX7_targetOf_117 : decode cX7_targetOf 117 = .ok (.iload 8, 2) := by decide +kernel
theorem dX7_targetOf_119 : decode cX7_targetOf 119 = .ok (.ifCond .eq 8, 3) := by decide +kernel
theorem dX7_targetOf_122 : decode cX7_targetOf 122 = .ok (.iload 4, 2) := by decide +kernel
theorem dX7_targetOf_124 : decode cX7_targetOf 124 = .ok (.goto 4, 3) := by decide +kernel
theorem dX7_targetOf_127 : decode cX7_targetOf 127 = .ok (.iconst (-1), 1) := by decide +kernel
theorem dX7_targetOf_128 : decode cX7_targetOf 128 = .ok (.ireturn, 1) := by decide +kernel
theorem dX7_targetOf_129 : decode cX7_targetOf 129 = .ok (.iload 7, 2) := by decide +kernel
theorem dX7_targetOf_131 : decode cX7_targetOf 131 = .ok (.ifCond .ne 6, 3) := by decide +kernel
theorem dX7_targetOf_134 : decode cX7_targetOf 134 = .ok (.iload 4, 2) := by decide +kernel
theorem dX7_targetOf_136 : decode cX7_targetOf 136 = .ok (.ireturn, 1) := by decide +kernel
theorem dX7_targetOf_137 : decode cX7_targetOf 137 = .ok (.iload 8, 2) := by decide +kernel
theorem dX7_targetOf_139 : decode cX7_targetOf 139 = .ok (.ifCond .ne 15, 3) := by decide +kernel
theorem dX7_targetOf_142 : decode cX7_targetOf 142 = .ok (.iload_n 3, 1) := by decide +kernel
theorem dX7_targetOf_143 : decode cX7_targetOf 143 = .ok (.invokestatic 134, 3) := by decide +kernel
theorem dX7_targetOf_146 : decode cX7_targetOf 146 = .ok (.iload 5, 2) := by decide +kernel
theorem dX7_targetOf_148 : decode cX7_targetOf 148 = .ok (.invokestatic 121, 3) := by decide +kernel
theorem dX7_targetOf_151 : decode cX7_targetOf 151 = .ok (.if_icmp .lt 18, 3) := by decide +kernel
theorem dX7_targetOf_154 : decode cX7_targetOf 154 = .ok (.aload_n 0, 1) := by decide +kernel
theorem dX7_targetOf_155 : decode cX7_targetOf 155 = .ok (.getfield 48, 3) := by decide +kernel
theorem dX7_targetOf_158 : decode cX7_targetOf 158 = .ok (.iload 4, 2) := by decide +kernel
theorem dX7_targetOf_160 : decode cX7_targetOf 160 = .ok (.iload 6, 2) := by decide +kernel
theorem dX7_targetOf_162 : decode cX7_targetOf 162 = .ok (.iload_n 3, 1) := by decide +kernel
theorem dX7_targetOf_163 : decode cX7_targetOf 163 = .ok (.invokevirtual 139, 3) := by decide +kernel
theorem dX7_targetOf_166 : decode cX7_targetOf 166 = .ok (.ifCond .ne 5, 3) := by decide +kernel
theorem dX7_targetOf_169 : decode cX7_targetOf 169 = .ok (.iconst (-1), 1) := by decide +kernel
theorem dX7_targetOf_170 : decode cX7_targetOf 170 = .ok (.ireturn, 1) := by decide +kernel
theorem dX7_targetOf_171 : decode cX7_targetOf 171 = .ok (.aload_n 0, 1) := by decide +kernel
theorem dX7_targetOf_172 : decode cX7_targetOf 172 = .ok (.getfield 48, 3) := by decide +kernel
theorem dX7_targetOf_175 : decode cX7_targetOf 175 = .ok (.iload 4, 2) := by decide +kernel
theorem dX7_targetOf_177 : decode cX7_targetOf 177 = .ok (.iload 6, 2) := by decide +kernel
theorem dX7_targetOf_179 : decode cX7_targetOf 179 = .ok (.iload_n 3, 1) := by decide +kernel
theorem dX7_targetOf_180 : decode cX7_targetOf 180 = .ok (.invokevirtual 142, 3) := by decide +kernel
theorem dX7_targetOf_183 : decode cX7_targetOf 183 = .ok (.ireturn, 1) := by decide +kernel
theorem dX7_offerAll_0 : decode cX7_offerAll 0 = .ok (.iload_n 1, 1) := by decide +kernel
theorem dX7_offerAll_1 : decode cX7_offerAll 1 = .ok (.ifCond .lt 19, 3) := by decide +kernel
theorem dX7_offerAll_4 : decode cX7_offerAll 4 = .ok (.iload_n 1, 1) := by decide +kernel
theorem dX7_offerAll_5 : decode cX7_offerAll 5 = .ok (.bipush 20, 2) := by decide +kernel
theorem dX7_offerAll_7 : decode cX7_offerAll 7 = .ok (.if_icmp .ge 13, 3) := by decide +kernel
theorem dX7_offerAll_10 : decode cX7_offerAll 10 = .ok (.iload_n 2, 1) := by decide +kernel
theorem dX7_offerAll_11 : decode cX7_offerAll 11 = .ok (.ifCond .lt 9, 3) := by decide +kernel
theorem dX7_offerAll_14 : decode cX7_offerAll 14 = .ok (.iload_n 2, 1) := by decide +kernel
theorem dX7_offerAll_15 : decode cX7_offerAll 15 = .ok (.bipush 8, 2) := by decide +kernel
theorem dX7_offerAll_17 : decode cX7_offerAll 17 = .ok (.if_icmp .lt 5, 3) := by decide +kernel
theorem dX7_offerAll_20 : decode cX7_offerAll 20 = .ok (.iconst 1, 1) := by decide +kernel
theorem dX7_offerAll_21 : decode cX7_offerAll 21 = .ok (.ireturn, 1) := by decide +kernel
theorem dX7_offerAll_22 : decode cX7_offerAll 22 = .ok (.aload_n 0, 1) := by decide +kernel
theorem dX7_offerAll_23 : decode cX7_offerAll 23 = .ok (.iload_n 1, 1) := by decide +kernel
theorem dX7_offerAll_24 : decode cX7_offerAll 24 = .ok (.iload_n 2, 1) := by decide +kernel
theorem dX7_offerAll_25 : decode cX7_offerAll 25 = .ok (.invokevirtual 94, 3) := by decide +kernel
theorem dX7_offerAll_28 : decode cX7_offerAll 28 = .ok (.iload_n 3, 1) := by decide +kernel
theorem dX7_offerAll_29 : decode cX7_offerAll 29 = .ok (.iconst (-1), 1) := by decide +kernel
theorem dX7_offerAll_30 : decode cX7_offerAll 30 = .ok (.ixor, 1) := by decide +kernel
theorem dX7_offerAll_31 : decode cX7_offerAll 31 = .ok (.iand, 1) := by decide +kernel
theorem dX7_offerAll_32 : decode cX7_offerAll 32 = .ok (.istore 4, 2) := by decide +kernel
theorem dX7_offerAll_34 : decode cX7_offerAll 34 = .ok (.iconst 0, 1) := by decide +kernel
theorem dX7_offerAll_35 : decode cX7_offerAll 35 = .ok (.istore 5, 2) := by decide +kernel
theorem dX7_offerAll_37 : decode cX7_offerAll 37 = .ok (.iload 5, 2) := by decide +kernel
theorem dX7_offerAll_39 : decode cX7_offerAll 39 = .ok (.aload_n 0, 1) := by decide +kernel
theorem dX7_offerAll_40 : decode cX7_offerAll 40 = .ok (.getfield 52, 3) := by decide +kernel
theorem dX7_offerAll_43 : decode cX7_offerAll 43 = .ok (.getfield 145, 3) := by decide +kernel
theorem dX7_offerAll_46 : decode cX7_offerAll 46 = .ok (.if_icmp .ge 118, 3) := by decide +kernel
theorem dX7_offerAll_49 : decode cX7_offerAll 49 = .ok (.aload_n 0, 1) := by decide +kernel
theorem dX7_offerAll_50 : decode cX7_offerAll 50 = .ok (.getfield 48, 3) := by decide +kernel
theorem dX7_offerAll_53 : decode cX7_offerAll 53 = .ok (.getfield 69, 3) := by decide +kernel
theorem dX7_offerAll_56 : decode cX7_offerAll 56 = .ok (.istore 6, 2) := by decide +kernel
theorem dX7_offerAll_58 : decode cX7_offerAll 58 = .ok (.aload_n 0, 1) := by decide +kernel
theorem dX7_offerAll_59 : decode cX7_offerAll 59 = .ok (.getfield 48, 3) := by decide +kernel
theorem dX7_offerAll_62 : decode cX7_offerAll 62 = .ok (.aload_n 0, 1) := by decide +kernel
theorem dX7_offerAll_63 : decode cX7_offerAll 63 = .ok (.getfield 33, 3) := by decide +kernel
theorem dX7_offerAll_66 : decode cX7_offerAll 66 = .ok (.iload_n 2, 1) := by decide +kernel
theorem dX7_offerAll_67 : decode cX7_offerAll 67 = .ok (.iaload, 1) := by decide +kernel
theorem dX7_offerAll_68 : decode cX7_offerAll 68 = .ok (.aload_n 0, 1) := by decide +kernel
theorem dX7_offerAll_69 : decode cX7_offerAll 69 = .ok (.getfield 52, 3) := by decide +kernel
theorem dX7_offerAll_72 : decode cX7_offerAll 72 = .ok (.getfield 146, 3) := by decide +kernel
theorem dX7_offerAll_75 : decode cX7_offerAll 75 = .ok (.aload_n 0, 1) := by decide +kernel
theorem dX7_offerAll_76 : decode cX7_offerAll 76 = .ok (.getfield 52, 3) := by decide +kernel
theorem dX7_offerAll_79 : decode cX7_offerAll 79 = .ok (.iload 5, 2) := by decide +kernel
theorem dX7_offerAll_81 : decode cX7_offerAll 81 = .ok (.invokevirtual 148, 3) := by decide +kernel
theorem dX7_offerAll_84 : decode cX7_offerAll 84 = .ok (.iconst 0, 1) := by decide +kernel
theorem dX7_offerAll_85 : decode cX7_offerAll 85 = .ok (.invokevirtual 151, 3) := by decide +kernel
theorem dX7_offerAll_88 : decode cX7_offerAll 88 = .ok (.istore 7, 2) := by decide +kernel
theorem dX7_offerAll_90 : decode cX7_offerAll 90 = .ok (.iload 4, 2) := by decide +kernel
theorem dX7_offerAll_92 : decode cX7_offerAll 92 = .ok (.ifCond .le 19, 3) := by decide +kernel
theorem dX7_offerAll_95 : decode cX7_offerAll 95 = .ok (.aload_n 0, 1) := by decide +kernel
theorem dX7_offerAll_96 : decode cX7_offerAll 96 = .ok (.iload 7, 2) := by decide +kernel
theorem dX7_offerAll_98 : decode cX7_offerAll 98 = .ok (.aload_n 0, 1) := by decide +kernel
theorem dX7_offerAll_99 : decode cX7_offerAll 99 = .ok (.getfield 36, 3) := by decide +kernel
theorem dX7_offerAll_102 : decode cX7_offerAll 102 = .ok (.iload_n 1, 1) := by decide +kernel
theorem dX7_offerAll_103 : decode cX7_offerAll 103 = .ok (.iaload, 1) := by decide +kernel
theorem dX7_offerAll_104 : decode cX7_offerAll 104 = .ok (.iload 4, 2) := by decide +kernel
theorem dX7_offerAll_106 : decode cX7_offerAll 106 = .ok (.invokevirtual 155, 3) := by decide +kernel
theorem dX7_offerAll_109 : decode cX7_offerAll 109 = .ok (.istore 7, 2) := by decide +kernel
theorem dX7_offerAll_111 : decode cX7_offerAll 111 = .ok (.aload_n 0, 1) := by decide +kernel
theorem dX7_offerAll_112 : decode cX7_offerAll 112 = .ok (.iload 7, 2) := by decide +kernel
theorem dX7_offerAll_114 : decode cX7_offerAll 114 = .ok (.iload_n 1, 1) := by decide +kernel
theorem dX7_offerAll_115 : decode cX7_offerAll 115 = .ok (.invokevirtual 158, 3) := by decide +kernel
theorem dX7_offerAll_118 : decode cX7_offerAll 118 = .ok (.istore 7, 2) := by decide +kernel
theorem dX7_offerAll_120 : decode cX7_offerAll 120 = .ok (.iload 7, 2) := by decide +kernel
theorem dX7_offerAll_122 : decode cX7_offerAll 122 = .ok (.ifCond .lt 27, 3) := by decide +kernel
theorem dX7_offerAll_125 : decode cX7_offerAll 125 = .ok (.iload 7, 2) := by decide +kernel
theorem dX7_offerAll_127 : decode cX7_offerAll 127 = .ok (.aload_n 0, 1) := by decide +kernel
theorem dX7_offerAll_128 : decode cX7_offerAll 128 = .ok (.getfield 36, 3) := by decide +kernel
theorem dX7_offerAll_131 : decode cX7_offerAll 131 = .ok (.iconst 0, 1) := by decide +kernel
theorem dX7_offerAll_132 : decode cX7_offerAll 132 = .ok (.iaload, 1) := by decide +kernel
theorem dX7_offerAll_133 : decode cX7_offerAll 133 = .ok (.if_icmp .eq 16, 3) := by decide +kernel
theorem dX7_offerAll_136 : decode cX7_offerAll 136 = .ok (.aload_n 0, 1) := by decide +kernel
theorem dX7_offerAll_137 : decode cX7_offerAll 137 = .ok (.iload 7, 2) := by decide +kernel
theorem dX7_offerAll_139 : decode cX7_offerAll 139 = .ok (.iload_n 1, 1) := by decide +kernel
theorem dX7_offerAll_140 : decode cX7_offerAll 140 = .ok (.iload_n 2, 1) := by decide +kernel
theorem dX7_offerAll_141 : decode cX7_offerAll 141 = .ok (.invokevirtual 161, 3) := by decide +kernel
theorem dX7_offerAll_144 : decode cX7_offerAll 144 = .ok (.ifCond .ne 5, 3) := by decide +kernel
theorem dX7_offerAll_147 : decode cX7_offerAll 147 = .ok (.iconst 0, 1) := by decide +kernel
theorem dX7_offerAll_148 : decode cX7_offerAll 148 = .ok (.ireturn, 1) := by decide +kernel
theorem dX7_offerAll_149 : decode cX7_offerAll 149 = .ok (.aload_n 0, 1) := by decide +kernel
theorem dX7_offerAll_150 : decode cX7_offerAll 150 = .ok (.getfield 48, 3) := by decide +kernel
theorem dX7_offerAll_153 : decode cX7_offerAll 153 = .ok (.iload 6, 2) := by decide +kernel
theorem dX7_offerAll_155 : decode cX7_offerAll 155 = .ok (.invokevirtual 81, 3) := by decide +kernel
theorem dX7_offerAll_158 : decode cX7_offerAll 158 = .ok (.iinc 5 1, 3) := by decide +kernel
theorem dX7_offerAll_161 : decode cX7_offerAll 161 = .ok (.goto (-124), 3) := by decide +kernel
theorem dX7_offerAll_164 : decode cX7_offerAll 164 = .ok (.iconst 1, 1) := by decide +kernel
theorem dX7_offerAll_165 : decode cX7_offerAll 165 = .ok (.ireturn, 1) := by decide +kernel
theorem dX7_withOthers_0 : decode cX7_withOthers 0 = .ok (.aload_n 0, 1) := by decide +kernel
theorem dX7_withOthers_1 : decode cX7_withOthers 1 = .ok (.getfield 48, 3) := by decide +kernel
theorem dX7_withOthers_4 : decode cX7_withOthers 4 = .ok (.aload_n 0, 1) := by decide +kernel
theorem dX7_withOthers_5 : decode cX7_withOthers 5 = .ok (.getfield 48, 3) := by decide +kernel
theorem dX7_withOthers_8 : decode cX7_withOthers 8 = .ok (.iload_n 2, 1) := by decide +kernel
theorem dX7_withOthers_9 : decode cX7_withOthers 9 = .ok (.invokevirtual 118, 3) := by decide +kernel
theorem dX7_withOthers_12 : decode cX7_withOthers 12 = .ok (.invokestatic 127, 3) := by decide +kernel
theorem dX7_withOthers_15 : decode cX7_withOthers 15 = .ok (.invokevirtual 164, 3) := by decide +kernel
theorem dX7_withOthers_18 : decode cX7_withOthers 18 = .ok (.aload_n 0, 1) := by decide +kernel
theorem dX7_withOthers_19 : decode cX7_withOthers 19 = .ok (.getfield 48, 3) := by decide +kernel
theorem dX7_withOthers_22 : decode cX7_withOthers 22 = .ok (.iload_n 1, 1) := by decide +kernel
theorem dX7_withOthers_23 : decode cX7_withOthers 23 = .ok (.invokevirtual 167, 3) := by decide +kernel
theorem dX7_withOthers_26 : decode cX7_withOthers 26 = .ok (.iconst 0, 1) := by decide +kernel
theorem dX7_withOthers_27 : decode cX7_withOthers 27 = .ok (.istore 4, 2) := by decide +kernel
theorem dX7_withOthers_29 : decode cX7_withOthers 29 = .ok (.iload 4, 2) := by decide +kernel
theorem dX7_withOthers_31 : decode cX7_withOthers 31 = .ok (.bipush 6, 2) := by decide +kernel
theorem dX7_withOthers_33 : decode cX7_withOthers 33 = .ok (.if_icmp .ge 35, 3) := by decide +kernel
theorem dX7_withOthers_36 : decode cX7_withOthers 36 = .ok (.iload_n 3, 1) := by decide +kernel
theorem dX7_withOthers_37 : decode cX7_withOthers 37 = .ok (.iload 4, 2) := by decide +kernel
theorem dX7_withOthers_39 : decode cX7_withOthers 39 = .ok (.ishr, 1) := by decide +kernel
theorem dX7_withOthers_40 : decode cX7_withOthers 40 = .ok (.iconst 1, 1) := by decide +kernel
theorem dX7_withOthers_41 : decode cX7_withOthers 41 = .ok (.iand, 1) := by decide +kernel
theorem dX7_withOthers_42 : decode cX7_withOthers 42 = .ok (.ifCond .eq 20, 3) := by decide +kernel
theorem dX7_withOthers_45 : decode cX7_withOthers 45 = .ok (.aload_n 0, 1) := by decide +kernel
theorem dX7_withOthers_46 : decode cX7_withOthers 46 = .ok (.getfield 48, 3) := by decide +kernel
theorem dX7_withOthers_49 : decode cX7_withOthers 49 = .ok (.aload_n 0, 1) := by decide +kernel
theorem dX7_withOthers_50 : decode cX7_withOthers 50 = .ok (.getfield 48, 3) := by decide +kernel
theorem dX7_withOthers_53 : decode cX7_withOthers 53 = .ok (.iload_n 2, 1) := by decide +kernel
theorem dX7_withOthers_54 : decode cX7_withOthers 54 = .ok (.iload 4, 2) := by decide +kernel
theorem dX7_withOthers_56 : decode cX7_withOthers 56 = .ok (.invokevirtual 115, 3) := by decide +kernel
theorem dX7_withOthers_59 : decode cX7_withOthers 59 = .ok (.invokevirtual 167, 3) := by decide +kernel
theorem dX7_withOthers_62 : decode cX7_withOthers 62 = .ok (.iinc 4 1, 3) := by decide +kernel
theorem dX7_withOthers_65 : decode cX7_withOthers 65 = .ok (.goto (-36), 3) := by decide +kernel
theorem dX7_withOthers_68 : decode cX7_withOthers 68 = .ok (.aload_n 0, 1) := by decide +kernel
theorem dX7_withOthers_69 : decode cX7_withOthers 69 = .ok (.getfield 48, 3) := by decide +kernel
theorem dX7_withOthers_72 : decode cX7_withOthers 72 = .ok (.invokevirtual 170, 3) := by decide +kernel
theorem dX7_withOthers_75 : decode cX7_withOthers 75 = .ok (.ireturn, 1) := by decide +kernel
theorem dX7_rebuild_0 : decode cX7_rebuild 0 = .ok (.iload_n 1, 1) := by decide +kernel
theorem dX7_rebuild_1 : decode cX7_rebuild 1 = .ok (.istore_n 3, 1) := by decide +kernel
theorem dX7_rebuild_2 : decode cX7_rebuild 2 = .ok (.iload_n 2, 1) := by decide +kernel
theorem dX7_rebuild_3 : decode cX7_rebuild 3 = .ok (.istore 4, 2) := by decide +kernel
theorem dX7_rebuild_5 : decode cX7_rebuild 5 = .ok (.iconst 0, 1) := by decide +kernel
theorem dX7_rebuild_6 : decode cX7_rebuild 6 = .ok (.istore 5, 2) := by decide +kernel
theorem dX7_rebuild_8 : decode cX7_rebuild 8 = .ok (.iload 5, 2) := by decide +kernel
theorem dX7_rebuild_10 : decode cX7_rebuild 10 = .ok (.bipush 20, 2) := by decide +kernel
theorem dX7_rebuild_12 : decode cX7_rebuild 12 = .ok (.if_icmp .ge 146, 3) := by decide +kernel
theorem dX7_rebuild_15 : decode cX7_rebuild 15 = .ok (.iload 4, 2) := by decide +kernel
theorem dX7_rebuild_17 : decode cX7_rebuild 17 = .ok (.ifCond .le 141, 3) := by decide +kernel
theorem dX7_rebuild_20 : decode cX7_rebuild 20 = .ok (.iload 4, 2) := by decide +kernel
theorem dX7_rebuild_22 : decode cX7_rebuild 22 = .ok (.bipush 20, 2) := by decide +kernel
theorem dX7_rebuild_24 : decode cX7_rebuild 24 = .ok (.if_icmp .ge 134, 3) := by decide +kernel
theorem dX7_rebuild_27 : decode cX7_rebuild 27 = .ok (.iload_n 3, 1) := by decide +kernel
theorem dX7_rebuild_28 : decode cX7_rebuild 28 = .ok (.ifCond .lt 130, 3) := by decide +kernel
theorem dX7_rebuild_31 : decode cX7_rebuild 31 = .ok (.aload_n 0, 1) := by decide +kernel
theorem dX7_rebuild_32 : decode cX7_rebuild 32 = .ok (.getfield 39, 3) := by decide +kernel
theorem dX7_rebuild_35 : decode cX7_rebuild 35 = .ok (.iload 4, 2) := by decide +kernel
theorem dX7_rebuild_37 : decode cX7_rebuild 37 = .ok (.iaload, 1) := by decide +kernel
theorem dX7_rebuild_38 : decode cX7_rebuild 38 = .ok (.istore 6, 2) := by decide +kernel
theorem dX7_rebuild_40 : decode cX7_rebuild 40 = .ok (.iload 6, 2) := by decide +kernel
theorem dX7_rebuild_42 : decode cX7_rebuild 42 = .ok (.ifCond .lt 10, 3) := by decide +kernel
theorem dX7_rebuild_45 : decode cX7_rebuild 45 = .ok (.iload 6, 2) := by decide +kernel
theorem dX7_rebuild_47 : decode cX7_rebuild 47 = .ok (.bipush 20, 2) := by decide +kernel
theorem dX7_rebuild_49 : decode cX7_rebuild 49 = .ok (.if_icmp .lt 5, 3) := by decide +kernel
theorem dX7_rebuild_52 : decode cX7_rebuild 52 = .ok (.iconst (-1), 1) := by decide +kernel
theorem dX7_rebuild_53 : decode cX7_rebuild 53 = .ok (.ireturn, 1) := by decide +kernel
theorem dX7_rebuild_54 : decode cX7_rebuild 54 = .ok (.aload_n 0, 1) := by decide +kernel
theorem dX7_rebuild_55 : decode cX7_rebuild 55 = .ok (.getfield 48, 3) := by decide +kernel
theorem dX7_rebuild_58 : decode cX7_rebuild 58 = .ok (.aload_n 0, 1) := by decide +kernel
theorem dX7_rebuild_59 : decode cX7_rebuild 59 = .ok (.getfield 36, 3) := by decide +kernel
theorem dX7_rebuild_62 : decode cX7_rebuild 62 = .ok (.iload 6, 2) := by decide +kernel
theorem dX7_rebuild_64 : decode cX7_rebuild 64 = .ok (.iaload, 1) := by decide +kernel
theorem dX7_rebuild_65 : decode cX7_rebuild 65 = .ok (.invokevirtual 118, 3) := by decide +kernel
theorem dX7_rebuild_68 : decode cX7_rebuild 68 = .ok (.istore 7, 2) := by decide +kernel
theorem dX7_rebuild_70 : decode cX7_rebuild 70 = .ok (.aload_n 0, 1) := by decide +kernel
theorem dX7_rebuild_71 : decode cX7_rebuild 71 = .ok (.getfield 48, 3) := by decide +kernel
theorem dX7_rebuild_74 : decode cX7_rebuild 74 = .ok (.iload 7, 2) := by decide +kernel
theorem dX7_rebuild_76 : decode cX7_rebuild 76 = .ok (.invokestatic 127, 3) := by decide +kernel
theorem dX7_rebuild_79 : decode cX7_rebuild 79 = .ok (.invokevirtual 164, 3) := by decide +kernel
theorem dX7_rebuild_82 : decode cX7_rebuild 82 = .ok (.iconst 0, 1) := by decide +kernel
theorem dX7_rebuild_83 : decode cX7_rebuild 83 = .ok (.istore 8, 2) := by decide +kernel
theorem dX7_rebuild_85 : decode cX7_rebuild 85 = .ok (.iload 8, 2) := by decide +kernel
theorem dX7_rebuild_87 : decode cX7_rebuild 87 = .ok (.iload 7, 2) := by decide +kernel
theorem dX7_rebuild_89 : decode cX7_rebuild 89 = .ok (.invokestatic 121, 3) := by decide +kernel
theorem dX7_rebuild_92 : decode cX7_rebuild 92 = .ok (.if_icmp .ge 48, 3) := by decide +kernel
theorem dX7_rebuild_95 : decode cX7_rebuild 95 = .ok (.aload_n 0, 1) := by decide +kernel
theorem dX7_rebuild_96 : decode cX7_rebuild 96 = .ok (.getfield 48, 3) := by decide +kernel
theorem dX7_rebuild_99 : decode cX7_rebuild 99 = .ok (.iload 8, 2) := by decide +kernel
theorem dX7_rebuild_101 : decode cX7_rebuild 101 = .ok (.aload_n 0, 1) := by decide +kernel
theorem dX7_rebuild_102 : decode cX7_rebuild 102 = .ok (.getfield 42, 3) := by decide +kernel
theorem dX7_rebuild_105 : decode cX7_rebuild 105 = .ok (.iload 4, 2) := by decide +kernel
theorem dX7_rebuild_107 : decode cX7_rebuild 107 = .ok (.iaload, 1) := by decide +kernel
theorem dX7_rebuild_108 : decode cX7_rebuild 108 = .ok (.if_icmp .ne 7, 3) := by decide +kernel
theorem dX7_rebuild_111 : decode cX7_rebuild 111 = .ok (.iload_n 3, 1) := by decide +kernel
theorem dX7_rebuild_112 : decode cX7_rebuild 112 = .ok (.goto 19, 3) := by decide +kernel
theorem dX7_rebuild_115 : decode cX7_rebuild 115 = .ok (.aload_n 0, 1) := by decide +kernel
theorem dX7_rebuild_116 : decode cX7_rebuild 116 = .ok (.getfield 48, 3) := by decide +kernel
theorem dX7_rebuild_119 : decode cX7_rebuild 119 = .ok (.aload_n 0, 1) := by decide +kernel
theorem dX7_rebuild_120 : decode cX7_rebuild 120 = .ok (.getfield 36, 3) := by decide +kernel
theorem dX7_rebuild_123 : decode cX7_rebuild 123 = .ok (.iload 6, 2) := by decide +kernel
theorem dX7_rebuild_125 : decode cX7_rebuild 125 = .ok (.iaload, 1) := by decide +kernel
