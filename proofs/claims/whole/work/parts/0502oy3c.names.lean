theorem dX10_laysReach_34 : decode cX10_laysReach 34 = .ok (.lconst 0, 1) := by decide +kernel
theorem dX10_laysReach_35 : decode cX10_laysReach 35 = .ok (.putfield 419, 3) := by decide +kernel
theorem dX10_laysReach_38 : decode cX10_laysReach 38 = .ok (.iconst 0, 1) := by decide +kernel
theorem dX10_laysReach_39 : decode cX10_laysReach 39 = .ok (.istore 5, 2) := by decide +kernel
theorem dX10_laysReach_41 : decode cX10_laysReach 41 = .ok (.iload 5, 2) := by decide +kernel
theorem dX10_laysReach_43 : decode cX10_laysReach 43 = .ok (.aload_n 0, 1) := by decide +kernel
theorem dX10_laysReach_44 : decode cX10_laysReach 44 = .ok (.getfield 94, 3) := by decide +kernel
theorem dX10_laysReach_47 : decode cX10_laysReach 47 = .ok (.iconst 0, 1) := by decide +kernel
theorem dX10_laysReach_48 : decode cX10_laysReach 48 = .ok (.iaload, 1) := by decide +kernel
theorem dX10_laysReach_49 : decode cX10_laysReach 49 = .ok (.if_icmp .ge 61, 3) := by decide +kernel
theorem dX10_laysReach_52 : decode cX10_laysReach 52 = .ok (.iload_n 3, 1) := by decide +kernel
theorem dX10_laysReach_53 : decode cX10_laysReach 53 = .ok (.ifCond .eq 57, 3) := by decide +kernel
theorem dX10_laysReach_56 : decode cX10_laysReach 56 = .ok (.aload_n 0, 1) := by decide +kernel
theorem dX10_laysReach_57 : decode cX10_laysReach 57 = .ok (.getfield 296, 3) := by decide +kernel
theorem dX10_laysReach_60 : decode cX10_laysReach 60 = .ok (.ifCond .ne 50, 3) := by decide +kernel
theorem dX10_laysReach_63 : decode cX10_laysReach 63 = .ok (.aload_n 0, 1) := by decide +kernel
theorem dX10_laysReach_64 : decode cX10_laysReach 64 = .ok (.iconst 0, 1) := by decide +kernel
theorem dX10_laysReach_65 : decode cX10_laysReach 65 = .ok (.putfield 178, 3) := by decide +kernel
theorem dX10_laysReach_68 : decode cX10_laysReach 68 = .ok (.aload_n 0, 1) := by decide +kernel
theorem dX10_laysReach_69 : decode cX10_laysReach 69 = .ok (.aload_n 0, 1) := by decide +kernel
theorem dX10_laysReach_70 : decode cX10_laysReach 70 = .ok (.iconst 0, 1) := by decide +kernel
theorem dX10_laysReach_71 : decode cX10_laysReach 71 = .ok (.iload 5, 2) := by decide +kernel
theorem dX10_laysReach_73 : decode cX10_laysReach 73 = .ok (.invokevirtual 410, 3) := by decide +kernel
theorem dX10_laysReach_76 : decode cX10_laysReach 76 = .ok (.aload_n 0, 1) := by decide +kernel
theorem dX10_laysReach_77 : decode cX10_laysReach 77 = .ok (.invokevirtual 389, 3) := by decide +kernel
theorem dX10_laysReach_80 : decode cX10_laysReach 80 = .ok (.iconst 0, 1) := by decide +kernel
theorem dX10_laysReach_81 : decode cX10_laysReach 81 = .ok (.invokevirtual 392, 3) := by decide +kernel
theorem dX10_laysReach_84 : decode cX10_laysReach 84 = .ok (.aload_n 0, 1) := by decide +kernel
theorem dX10_laysReach_85 : decode cX10_laysReach 85 = .ok (.getfield 342, 3) := by decide +kernel
theorem dX10_laysReach_88 : decode cX10_laysReach 88 = .ok (.ifCond .ne 16, 3) := by decide +kernel
theorem dX10_laysReach_91 : decode cX10_laysReach 91 = .ok (.aload_n 0, 1) := by decide +kernel
theorem dX10_laysReach_92 : decode cX10_laysReach 92 = .ok (.dup, 1) := by decide +kernel
theorem dX10_laysReach_93 : decode cX10_laysReach 93 = .ok (.getfield 419, 3) := by decide +kernel
theorem dX10_laysReach_96 : decode cX10_laysReach 96 = .ok (.lconst 1, 1) := by decide +kernel
theorem dX10_laysReach_97 : decode cX10_laysReach 97 = .ok (.iload 5, 2) := by decide +kernel
theorem dX10_laysReach_99 : decode cX10_laysReach 99 = .ok (.lshl, 1) := by decide +kernel
theorem dX10_laysReach_100 : decode cX10_laysReach 100 = .ok (.lor, 1) := by decide +kernel
theorem dX10_laysReach_101 : decode cX10_laysReach 101 = .ok (.putfield 419, 3) := by decide +kernel
theorem dX10_laysReach_104 : decode cX10_laysReach 104 = .ok (.iinc 5 1, 3) := by decide +kernel
theorem dX10_laysReach_107 : decode cX10_laysReach 107 = .ok (.goto (-66), 3) := by decide +kernel
theorem dX10_laysReach_110 : decode cX10_laysReach 110 = .ok (.iload_n 3, 1) := by decide +kernel
theorem dX10_laysReach_111 : decode cX10_laysReach 111 = .ok (.ifCond .ne 10, 3) := by decide +kernel
theorem dX10_laysReach_114 : decode cX10_laysReach 114 = .ok (.aload_n 0, 1) := by decide +kernel
theorem dX10_laysReach_115 : decode cX10_laysReach 115 = .ok (.ldc2_w 423, 3) := by decide +kernel
theorem dX10_laysReach_118 : decode cX10_laysReach 118 = .ok (.putfield 419, 3) := by decide +kernel
theorem dX10_laysReach_121 : decode cX10_laysReach 121 = .ok (.aload_n 0, 1) := by decide +kernel
theorem dX10_laysReach_122 : decode cX10_laysReach 122 = .ok (.iload 4, 2) := by decide +kernel
theorem dX10_laysReach_124 : decode cX10_laysReach 124 = .ok (.invokevirtual 380, 3) := by decide +kernel
theorem dX10_laysReach_127 : decode cX10_laysReach 127 = .ok (.ifCond .ne 7, 3) := by decide +kernel
theorem dX10_laysReach_130 : decode cX10_laysReach 130 = .ok (.iconst 1, 1) := by decide +kernel
theorem dX10_laysReach_131 : decode cX10_laysReach 131 = .ok (.goto 4, 3) := by decide +kernel
theorem dX10_laysReach_134 : decode cX10_laysReach 134 = .ok (.iconst 0, 1) := by decide +kernel
theorem dX10_laysReach_135 : decode cX10_laysReach 135 = .ok (.ireturn, 1) := by decide +kernel
theorem dX10_isCounted_0 : decode cX10_isCounted 0 = .ok (.aload_n 0, 1) := by decide +kernel
theorem dX10_isCounted_1 : decode cX10_isCounted 1 = .ok (.getfield 419, 3) := by decide +kernel
theorem dX10_isCounted_4 : decode cX10_isCounted 4 = .ok (.iload_n 1, 1) := by decide +kernel
theorem dX10_isCounted_5 : decode cX10_isCounted 5 = .ok (.lshr, 1) := by decide +kernel
theorem dX10_isCounted_6 : decode cX10_isCounted 6 = .ok (.lconst 1, 1) := by decide +kernel
theorem dX10_isCounted_7 : decode cX10_isCounted 7 = .ok (.land, 1) := by decide +kernel
theorem dX10_isCounted_8 : decode cX10_isCounted 8 = .ok (.lconst 1, 1) := by decide +kernel
theorem dX10_isCounted_9 : decode cX10_isCounted 9 = .ok (.lcmp, 1) := by decide +kernel
theorem dX10_isCounted_10 : decode cX10_isCounted 10 = .ok (.ifCond .ne 7, 3) := by decide +kernel
theorem dX10_isCounted_13 : decode cX10_isCounted 13 = .ok (.iconst 1, 1) := by decide +kernel
theorem dX10_isCounted_14 : decode cX10_isCounted 14 = .ok (.goto 4, 3) := by decide +kernel
theorem dX10_isCounted_17 : decode cX10_isCounted 17 = .ok (.iconst 0, 1) := by decide +kernel
theorem dX10_isCounted_18 : decode cX10_isCounted 18 = .ok (.ireturn, 1) := by decide +kernel
theorem dX10_noDepth_0 : decode cX10_noDepth 0 = .ok (.aload_n 0, 1) := by decide +kernel
theorem dX10_noDepth_1 : decode cX10_noDepth 1 = .ok (.iload_n 1, 1) := by decide +kernel
theorem dX10_noDepth_2 : decode cX10_noDepth 2 = .ok (.iconst 0, 1) := by decide +kernel
theorem dX10_noDepth_3 : decode cX10_noDepth 3 = .ok (.iconst 4, 1) := by decide +kernel
theorem dX10_noDepth_4 : decode cX10_noDepth 4 = .ok (.invokestatic 132, 3) := by decide +kernel
theorem dX10_noDepth_7 : decode cX10_noDepth 7 = .ok (.ifCond .ne 7, 3) := by decide +kernel
theorem dX10_noDepth_10 : decode cX10_noDepth 10 = .ok (.iconst 1, 1) := by decide +kernel
theorem dX10_noDepth_11 : decode cX10_noDepth 11 = .ok (.goto 4, 3) := by decide +kernel
theorem dX10_noDepth_14 : decode cX10_noDepth 14 = .ok (.iconst 0, 1) := by decide +kernel
theorem dX10_noDepth_15 : decode cX10_noDepth 15 = .ok (.iload_n 2, 1) := by decide +kernel
theorem dX10_noDepth_16 : decode cX10_noDepth 16 = .ok (.invokevirtual 264, 3) := by decide +kernel
theorem dX10_noDepth_19 : decode cX10_noDepth 19 = .ok (.ireturn, 1) := by decide +kernel
theorem dX10_reach_0 : decode cX10_reach 0 = .ok (.aload_n 0, 1) := by decide +kernel
theorem dX10_reach_1 : decode cX10_reach 1 = .ok (.iconst 0, 1) := by decide +kernel
theorem dX10_reach_2 : decode cX10_reach 2 = .ok (.putfield 100, 3) := by decide +kernel
theorem dX10_reach_5 : decode cX10_reach 5 = .ok (.aload_n 0, 1) := by decide +kernel
theorem dX10_reach_6 : decode cX10_reach 6 = .ok (.iload_n 1, 1) := by decide +kernel
theorem dX10_reach_7 : decode cX10_reach 7 = .ok (.invokevirtual 371, 3) := by decide +kernel
theorem dX10_reach_10 : decode cX10_reach 10 = .ok (.ifCond .ne 23, 3) := by decide +kernel
theorem dX10_reach_13 : decode cX10_reach 13 = .ok (.aload_n 0, 1) := by decide +kernel
theorem dX10_reach_14 : decode cX10_reach 14 = .ok (.iload_n 2, 1) := by decide +kernel
theorem dX10_reach_15 : decode cX10_reach 15 = .ok (.iconst 2, 1) := by decide +kernel
theorem dX10_reach_16 : decode cX10_reach 16 = .ok (.invokevirtual 425, 3) := by decide +kernel
theorem dX10_reach_19 : decode cX10_reach 19 = .ok (.ifCond .ne 14, 3) := by decide +kernel
theorem dX10_reach_22 : decode cX10_reach 22 = .ok (.aload_n 0, 1) := by decide +kernel
theorem dX10_reach_23 : decode cX10_reach 23 = .ok (.iload_n 1, 1) := by decide +kernel
theorem dX10_reach_24 : decode cX10_reach 24 = .ok (.iload_n 2, 1) := by decide +kernel
theorem dX10_reach_25 : decode cX10_reach 25 = .ok (.iload_n 3, 1) := by decide +kernel
theorem dX10_reach_26 : decode cX10_reach 26 = .ok (.iconst 3, 1) := by decide +kernel
theorem dX10_reach_27 : decode cX10_reach 27 = .ok (.invokevirtual 428, 3) := by decide +kernel
theorem dX10_reach_30 : decode cX10_reach 30 = .ok (.ifCond .ne 5, 3) := by decide +kernel
theorem dX10_reach_33 : decode cX10_reach 33 = .ok (.iconst 0, 1) := by decide +kernel
theorem dX10_reach_34 : decode cX10_reach 34 = .ok (.ireturn, 1) := by decide +kernel
theorem dX10_reach_35 : decode cX10_reach 35 = .ok (.iconst 0, 1) := by decide +kernel
theorem dX10_reach_36 : decode cX10_reach 36 = .ok (.istore 4, 2) := by decide +kernel
theorem dX10_reach_38 : decode cX10_reach 38 = .ok (.iconst 0, 1) := by decide +kernel
theorem dX10_reach_39 : decode cX10_reach 39 = .ok (.istore 5, 2) := by decide +kernel
theorem dX10_reach_41 : decode cX10_reach 41 = .ok (.iload 5, 2) := by decide +kernel
theorem dX10_reach_43 : decode cX10_reach 43 = .ok (.aload_n 0, 1) := by decide +kernel
theorem dX10_reach_44 : decode cX10_reach 44 = .ok (.getfield 94, 3) := by decide +kernel
theorem dX10_reach_47 : decode cX10_reach 47 = .ok (.iconst 0, 1) := by decide +kernel
theorem dX10_reach_48 : decode cX10_reach 48 = .ok (.iaload, 1) := by decide +kernel
theorem dX10_reach_49 : decode cX10_reach 49 = .ok (.if_icmp .ge 28, 3) := by decide +kernel
theorem dX10_reach_52 : decode cX10_reach 52 = .ok (.iload 4, 2) := by decide +kernel
theorem dX10_reach_54 : decode cX10_reach 54 = .ok (.aload_n 0, 1) := by decide +kernel
theorem dX10_reach_55 : decode cX10_reach 55 = .ok (.iload 5, 2) := by decide +kernel
theorem dX10_reach_57 : decode cX10_reach 57 = .ok (.invokevirtual 432, 3) := by decide +kernel
theorem dX10_reach_60 : decode cX10_reach 60 = .ok (.ifCond .eq 7, 3) := by decide +kernel
theorem dX10_reach_63 : decode cX10_reach 63 = .ok (.iconst 1, 1) := by decide +kernel
theorem dX10_reach_64 : decode cX10_reach 64 = .ok (.goto 4, 3) := by decide +kernel
theorem dX10_reach_67 : decode cX10_reach 67 = .ok (.iconst 0, 1) := by decide +kernel
theorem dX10_reach_68 : decode cX10_reach 68 = .ok (.iadd, 1) := by decide +kernel
theorem dX10_reach_69 : decode cX10_reach 69 = .ok (.istore 4, 2) := by decide +kernel
theorem dX10_reach_71 : decode cX10_reach 71 = .ok (.iinc 5 1, 3) := by decide +kernel
theorem dX10_reach_74 : decode cX10_reach 74 = .ok (.goto (-33), 3) := by decide +kernel
theorem dX10_reach_77 : decode cX10_reach 77 = .ok (.iload 4, 2) := by decide +kernel
theorem dX10_reach_79 : decode cX10_reach 79 = .ok (.ireturn, 1) := by decide +kernel
theorem dX10_reached_0 : decode cX10_reached 0 = .ok (.aload_n 0, 1) := by decide +kernel
theorem dX10_reached_1 : decode cX10_reached 1 = .ok (.iconst 0, 1) := by decide +kernel
theorem dX10_reached_2 : decode cX10_reached 2 = .ok (.putfield 100, 3) := by decide +kernel
theorem dX10_reached_5 : decode cX10_reached 5 = .ok (.aload_n 0, 1) := by decide +kernel
theorem dX10_reached_6 : decode cX10_reached 6 = .ok (.iload_n 1, 1) := by decide +kernel
theorem dX10_reached_7 : decode cX10_reached 7 = .ok (.invokevirtual 371, 3) := by decide +kernel
theorem dX10_reached_10 : decode cX10_reached 10 = .ok (.ifCond .ne 23, 3) := by decide +kernel
theorem dX10_reached_13 : decode cX10_reached 13 = .ok (.aload_n 0, 1) := by decide +kernel
theorem dX10_reached_14 : decode cX10_reached 14 = .ok (.iload_n 2, 1) := by decide +kernel
theorem dX10_reached_15 : decode cX10_reached 15 = .ok (.iconst 2, 1) := by decide +kernel
theorem dX10_reached_16 : decode cX10_reached 16 = .ok (.invokevirtual 425, 3) := by decide +kernel
theorem dX10_reached_19 : decode cX10_reached 19 = .ok (.ifCond .ne 14, 3) := by decide +kernel
theorem dX10_reached_22 : decode cX10_reached 22 = .ok (.aload_n 0, 1) := by decide +kernel
theorem dX10_reached_23 : decode cX10_reached 23 = .ok (.iload_n 1, 1) := by decide +kernel
theorem dX10_reached_24 : decode cX10_reached 24 = .ok (.iload_n 2, 1) := by decide +kernel
theorem dX10_reached_25 : decode cX10_reached 25 = .ok (.iload_n 3, 1) := by decide +kernel
theorem dX10_reached_26 : decode cX10_reached 26 = .ok (.iconst 4, 1) := by decide +kernel
theorem dX10_reached_27 : decode cX10_reached 27 = .ok (.invokevirtual 428, 3) := by decide +kernel
theorem dX10_reached_30 : decode cX10_reached 30 = .ok (.ifCond .ne 5, 3) := by decide +kernel
theorem dX10_reached_33 : decode cX10_reached 33 = .ok (.iconst 0, 1) := by decide +kernel
theorem dX10_reached_34 : decode cX10_reached 34 = .ok (.ireturn, 1) := by decide +kernel
theorem dX10_reached_35 : decode cX10_reached 35 = .ok (.iconst 0, 1) := by decide +kernel
theorem dX10_reached_36 : decode cX10_reached 36 = .ok (.istore 5, 2) := by decide +kernel
theorem dX10_reached_38 : decode cX10_reached 38 = .ok (.iload 5, 2) := by decide +kernel
theorem dX10_reached_40 : decode cX10_reached 40 = .ok (.aload_n 0, 1) := by decide +kernel
theorem dX10_reached_41 : decode cX10_reached 41 = .ok (.getfield 94, 3) := by decide +kernel
theorem dX10_reached_44 : decode cX10_reached 44 = .ok (.iconst 0, 1) := by decide +kernel
theorem dX10_reached_45 : decode cX10_reached 45 = .ok (.iaload, 1) := by decide +kernel
theorem dX10_reached_46 : decode cX10_reached 46 = .ok (.if_icmp .ge 117, 3) := by decide +kernel
theorem dX10_reached_49 : decode cX10_reached 49 = .ok (.aload_n 0, 1) := by decide +kernel
theorem dX10_reached_50 : decode cX10_reached 50 = .ok (.iload 5, 2) := by decide +kernel
theorem dX10_reached_52 : decode cX10_reached 52 = .ok (.invokevirtual 432, 3) := by decide +kernel
theorem dX10_reached_55 : decode cX10_reached 55 = .ok (.ifCond .ne 6, 3) := by decide +kernel
theorem dX10_reached_58 : decode cX10_reached 58 = .ok (.goto 99, 3) := by decide +kernel
theorem dX10_reached_61 : decode cX10_reached 61 = .ok (.aload_n 0, 1) := by decide +kernel
theorem dX10_reached_62 : decode cX10_reached 62 = .ok (.iconst 0, 1) := by decide +kernel
theorem dX10_reached_63 : decode cX10_reached 63 = .ok (.putfield 178, 3) := by decide +kernel
theorem dX10_reached_66 : decode cX10_reached 66 = .ok (.aload_n 0, 1) := by decide +kernel
theorem dX10_reached_67 : decode cX10_reached 67 = .ok (.iconst 0, 1) := by decide +kernel
theorem dX10_reached_68 : decode cX10_reached 68 = .ok (.iload 5, 2) := by decide +kernel
theorem dX10_reached_70 : decode cX10_reached 70 = .ok (.invokevirtual 410, 3) := by decide +kernel
theorem dX10_reached_73 : decode cX10_reached 73 = .ok (.istore 6, 2) := by decide +kernel
theorem dX10_reached_75 : decode cX10_reached 75 = .ok (.iconst 0, 1) := by decide +kernel
theorem dX10_reached_76 : decode cX10_reached 76 = .ok (.istore 7, 2) := by decide +kernel
theorem dX10_reached_78 : decode cX10_reached 78 = .ok (.iconst 0, 1) := by decide +kernel
theorem dX10_reached_79 : decode cX10_reached 79 = .ok (.istore 8, 2) := by decide +kernel
theorem dX10_reached_81 : decode cX10_reached 81 = .ok (.iload 8, 2) := by decide +kernel
theorem dX10_reached_83 : decode cX10_reached 83 = .ok (.aload_n 0, 1) := by decide +kernel
theorem dX10_reached_84 : decode cX10_reached 84 = .ok (.getfield 94, 3) := by decide +kernel
theorem dX10_reached_87 : decode cX10_reached 87 = .ok (.iconst 0, 1) := by decide +kernel
theorem dX10_reached_88 : decode cX10_reached 88 = .ok (.iaload, 1) := by decide +kernel
theorem dX10_reached_89 : decode cX10_reached 89 = .ok (.if_icmp .ge 54, 3) := by decide +kernel
theorem dX10_reached_92 : decode cX10_reached 92 = .ok (.aload_n 0, 1) := by decide +kernel
theorem dX10_reached_93 : decode cX10_reached 93 = .ok (.iconst 0, 1) := by decide +kernel
theorem dX10_reached_94 : decode cX10_reached 94 = .ok (.iload 8, 2) := by decide +kernel
theorem dX10_reached_96 : decode cX10_reached 96 = .ok (.invokevirtual 410, 3) := by decide +kernel
theorem dX10_reached_99 : decode cX10_reached 99 = .ok (.istore 9, 2) := by decide +kernel
theorem dX10_reached_101 : decode cX10_reached 101 = .ok (.iload 7, 2) := by decide +kernel
theorem dX10_reached_103 : decode cX10_reached 103 = .ok (.aload_n 0, 1) := by decide +kernel
theorem dX10_reached_104 : decode cX10_reached 104 = .ok (.iload 8, 2) := by decide +kernel
theorem dX10_reached_106 : decode cX10_reached 106 = .ok (.invokevirtual 432, 3) := by decide +kernel
theorem dX10_reached_109 : decode cX10_reached 109 = .ok (.ifCond .eq 18, 3) := by decide +kernel
theorem dX10_reached_112 : decode cX10_reached 112 = .ok (.aload_n 0, 1) := by decide +kernel
theorem dX10_reached_113 : decode cX10_reached 113 = .ok (.iload 9, 2) := by decide +kernel
theorem dX10_reached_115 : decode cX10_reached 115 = .ok (.iload 6, 2) := by decide +kernel
theorem dX10_reached_117 : decode cX10_reached 117 = .ok (.invokevirtual 216, 3) := by decide +kernel
theorem dX10_reached_120 : decode cX10_reached 120 = .ok (.ifCond .ge 7, 3) := by decide +kernel
theorem dX10_reached_123 : decode cX10_reached 123 = .ok (.iconst 1, 1) := by decide +kernel
theorem dX10_reached_124 : decode cX10_reached 124 = .ok (.goto 4, 3) := by decide +kernel
theorem dX10_reached_127 : decode cX10_reached 127 = .ok (.iconst 0, 1) := by decide +kernel
theorem dX10_reached_128 : decode cX10_reached 128 = .ok (.iadd, 1) := by decide +kernel
theorem dX10_reached_129 : decode cX10_reached 129 = .ok (.istore 7, 2) := by decide +kernel
theorem dX10_reached_131 : decode cX10_reached 131 = .ok (.aload_n 0, 1) := by decide +kernel
theorem dX10_reached_132 : decode cX10_reached 132 = .ok (.iload 9, 2) := by decide +kernel
theorem dX10_reached_134 : decode cX10_reached 134 = .ok (.putfield 178, 3) := by decide +kernel
theorem dX10_reached_137 : decode cX10_reached 137 = .ok (.iinc 8 1, 3) := by decide +kernel
theorem dX10_reached_140 : decode cX10_reached 140 = .ok (.goto (-59), 3) := by decide +kernel
theorem dX10_reached_143 : decode cX10_reached 143 = .ok (.iload 7, 2) := by decide +kernel
theorem dX10_reached_145 : decode cX10_reached 145 = .ok (.iload 4, 2) := by decide +kernel
theorem dX10_reached_147 : decode cX10_reached 147 = .ok (.if_icmp .ne 10, 3) := by decide +kernel
theorem dX10_reached_150 : decode cX10_reached 150 = .ok (.aload_n 0, 1) := by decide +kernel
theorem dX10_reached_151 : decode cX10_reached 151 = .ok (.iload 6, 2) := by decide +kernel
theorem dX10_reached_153 : decode cX10_reached 153 = .ok (.invokevirtual 377, 3) := by decide +kernel
theorem dX10_reached_156 : decode cX10_reached 156 = .ok (.ireturn, 1) := by decide +kernel
theorem dX10_reached_157 : decode cX10_reached 157 = .ok (.iinc 5 1, 3) := by decide +kernel
theorem dX10_reached_160 : decode cX10_reached 160 = .ok (.goto (-122), 3) := by decide +kernel
theorem dX10_reached_163 : decode cX10_reached 163 = .ok (.aload_n 0, 1) := by decide +kernel
theorem dX10_reached_164 : decode cX10_reached 164 = .ok (.iconst 3, 1) := by decide +kernel
theorem dX10_reached_165 : decode cX10_reached 165 = .ok (.putfield 100, 3) := by decide +kernel
theorem dX10_reached_168 : decode cX10_reached 168 = .ok (.iconst 0, 1) := by decide +kernel
theorem dX10_reached_169 : decode cX10_reached 169 = .ok (.ireturn, 1) := by decide +kernel
theorem dX10_doMeet_0 : decode cX10_doMeet 0 = .ok (.aload_n 0, 1) := by decide +kernel
theorem dX10_doMeet_1 : decode cX10_doMeet 1 = .ok (.iconst 0, 1) := by decide +kernel
theorem dX10_doMeet_2 : decode cX10_doMeet 2 = .ok (.putfield 178, 3) := by decide +kernel
theorem dX10_doMeet_5 : decode cX10_doMeet 5 = .ok (.iconst 0, 1) := by decide +kernel
theorem dX10_doMeet_6 : decode cX10_doMeet 6 = .ok (.istore_n 1, 1) := by decide +kernel
theorem dX10_doMeet_7 : decode cX10_doMeet 7 = .ok (.iload_n 1, 1) := by decide +kernel
theorem dX10_doMeet_8 : decode cX10_doMeet 8 = .ok (.aload_n 0, 1) := by decide +kernel
theorem dX10_doMeet_9 : decode cX10_doMeet 9 = .ok (.getfield 94, 3) := by decide +kernel
theorem dX10_doMeet_12 : decode cX10_doMeet 12 = .ok (.iconst 0, 1) := by decide +kernel
theorem dX10_doMeet_13 : decode cX10_doMeet 13 = .ok (.iaload, 1) := by decide +kernel
theorem dX10_doMeet_14 : decode cX10_doMeet 14 = .ok (.if_icmp .ge 32, 3) := by decide +kernel
theorem dX10_doMeet_17 : decode cX10_doMeet 17 = .ok (.aload_n 0, 1) := by decide +kernel
theorem dX10_doMeet_18 : decode cX10_doMeet 18 = .ok (.iconst 1, 1) := by decide +kernel
theorem dX10_doMeet_19 : decode cX10_doMeet 19 = .ok (.aload_n 0, 1) := by decide +kernel
theorem dX10_doMeet_20 : decode cX10_doMeet 20 = .ok (.iconst 0, 1) := by decide +kernel
theorem dX10_doMeet_21 : decode cX10_doMeet 21 = .ok (.iload_n 1, 1) := by decide +kernel
theorem dX10_doMeet_22 : decode cX10_doMeet 22 = .ok (.invokevirtual 410, 3) := by decide +kernel
theorem dX10_doMeet_25 : decode cX10_doMeet 25 = .ok (.invokevirtual 407, 3) := by decide +kernel
theorem dX10_doMeet_28 : decode cX10_doMeet 28 = .ok (.istore_n 2, 1) := by decide +kernel
theorem dX10_doMeet_29 : decode cX10_doMeet 29 = .ok (.aload_n 0, 1) := by decide +kernel
theorem dX10_doMeet_30 : decode cX10_doMeet 30 = .ok (.iconst 0, 1) := by decide +kernel
theorem dX10_doMeet_31 : decode cX10_doMeet 31 = .ok (.putfield 178, 3) := by decide +kernel
theorem dX10_doMeet_34 : decode cX10_doMeet 34 = .ok (.iload_n 2, 1) := by decide +kernel
theorem dX10_doMeet_35 : decode cX10_doMeet 35 = .ok (.ifCond .eq 5, 3) := by decide +kernel
theorem dX10_doMeet_38 : decode cX10_doMeet 38 = .ok (.iconst 1, 1) := by decide +kernel
theorem dX10_doMeet_39 : decode cX10_doMeet 39 = .ok (.ireturn, 1) := by decide +kernel
theorem dX10_doMeet_40 : decode cX10_doMeet 40 = .ok (.iinc 1 1, 3) := by decide +kernel
theorem dX10_doMeet_43 : decode cX10_doMeet 43 = .ok (.goto (-36), 3) := by decide +kernel
theorem dX10_doMeet_46 : decode cX10_doMeet 46 = .ok (.iconst 0, 1) := by decide +kernel
theorem dX10_doMeet_47 : decode cX10_doMeet 47 = .ok (.ireturn, 1) := by decide +kernel
theorem dX10_meet_0 : decode cX10_meet 0 = .ok (.aload_n 0, 1) := by decide +kernel
theorem dX10_meet_1 : decode cX10_meet 1 = .ok (.iconst 0, 1) := by decide +kernel
theorem dX10_meet_2 : decode cX10_meet 2 = .ok (.putfield 100, 3) := by decide +kernel
theorem dX10_meet_5 : decode cX10_meet 5 = .ok (.aload_n 0, 1) := by decide +kernel
theorem dX10_meet_6 : decode cX10_meet 6 = .ok (.iload_n 1, 1) := by decide +kernel
theorem dX10_meet_7 : decode cX10_meet 7 = .ok (.invokevirtual 371, 3) := by decide +kernel
theorem dX10_meet_10 : decode cX10_meet 10 = .ok (.ifCond .ne 20, 3) := by decide +kernel
theorem dX10_meet_13 : decode cX10_meet 13 = .ok (.aload_n 0, 1) := by decide +kernel
theorem dX10_meet_14 : decode cX10_meet 14 = .ok (.iload_n 2, 1) := by decide +kernel
theorem dX10_meet_15 : decode cX10_meet 15 = .ok (.invokevirtual 371, 3) := by decide +kernel
theorem dX10_meet_18 : decode cX10_meet 18 = .ok (.ifCond .ne 12, 3) := by decide +kernel
theorem dX10_meet_21 : decode cX10_meet 21 = .ok (.aload_n 0, 1) := by decide +kernel
theorem dX10_meet_22 : decode cX10_meet 22 = .ok (.iload_n 3, 1) := by decide +kernel
theorem dX10_meet_23 : decode cX10_meet 23 = .ok (.iconst 2, 1) := by decide +kernel
theorem dX10_meet_24 : decode cX10_meet 24 = .ok (.invokevirtual 425, 3) := by decide +kernel
theorem dX10_meet_27 : decode cX10_meet 27 = .ok (.ifCond .eq 5, 3) := by decide +kernel
theorem dX10_meet_30 : decode cX10_meet 30 = .ok (.iconst 0, 1) := by decide +kernel
theorem dX10_meet_31 : decode cX10_meet 31 = .ok (.ireturn, 1) := by decide +kernel
theorem dX10_meet_32 : decode cX10_meet 32 = .ok (.aload_n 0, 1) := by decide +kernel
theorem dX10_meet_33 : decode cX10_meet 33 = .ok (.iconst 0, 1) := by decide +kernel
theorem dX10_meet_34 : decode cX10_meet 34 = .ok (.iload_n 1, 1) := by decide +kernel
theorem dX10_meet_35 : decode cX10_meet 35 = .ok (.invokevirtual 413, 3) := by decide +kernel
theorem dX10_meet_38 : decode cX10_meet 38 = .ok (.aload_n 0, 1) := by decide +kernel
theorem dX10_meet_39 : decode cX10_meet 39 = .ok (.iconst 1, 1) := by decide +kernel
theorem dX10_meet_40 : decode cX10_meet 40 = .ok (.iload_n 2, 1) := by decide +kernel
theorem dX10_meet_41 : decode cX10_meet 41 = .ok (.invokevirtual 413, 3) := by decide +kernel
theorem dX10_meet_44 : decode cX10_meet 44 = .ok (.iconst 0, 1) := by decide +kernel
theorem dX10_meet_45 : decode cX10_meet 45 = .ok (.istore 4, 2) := by decide +kernel
theorem dX10_meet_47 : decode cX10_meet 47 = .ok (.iload 4, 2) := by decide +kernel
theorem dX10_meet_49 : decode cX10_meet 49 = .ok (.iload_n 3, 1) := by decide +kernel
theorem dX10_meet_50 : decode cX10_meet 50 = .ok (.if_icmp .gt 47, 3) := by decide +kernel
theorem dX10_meet_53 : decode cX10_meet 53 = .ok (.aload_n 0, 1) := by decide +kernel
theorem dX10_meet_54 : decode cX10_meet 54 = .ok (.invokevirtual 435, 3) := by decide +kernel
theorem dX10_meet_57 : decode cX10_meet 57 = .ok (.ifCond .eq 6, 3) := by decide +kernel
theorem dX10_meet_60 : decode cX10_meet 60 = .ok (.iload 4, 2) := by decide +kernel
theorem dX10_meet_62 : decode cX10_meet 62 = .ok (.ireturn, 1) := by decide +kernel
theorem dX10_meet_63 : decode cX10_meet 63 = .ok (.iload 4, 2) := by decide +kernel
theorem dX10_meet_65 : decode cX10_meet 65 = .ok (.iload_n 3, 1) := by decide +kernel
theorem dX10_meet_66 : decode cX10_meet 66 = .ok (.if_icmp .ne 5, 3) := by decide +kernel
theorem dX10_meet_69 : decode cX10_meet 69 = .ok (.iconst (-1), 1) := by decide +kernel
theorem dX10_meet_70 : decode cX10_meet 70 = .ok (.ireturn, 1) := by decide +kernel
theorem dX10_meet_71 : decode cX10_meet 71 = .ok (.aload_n 0, 1) := by decide +kernel
theorem dX10_meet_72 : decode cX10_meet 72 = .ok (.iconst 0, 1) := by decide +kernel
theorem dX10_meet_73 : decode cX10_meet 73 = .ok (.invokevirtual 416, 3) := by decide +kernel
theorem dX10_meet_76 : decode cX10_meet 76 = .ok (.aload_n 0, 1) := by decide +kernel
theorem dX10_meet_77 : decode cX10_meet 77 = .ok (.iconst 1, 1) := by decide +kernel
theorem dX10_meet_78 : decode cX10_meet 78 = .ok (.invokevirtual 416, 3) := by decide +kernel
theorem dX10_meet_81 : decode cX10_meet 81 = .ok (.aload_n 0, 1) := by decide +kernel
theorem dX10_meet_82 : decode cX10_meet 82 = .ok (.iconst 3, 1) := by decide +kernel
theorem dX10_meet_83 : decode cX10_meet 83 = .ok (.invokevirtual 380, 3) := by decide +kernel
theorem dX10_meet_86 : decode cX10_meet 86 = .ok (.ifCond .eq 5, 3) := by decide +kernel
theorem dX10_meet_89 : decode cX10_meet 89 = .ok (.iconst 0, 1) := by decide +kernel
theorem dX10_meet_90 : decode cX10_meet 90 = .ok (.ireturn, 1) := by decide +kernel
theorem dX10_meet_91 : decode cX10_meet 91 = .ok (.iinc 4 1, 3) := by decide +kernel
theorem dX10_meet_94 : decode cX10_meet 94 = .ok (.goto (-47), 3) := by decide +kernel
theorem dX10_meet_97 : decode cX10_meet 97 = .ok (.iconst (-1), 1) := by decide +kernel
theorem dX10_meet_98 : decode cX10_meet 98 = .ok (.ireturn, 1) := by decide +kernel
theorem dX10_termsWith_0 : decode cX10_termsWith 0 = .ok (.iconst 0, 1) := by decide +kernel
theorem dX10_termsWith_1 : decode cX10_termsWith 1 = .ok (.istore_n 2, 1) := by decide +kernel
theorem dX10_termsWith_2 : decode cX10_termsWith 2 = .ok (.iconst 0, 1) := by decide +kernel
theorem dX10_termsWith_3 : decode cX10_termsWith 3 = .ok (.istore_n 3, 1) := by decide +kernel
theorem dX10_termsWith_4 : decode cX10_termsWith 4 = .ok (.iload_n 3, 1) := by decide +kernel
theorem dX10_termsWith_5 : decode cX10_termsWith 5 = .ok (.aload_n 0, 1) := by decide +kernel
theorem dX10_termsWith_6 : decode cX10_termsWith 6 = .ok (.getfield 196, 3) := by decide +kernel
theorem dX10_termsWith_9 : decode cX10_termsWith 9 = .ok (.if_icmp .ge 35, 3) := by decide +kernel
theorem dX10_termsWith_12 : decode cX10_termsWith 12 = .ok (.iload_n 2, 1) := by decide +kernel
theorem dX10_termsWith_13 : decode cX10_termsWith 13 = .ok (.aload_n 0, 1) := by decide +kernel
theorem dX10_termsWith_14 : decode cX10_termsWith 14 = .ok (.aload_n 0, 1) := by decide +kernel
theorem dX10_termsWith_15 : decode cX10_termsWith 15 = .ok (.iload_n 3, 1) := by decide +kernel
theorem dX10_termsWith_16 : decode cX10_termsWith 16 = .ok (.invokevirtual 374, 3) := by decide +kernel
theorem dX10_termsWith_19 : decode cX10_termsWith 19 = .ok (.invokevirtual 438, 3) := by decide +kernel
theorem dX10_termsWith_22 : decode cX10_termsWith 22 = .ok (.iload_n 1, 1) := by decide +kernel
theorem dX10_termsWith_23 : decode cX10_termsWith 23 = .ok (.invokestatic 281, 3) := by decide +kernel
theorem dX10_termsWith_26 : decode cX10_termsWith 26 = .ok (.ifCond .eq 9, 3) := by decide +kernel
theorem dX10_termsWith_29 : decode cX10_termsWith 29 = .ok (.iconst 1, 1) := by decide +kernel
theorem dX10_termsWith_30 : decode cX10_termsWith 30 = .ok (.iload_n 3, 1) := by decide +kernel
theorem dX10_termsWith_31 : decode cX10_termsWith 31 = .ok (.ishl, 1) := by decide +kernel
theorem dX10_termsWith_32 : decode cX10_termsWith 32 = .ok (.goto 4, 3) := by decide +kernel
theorem dX10_termsWith_35 : decode cX10_termsWith 35 = .ok (.iconst 0, 1) := by decide +kernel
theorem dX10_termsWith_36 : decode cX10_termsWith 36 = .ok (.ior, 1) := by decide +kernel
theorem dX10_termsWith_37 : decode cX10_termsWith 37 = .ok (.istore_n 2, 1) := by decide +kernel
theorem dX10_termsWith_38 : decode cX10_termsWith 38 = .ok (.iinc 3 1, 3) := by decide +kernel
theorem dX10_termsWith_41 : decode cX10_termsWith 41 = .ok (.goto (-37), 3) := by decide +kernel
theorem dX10_termsWith_44 : decode cX10_termsWith 44 = .ok (.iload_n 2, 1) := by decide +kernel
theorem dX10_termsWith_45 : decode cX10_termsWith 45 = .ok (.ireturn, 1) := by decide +kernel
theorem dX10_operator_0 : decode cX10_operator 0 = .ok (.aload_n 0, 1) := by decide +kernel
theorem dX10_operator_1 : decode cX10_operator 1 = .ok (.iconst 0, 1) := by decide +kernel
theorem dX10_operator_2 : decode cX10_operator 2 = .ok (.putfield 100, 3) := by decide +kernel
theorem dX10_operator_5 : decode cX10_operator 5 = .ok (.aload_n 0, 1) := by decide +kernel
theorem dX10_operator_6 : decode cX10_operator 6 = .ok (.iload_n 1, 1) := by decide +kernel
theorem dX10_operator_7 : decode cX10_operator 7 = .ok (.invokevirtual 386, 3) := by decide +kernel
theorem dX10_operator_10 : decode cX10_operator 10 = .ok (.ifCond .ne 25, 3) := by decide +kernel
theorem dX10_operator_13 : decode cX10_operator 13 = .ok (.aload_n 0, 1) := by decide +kernel
theorem dX10_operator_14 : decode cX10_operator 14 = .ok (.iload_n 2, 1) := by decide +kernel
theorem dX10_operator_15 : decode cX10_operator 15 = .ok (.iconst 0, 1) := by decide +kernel
theorem dX10_operator_16 : decode cX10_operator 16 = .ok (.iconst 3, 1) := by decide +kernel
theorem dX10_operator_17 : decode cX10_operator 17 = .ok (.invokestatic 132, 3) := by decide +kernel
theorem dX10_operator_20 : decode cX10_operator 20 = .ok (.ifCond .ne 7, 3) := by decide +kernel
theorem dX10_operator_23 : decode cX10_operator 23 = .ok (.iconst 1, 1) := by decide +kernel
theorem dX10_operator_24 : decode cX10_operator 24 = .ok (.goto 4, 3) := by decide +kernel
theorem dX10_operator_27 : decode cX10_operator 27 = .ok (.iconst 0, 1) := by decide +kernel
theorem dX10_operator_28 : decode cX10_operator 28 = .ok (.iconst 2, 1) := by decide +kernel
theorem dX10_operator_29 : decode cX10_operator 29 = .ok (.invokevirtual 264, 3) := by decide +kernel
theorem dX10_operator_32 : decode cX10_operator 32 = .ok (.ifCond .eq 5, 3) := by decide +kernel
theorem dX10_operator_35 : decode cX10_operator 35 = .ok (.iconst 0, 1) := by decide +kernel
theorem dX10_operator_36 : decode cX10_operator 36 = .ok (.ireturn, 1) := by decide +kernel
theorem dX10_operator_37 : decode cX10_operator 37 = .ok (.iload_n 2, 1) := by decide +kernel
theorem dX10_operator_38 : decode cX10_operator 38 = .ok (.ifCond .ne 12, 3) := by decide +kernel
theorem dX10_operator_41 : decode cX10_operator 41 = .ok (.aload_n 0, 1) := by decide +kernel
theorem dX10_operator_42 : decode cX10_operator 42 = .ok (.getfield 33, 3) := by decide +kernel
theorem dX10_operator_45 : decode cX10_operator 45 = .ok (.iload_n 1, 1) := by decide +kernel
theorem dX10_operator_46 : decode cX10_operator 46 = .ok (.iaload, 1) := by decide +kernel
theorem dX10_operator_47 : decode cX10_operator 47 = .ok (.goto 50, 3) := by decide +kernel
theorem dX10_operator_50 : decode cX10_operator 50 = .ok (.iload_n 2, 1) := by decide +kernel
theorem dX10_operator_51 : decode cX10_operator 51 = .ok (.iconst 1, 1) := by decide +kernel
theorem dX10_operator_52 : decode cX10_operator 52 = .ok (.if_icmp .ne 12, 3) := by decide +kernel
theorem dX10_operator_55 : decode cX10_operator 55 = .ok (.aload_n 0, 1) := by decide +kernel
theorem dX10_operator_56 : decode cX10_operator 56 = .ok (.getfield 36, 3) := by decide +kernel
theorem dX10_operator_59 : decode cX10_operator 59 = .ok (.iload_n 1, 1) := by decide +kernel
theorem dX10_operator_60 : decode cX10_operator 60 = .ok (.iaload, 1) := by decide +kernel
theorem dX10_operator_61 : decode cX10_operator 61 = .ok (.goto 36, 3) := by decide +kernel
theorem dX10_operator_64 : decode cX10_operator 64 = .ok (.iload_n 2, 1) := by decide +kernel
theorem dX10_operator_65 : decode cX10_operator 65 = .ok (.iconst 2, 1) := by decide +kernel
theorem dX10_operator_66 : decode cX10_operator 66 = .ok (.if_icmp .ne 26, 3) := by decide +kernel
theorem dX10_operator_69 : decode cX10_operator 69 = .ok (.aload_n 0, 1) := by decide +kernel
theorem dX10_operator_70 : decode cX10_operator 70 = .ok (.getfield 33, 3) := by decide +kernel
theorem dX10_operator_73 : decode cX10_operator 73 = .ok (.iload_n 1, 1) := by decide +kernel
theorem dX10_operator_74 : decode cX10_operator 74 = .ok (.iaload, 1) := by decide +kernel
theorem dX10_operator_75 : decode cX10_operator 75 = .ok (.iconst 2, 1) := by decide +kernel
theorem dX10_operator_76 : decode cX10_operator 76 = .ok (.if_icmp .ne 12, 3) := by decide +kernel
theorem dX10_operator_79 : decode cX10_operator 79 = .ok (.aload_n 0, 1) := by decide +kernel
theorem dX10_operator_80 : decode cX10_operator 80 = .ok (.getfield 39, 3) := by decide +kernel
theorem dX10_operator_83 : decode cX10_operator 83 = .ok (.iload_n 1, 1) := by decide +kernel
theorem dX10_operator_84 : decode cX10_operator 84 = .ok (.iaload, 1) := by decide +kernel
theorem dX10_operator_85 : decode cX10_operator 85 = .ok (.goto 12, 3) := by decide +kernel
theorem dX10_operator_88 : decode cX10_operator 88 = .ok (.iconst (-1), 1) := by decide +kernel
theorem dX10_operator_89 : decode cX10_operator 89 = .ok (.goto 8, 3) := by decide +kernel
theorem dX10_operator_92 : decode cX10_operator 92 = .ok (.aload_n 0, 1) := by decide +kernel
theorem dX10_operator_93 : decode cX10_operator 93 = .ok (.iload_n 1, 1) := by decide +kernel
theorem dX10_operator_94 : decode cX10_operator 94 = .ok (.invokevirtual 441, 3) := by decide +kernel
theorem dX10_operator_97 : decode cX10_operator 97 = .ok (.ireturn, 1) := by decide +kernel
theorem dX10_deepAt_0 : decode cX10_deepAt 0 = .ok (.aload_n 0, 1) := by decide +kernel
theorem dX10_deepAt_1 : decode cX10_deepAt 1 = .ok (.iload_n 1, 1) := by decide +kernel
theorem dX10_deepAt_2 : decode cX10_deepAt 2 = .ok (.invokevirtual 209, 3) := by decide +kernel
theorem dX10_deepAt_5 : decode cX10_deepAt 5 = .ok (.istore_n 2, 1) := by decide +kernel
theorem dX10_deepAt_6 : decode cX10_deepAt 6 = .ok (.iconst (-1), 1) := by decide +kernel
theorem dX10_deepAt_7 : decode cX10_deepAt 7 = .ok (.istore_n 3, 1) := by decide +kernel
theorem dX10_deepAt_8 : decode cX10_deepAt 8 = .ok (.iload_n 1, 1) := by decide +kernel
theorem dX10_deepAt_9 : decode cX10_deepAt 9 = .ok (.iconst 1, 1) := by decide +kernel
theorem dX10_deepAt_10 : decode cX10_deepAt 10 = .ok (.iadd, 1) := by decide +kernel
theorem dX10_deepAt_11 : decode cX10_deepAt 11 = .ok (.istore 4, 2) := by decide +kernel
theorem dX10_deepAt_13 : decode cX10_deepAt 13 = .ok (.iconst 0, 1) := by decide +kernel
theorem dX10_deepAt_14 : decode cX10_deepAt 14 = .ok (.istore 5, 2) := by decide +kernel
theorem dX10_deepAt_16 : decode cX10_deepAt 16 = .ok (.iload 5, 2) := by decide +kernel
theorem dX10_deepAt_18 : decode cX10_deepAt 18 = .ok (.iload_n 2, 1) := by decide +kernel
theorem dX10_deepAt_19 : decode cX10_deepAt 19 = .ok (.if_icmp .ge 38, 3) := by decide +kernel
theorem dX10_deepAt_22 : decode cX10_deepAt 22 = .ok (.aload_n 0, 1) := by decide +kernel
theorem dX10_deepAt_23 : decode cX10_deepAt 23 = .ok (.iload 4, 2) := by decide +kernel
theorem dX10_deepAt_25 : decode cX10_deepAt 25 = .ok (.invokevirtual 444, 3) := by decide +kernel
theorem dX10_deepAt_28 : decode cX10_deepAt 28 = .ok (.istore 6, 2) := by decide +kernel
theorem dX10_deepAt_30 : decode cX10_deepAt 30 = .ok (.iload 6, 2) := by decide +kernel
theorem dX10_deepAt_32 : decode cX10_deepAt 32 = .ok (.iload_n 3, 1) := by decide +kernel
theorem dX10_deepAt_33 : decode cX10_deepAt 33 = .ok (.if_icmp .le 8, 3) := by decide +kernel
theorem dX10_deepAt_36 : decode cX10_deepAt 36 = .ok (.iload 6, 2) := by decide +kernel
theorem dX10_deepAt_38 : decode cX10_deepAt 38 = .ok (.goto 4, 3) := by decide +kernel
theorem dX10_deepAt_41 : decode cX10_deepAt 41 = .ok (.iload_n 3, 1) := by decide +kernel
theorem dX10_deepAt_42 : decode cX10_deepAt 42 = .ok (.istore_n 3, 1) := by decide +kernel
theorem dX10_deepAt_43 : decode cX10_deepAt 43 = .ok (.aload_n 0, 1) := by decide +kernel
theorem dX10_deepAt_44 : decode cX10_deepAt 44 = .ok (.iload 4, 2) := by decide +kernel
theorem dX10_deepAt_46 : decode cX10_deepAt 46 = .ok (.invokevirtual 213, 3) := by decide +kernel
theorem dX10_deepAt_49 : decode cX10_deepAt 49 = .ok (.istore 4, 2) := by decide +kernel
theorem dX10_deepAt_51 : decode cX10_deepAt 51 = .ok (.iinc 5 1, 3) := by decide +kernel
theorem dX10_deepAt_54 : decode cX10_deepAt 54 = .ok (.goto (-38), 3) := by decide +kernel
theorem dX10_deepAt_57 : decode cX10_deepAt 57 = .ok (.iload_n 3, 1) := by decide +kernel
theorem dX10_deepAt_58 : decode cX10_deepAt 58 = .ok (.iconst 1, 1) := by decide +kernel
theorem dX10_deepAt_59 : decode cX10_deepAt 59 = .ok (.iadd, 1) := by decide +kernel
theorem dX10_deepAt_60 : decode cX10_deepAt 60 = .ok (.ireturn, 1) := by decide +kernel
theorem dX10_partsWith_0 : decode cX10_partsWith 0 = .ok (.aload_n 0, 1) := by decide +kernel
theorem dX10_partsWith_1 : decode cX10_partsWith 1 = .ok (.iload_n 1, 1) := by decide +kernel
theorem dX10_partsWith_2 : decode cX10_partsWith 2 = .ok (.invokevirtual 209, 3) := by decide +kernel
theorem dX10_partsWith_5 : decode cX10_partsWith 5 = .ok (.istore_n 3, 1) := by decide +kernel
theorem dX10_partsWith_6 : decode cX10_partsWith 6 = .ok (.iconst 0, 1) := by decide +kernel
theorem dX10_partsWith_7 : decode cX10_partsWith 7 = .ok (.istore 4, 2) := by decide +kernel
theorem dX10_partsWith_9 : decode cX10_partsWith 9 = .ok (.iload_n 1, 1) := by decide +kernel
theorem dX10_partsWith_10 : decode cX10_partsWith 10 = .ok (.iconst 1, 1) := by decide +kernel
theorem dX10_partsWith_11 : decode cX10_partsWith 11 = .ok (.iadd, 1) := by decide +kernel
theorem dX10_partsWith_12 : decode cX10_partsWith 12 = .ok (.istore 5, 2) := by decide +kernel
theorem dX10_partsWith_14 : decode cX10_partsWith 14 = .ok (.iconst 0, 1) := by decide +kernel
theorem dX10_partsWith_15 : decode cX10_partsWith 15 = .ok (.istore 6, 2) := by decide +kernel
theorem dX10_partsWith_17 : decode cX10_partsWith 17 = .ok (.iload 6, 2) := by decide +kernel
theorem dX10_partsWith_19 : decode cX10_partsWith 19 = .ok (.iload_n 3, 1) := by decide +kernel
theorem dX10_partsWith_20 : decode cX10_partsWith 20 = .ok (.if_icmp .ge 37, 3) := by decide +kernel
theorem dX10_partsWith_23 : decode cX10_partsWith 23 = .ok (.iload 4, 2) := by decide +kernel
theorem dX10_partsWith_25 : decode cX10_partsWith 25 = .ok (.aload_n 0, 1) := by decide +kernel
theorem dX10_partsWith_26 : decode cX10_partsWith 26 = .ok (.iload 5, 2) := by decide +kernel
theorem dX10_partsWith_28 : decode cX10_partsWith 28 = .ok (.invokevirtual 220, 3) := by decide +kernel
theorem dX10_partsWith_31 : decode cX10_partsWith 31 = .ok (.iload_n 2, 1) := by decide +kernel
theorem dX10_partsWith_32 : decode cX10_partsWith 32 = .ok (.if_icmp .ne 7, 3) := by decide +kernel
theorem dX10_partsWith_35 : decode cX10_partsWith 35 = .ok (.iconst 1, 1) := by decide +kernel
theorem dX10_partsWith_36 : decode cX10_partsWith 36 = .ok (.goto 4, 3) := by decide +kernel
theorem dX10_partsWith_39 : decode cX10_partsWith 39 = .ok (.iconst 0, 1) := by decide +kernel
theorem dX10_partsWith_40 : decode cX10_partsWith 40 = .ok (.iadd, 1) := by decide +kernel
theorem dX10_partsWith_41 : decode cX10_partsWith 41 = .ok (.istore 4, 2) := by decide +kernel
theorem dX10_partsWith_43 : decode cX10_partsWith 43 = .ok (.aload_n 0, 1) := by decide +kernel
theorem dX10_partsWith_44 : decode cX10_partsWith 44 = .ok (.iload 5, 2) := by decide +kernel
theorem dX10_partsWith_46 : decode cX10_partsWith 46 = .ok (.invokevirtual 213, 3) := by decide +kernel
theorem dX10_partsWith_49 : decode cX10_partsWith 49 = .ok (.istore 5, 2) := by decide +kernel
theorem dX10_partsWith_51 : decode cX10_partsWith 51 = .ok (.iinc 6 1, 3) := by decide +kernel
theorem dX10_partsWith_54 : decode cX10_partsWith 54 = .ok (.goto (-37), 3) := by decide +kernel
theorem dX10_partsWith_57 : decode cX10_partsWith 57 = .ok (.iload 4, 2) := by decide +kernel
theorem dX10_partsWith_59 : decode cX10_partsWith 59 = .ok (.ireturn, 1) := by decide +kernel
theorem dX10_could_0 : decode cX10_could 0 = .ok (.aload_n 0, 1) := by decide +kernel
theorem dX10_could_1 : decode cX10_could 1 = .ok (.iload_n 2, 1) := by decide +kernel
theorem dX10_could_2 : decode cX10_could 2 = .ok (.invokevirtual 220, 3) := by decide +kernel
theorem dX10_could_5 : decode cX10_could 5 = .ok (.istore_n 3, 1) := by decide +kernel
theorem dX10_could_6 : decode cX10_could 6 = .ok (.aload_n 0, 1) := by decide +kernel
theorem dX10_could_7 : decode cX10_could 7 = .ok (.getfield 33, 3) := by decide +kernel
theorem dX10_could_10 : decode cX10_could 10 = .ok (.iload_n 3, 1) := by decide +kernel
theorem dX10_could_11 : decode cX10_could 11 = .ok (.iaload, 1) := by decide +kernel
theorem dX10_could_12 : decode cX10_could 12 = .ok (.iconst 2, 1) := by decide +kernel
theorem dX10_could_13 : decode cX10_could 13 = .ok (.if_icmp .eq 18, 3) := by decide +kernel
theorem dX10_could_16 : decode cX10_could 16 = .ok (.aload_n 0, 1) := by decide +kernel
theorem dX10_could_17 : decode cX10_could 17 = .ok (.iload_n 1, 1) := by decide +kernel
theorem dX10_could_18 : decode cX10_could 18 = .ok (.invokevirtual 220, 3) := by decide +kernel
theorem dX10_could_21 : decode cX10_could 21 = .ok (.iload_n 3, 1) := by decide +kernel
theorem dX10_could_22 : decode cX10_could 22 = .ok (.if_icmp .ne 7, 3) := by decide +kernel
theorem dX10_could_25 : decode cX10_could 25 = .ok (.iconst 1, 1) := by decide +kernel
theorem dX10_could_26 : decode cX10_could 26 = .ok (.goto 4, 3) := by decide +kernel
theorem dX10_could_29 : decode cX10_could 29 = .ok (.iconst 0, 1) := by decide +kernel
theorem dX10_could_30 : decode cX10_could 30 = .ok (.ireturn, 1) := by decide +kernel
theorem dX10_could_31 : decode cX10_could 31 = .ok (.aload_n 0, 1) := by decide +kernel
theorem dX10_could_32 : decode cX10_could 32 = .ok (.getfield 39, 3) := by decide +kernel
theorem dX10_could_35 : decode cX10_could 35 = .ok (.iload_n 3, 1) := by decide +kernel
theorem dX10_could_36 : decode cX10_could 36 = .ok (.iaload, 1) := by decide +kernel
theorem dX10_could_37 : decode cX10_could 37 = .ok (.iconst (-1), 1) := by decide +kernel
theorem dX10_could_38 : decode cX10_could 38 = .ok (.if_icmp .eq 5, 3) := by decide +kernel
theorem dX10_could_41 : decode cX10_could 41 = .ok (.iconst 1, 1) := by decide +kernel
theorem dX10_could_42 : decode cX10_could 42 = .ok (.ireturn, 1) := by decide +kernel
theorem dX10_could_43 : decode cX10_could 43 = .ok (.aload_n 0, 1) := by decide +kernel
theorem dX10_could_44 : decode cX10_could 44 = .ok (.iload_n 1, 1) := by decide +kernel
theorem dX10_could_45 : decode cX10_could 45 = .ok (.invokevirtual 220, 3) := by decide +kernel
theorem dX10_could_48 : decode cX10_could 48 = .ok (.iload_n 3, 1) := by decide +kernel
theorem dX10_could_49 : decode cX10_could 49 = .ok (.if_icmp .eq 5, 3) := by decide +kernel
theorem dX10_could_52 : decode cX10_could 52 = .ok (.iconst 0, 1) := by decide +kernel
theorem dX10_could_53 : decode cX10_could 53 = .ok (.ireturn, 1) := by decide +kernel
theorem dX10_could_54 : decode cX10_could 54 = .ok (.iconst 0, 1) := by decide +kernel
theorem dX10_could_55 : decode cX10_could 55 = .ok (.istore 4, 2) := by decide +kernel
theorem dX10_could_57 : decode cX10_could 57 = .ok (.iload 4, 2) := by decide +kernel
theorem dX10_could_59 : decode cX10_could 59 = .ok (.aload_n 0, 1) := by decide +kernel
theorem dX10_could_60 : decode cX10_could 60 = .ok (.getfield 190, 3) := by decide +kernel
theorem dX10_could_63 : decode cX10_could 63 = .ok (.if_icmp .ge 39, 3) := by decide +kernel
theorem dX10_could_66 : decode cX10_could 66 = .ok (.aload_n 0, 1) := by decide +kernel
theorem dX10_could_67 : decode cX10_could 67 = .ok (.getfield 33, 3) := by decide +kernel
theorem dX10_could_70 : decode cX10_could 70 = .ok (.iload 4, 2) := by decide +kernel
theorem dX10_could_72 : decode cX10_could 72 = .ok (.iaload, 1) := by decide +kernel
theorem dX10_could_73 : decode cX10_could 73 = .ok (.iconst 2, 1) := by decide +kernel
theorem dX10_could_74 : decode cX10_could 74 = .ok (.if_icmp .eq 22, 3) := by decide +kernel
theorem dX10_could_77 : decode cX10_could 77 = .ok (.aload_n 0, 1) := by decide +kernel
theorem dX10_could_78 : decode cX10_could 78 = .ok (.iload_n 1, 1) := by decide +kernel
theorem dX10_could_79 : decode cX10_could 79 = .ok (.iload 4, 2) := by decide +kernel
theorem dX10_could_81 : decode cX10_could 81 = .ok (.invokevirtual 447, 3) := by decide +kernel
theorem dX10_could_84 : decode cX10_could 84 = .ok (.aload_n 0, 1) := by decide +kernel
theorem dX10_could_85 : decode cX10_could 85 = .ok (.iload_n 2, 1) := by decide +kernel
theorem dX10_could_86 : decode cX10_could 86 = .ok (.iload 4, 2) := by decide +kernel
theorem dX10_could_88 : decode cX10_could 88 = .ok (.invokevirtual 447, 3) := by decide +kernel
theorem dX10_could_91 : decode cX10_could 91 = .ok (.if_icmp .ge 5, 3) := by decide +kernel
theorem dX10_could_94 : decode cX10_could 94 = .ok (.iconst 0, 1) := by decide +kernel
theorem dX10_could_95 : decode cX10_could 95 = .ok (.ireturn, 1) := by decide +kernel
theorem dX10_could_96 : decode cX10_could 96 = .ok (.iinc 4 1, 3) := by decide +kernel
theorem dX10_could_99 : decode cX10_could 99 = .ok (.goto (-42), 3) := by decide +kernel
theorem dX10_could_102 : decode cX10_could 102 = .ok (.iconst 1, 1) := by decide +kernel
theorem dX10_could_103 : decode cX10_could 103 = .ok (.ireturn, 1) := by decide +kernel
theorem dX10_couldAt_0 : decode cX10_couldAt 0 = .ok (.iconst 0, 1) := by decide +kernel
theorem dX10_couldAt_1 : decode cX10_couldAt 1 = .ok (.istore_n 2, 1) := by decide +kernel
theorem dX10_couldAt_2 : decode cX10_couldAt 2 = .ok (.iconst 0, 1) := by decide +kernel
theorem dX10_couldAt_3 : decode cX10_couldAt 3 = .ok (.istore_n 3, 1) := by decide +kernel
theorem dX10_couldAt_4 : decode cX10_couldAt 4 = .ok (.iload_n 3, 1) := by decide +kernel
theorem dX10_couldAt_5 : decode cX10_couldAt 5 = .ok (.aload_n 0, 1) := by decide +kernel
theorem dX10_couldAt_6 : decode cX10_couldAt 6 = .ok (.getfield 199, 3) := by decide +kernel
theorem dX10_couldAt_9 : decode cX10_couldAt 9 = .ok (.if_icmp .ge 44, 3) := by decide +kernel
theorem dX10_couldAt_12 : decode cX10_couldAt 12 = .ok (.aload_n 0, 1) := by decide +kernel
theorem dX10_couldAt_13 : decode cX10_couldAt 13 = .ok (.invokevirtual 389, 3) := by decide +kernel
theorem dX10_couldAt_16 : decode cX10_couldAt 16 = .ok (.iload_n 3, 1) := by decide +kernel
theorem dX10_couldAt_17 : decode cX10_couldAt 17 = .ok (.invokestatic 281, 3) := by decide +kernel
theorem dX10_couldAt_20 : decode cX10_couldAt 20 = .ok (.ifCond .eq 27, 3) := by decide +kernel
theorem dX10_couldAt_23 : decode cX10_couldAt 23 = .ok (.aload_n 0, 1) := by decide +kernel
theorem dX10_couldAt_24 : decode cX10_couldAt 24 = .ok (.iload_n 1, 1) := by decide +kernel
theorem dX10_couldAt_25 : decode cX10_couldAt 25 = .ok (.aload_n 0, 1) := by decide +kernel
theorem dX10_couldAt_26 : decode cX10_couldAt 26 = .ok (.aload_n 0, 1) := by decide +kernel
theorem dX10_couldAt_27 : decode cX10_couldAt 27 = .ok (.iload_n 3, 1) := by decide +kernel
theorem dX10_couldAt_28 : decode cX10_couldAt 28 = .ok (.iconst 0, 1) := by decide +kernel
theorem dX10_couldAt_29 : decode cX10_couldAt 29 = .ok (.invokevirtual 271, 3) := by decide +kernel
theorem dX10_couldAt_32 : decode cX10_couldAt 32 = .ok (.invokevirtual 245, 3) := by decide +kernel
theorem dX10_couldAt_35 : decode cX10_couldAt 35 = .ok (.invokevirtual 450, 3) := by decide +kernel
theorem dX10_couldAt_38 : decode cX10_couldAt 38 = .ok (.ifCond .eq 9, 3) := by decide +kernel
theorem dX10_couldAt_41 : decode cX10_couldAt 41 = .ok (.iload_n 2, 1) := by decide +kernel
theorem dX10_couldAt_42 : decode cX10_couldAt 42 = .ok (.iconst 1, 1) := by decide +kernel
theorem dX10_couldAt_43 : decode cX10_couldAt 43 = .ok (.iload_n 3, 1) := by decide +kernel
theorem dX10_couldAt_44 : decode cX10_couldAt 44 = .ok (.ishl, 1) := by decide +kernel
theorem dX10_couldAt_45 : decode cX10_couldAt 45 = .ok (.ior, 1) := by decide +kernel
theorem dX10_couldAt_46 : decode cX10_couldAt 46 = .ok (.istore_n 2, 1) := by decide +kernel
theorem dX10_couldAt_47 : decode cX10_couldAt 47 = .ok (.iinc 3 1, 3) := by decide +kernel
theorem dX10_couldAt_50 : decode cX10_couldAt 50 = .ok (.goto (-46), 3) := by decide +kernel
theorem dX10_couldAt_53 : decode cX10_couldAt 53 = .ok (.iload_n 2, 1) := by decide +kernel
theorem dX10_couldAt_54 : decode cX10_couldAt 54 = .ok (.ireturn, 1) := by decide +kernel
theorem dX10_about_0 : decode cX10_about 0 = .ok (.aload_n 0, 1) := by decide +kernel
theorem dX10_about_1 : decode cX10_about 1 = .ok (.iconst 0, 1) := by decide +kernel
theorem dX10_about_2 : decode cX10_about 2 = .ok (.putfield 100, 3) := by decide +kernel
theorem dX10_about_5 : decode cX10_about 5 = .ok (.aload_n 0, 1) := by decide +kernel
theorem dX10_about_6 : decode cX10_about 6 = .ok (.iload_n 1, 1) := by decide +kernel
theorem dX10_about_7 : decode cX10_about 7 = .ok (.invokevirtual 371, 3) := by decide +kernel
theorem dX10_about_10 : decode cX10_about 10 = .ok (.ifCond .ne 26, 3) := by decide +kernel
theorem dX10_about_13 : decode cX10_about 13 = .ok (.aload_n 0, 1) := by decide +kernel
theorem dX10_about_14 : decode cX10_about 14 = .ok (.iload_n 2, 1) := by decide +kernel
theorem dX10_about_15 : decode cX10_about 15 = .ok (.iconst 0, 1) := by decide +kernel
theorem dX10_about_16 : decode cX10_about 16 = .ok (.bipush 8, 2) := by decide +kernel
theorem dX10_about_18 : decode cX10_about 18 = .ok (.invokestatic 132, 3) := by decide +kernel
theorem dX10_about_21 : decode cX10_about 21 = .ok (.ifCond .ne 7, 3) := by decide +kernel
theorem dX10_about_24 : decode cX10_about 24 = .ok (.iconst 1, 1) := by decide +kernel
theorem dX10_about_25 : decode cX10_about 25 = .ok (.goto 4, 3) := by decide +kernel
theorem dX10_about_28 : decode cX10_about 28 = .ok (.iconst 0, 1) := by decide +kernel
theorem dX10_about_29 : decode cX10_about 29 = .ok (.iconst 2, 1) := by decide +kernel
theorem dX10_about_30 : decode cX10_about 30 = .ok (.invokevirtual 264, 3) := by decide +kernel
theorem dX10_about_33 : decode cX10_about 33 = .ok (.ifCond .eq 5, 3) := by decide +kernel
theorem dX10_about_36 : decode cX10_about 36 = .ok (.iconst 0, 1) := by decide +kernel
theorem dX10_about_37 : decode cX10_about 37 = .ok (.ireturn, 1) := by decide +kernel
theorem dX10_about_38 : decode cX10_about 38 = .ok (.aload_n 0, 1) := by decide +kernel
theorem dX10_about_39 : decode cX10_about 39 = .ok (.iload_n 1, 1) := by decide +kernel
theorem dX10_about_40 : decode cX10_about 40 = .ok (.invokevirtual 374, 3) := by decide +kernel
theorem dX10_about_43 : decode cX10_about 43 = .ok (.istore_n 3, 1) := by decide +kernel
theorem dX10_about_44 : decode cX10_about 44 = .ok (.iload_n 2, 1) := by decide +kernel
theorem dX10_about_45 : decode cX10_about 45 = .ok (.tableswitch 126 0 7 #[47, 65, 88, 94, 102, 108, 114, 120], 47) := by decide +kernel
theorem dX10_about_92 : decode cX10_about 92 = .ok (.aload_n 0, 1) := by decide +kernel
theorem dX10_about_93 : decode cX10_about 93 = .ok (.iload_n 3, 1) := by decide +kernel
theorem dX10_about_94 : decode cX10_about 94 = .ok (.invokevirtual 220, 3) := by decide +kernel
theorem dX10_about_97 : decode cX10_about 97 = .ok (.ifCond .ge 7, 3) := by decide +kernel
theorem dX10_about_100 : decode cX10_about 100 = .ok (.iconst (-1), 1) := by decide +kernel
theorem dX10_about_101 : decode cX10_about 101 = .ok (.goto 8, 3) := by decide +kernel
theorem dX10_about_104 : decode cX10_about 104 = .ok (.aload_n 0, 1) := by decide +kernel
theorem dX10_about_105 : decode cX10_about 105 = .ok (.iload_n 3, 1) := by decide +kernel
theorem dX10_about_106 : decode cX10_about 106 = .ok (.invokevirtual 220, 3) := by decide +kernel
theorem dX10_about_109 : decode cX10_about 109 = .ok (.ireturn, 1) := by decide +kernel
theorem dX10_about_110 : decode cX10_about 110 = .ok (.aload_n 0, 1) := by decide +kernel
theorem dX10_about_111 : decode cX10_about 111 = .ok (.getfield 52, 3) := by decide +kernel
theorem dX10_about_114 : decode cX10_about 114 = .ok (.iload_n 3, 1) := by decide +kernel
theorem dX10_about_115 : decode cX10_about 115 = .ok (.iaload, 1) := by decide +kernel
theorem dX10_about_116 : decode cX10_about 116 = .ok (.sipush 512, 3) := by decide +kernel
theorem dX10_about_119 : decode cX10_about 119 = .ok (.if_icmp .ge 12, 3) := by decide +kernel
theorem dX10_about_122 : decode cX10_about 122 = .ok (.aload_n 0, 1) := by decide +kernel
theorem dX10_about_123 : decode cX10_about 123 = .ok (.getfield 52, 3) := by decide +kernel
theorem dX10_about_126 : decode cX10_about 126 = .ok (.iload_n 3, 1) := by decide +kernel
theorem dX10_about_127 : decode cX10_about 127 = .ok (.iaload, 1) := by decide +kernel
theorem dX10_about_128 : decode cX10_about 128 = .ok (.goto 4, 3) := by decide +kernel
theorem dX10_about_131 : decode cX10_about 131 = .ok (.iconst (-1), 1) := by decide +kernel
theorem dX10_about_132 : decode cX10_about 132 = .ok (.ireturn, 1) := by decide +kernel
theorem dX10_about_133 : decode cX10_about 133 = .ok (.aload_n 0, 1) := by decide +kernel
theorem dX10_about_134 : decode cX10_about 134 = .ok (.iload_n 3, 1) := by decide +kernel
theorem dX10_about_135 : decode cX10_about 135 = .ok (.invokevirtual 209, 3) := by decide +kernel
theorem dX10_about_138 : decode cX10_about 138 = .ok (.ireturn, 1) := by decide +kernel
theorem dX10_about_139 : decode cX10_about 139 = .ok (.aload_n 0, 1) := by decide +kernel
theorem dX10_about_140 : decode cX10_about 140 = .ok (.iload_n 3, 1) := by decide +kernel
theorem dX10_about_141 : decode cX10_about 141 = .ok (.invokevirtual 213, 3) := by decide +kernel
theorem dX10_about_144 : decode cX10_about 144 = .ok (.iload_n 3, 1) := by decide +kernel
theorem dX10_about_145 : decode cX10_about 145 = .ok (.isub, 1) := by decide +kernel
theorem dX10_about_146 : decode cX10_about 146 = .ok (.ireturn, 1) := by decide +kernel
theorem dX10_about_147 : decode cX10_about 147 = .ok (.aload_n 0, 1) := by decide +kernel
theorem dX10_about_148 : decode cX10_about 148 = .ok (.iload_n 3, 1) := by decide +kernel
theorem dX10_about_149 : decode cX10_about 149 = .ok (.invokevirtual 444, 3) := by decide +kernel
theorem dX10_about_152 : decode cX10_about 152 = .ok (.ireturn, 1) := by decide +kernel
theorem dX10_about_153 : decode cX10_about 153 = .ok (.aload_n 0, 1) := by decide +kernel
theorem dX10_about_154 : decode cX10_about 154 = .ok (.iload_n 3, 1) := by decide +kernel
theorem dX10_about_155 : decode cX10_about 155 = .ok (.invokevirtual 268, 3) := by decide +kernel
theorem dX10_about_158 : decode cX10_about 158 = .ok (.ireturn, 1) := by decide +kernel
theorem dX10_about_159 : decode cX10_about 159 = .ok (.aload_n 0, 1) := by decide +kernel
theorem dX10_about_160 : decode cX10_about 160 = .ok (.iload_n 3, 1) := by decide +kernel
theorem dX10_about_161 : decode cX10_about 161 = .ok (.invokevirtual 438, 3) := by decide +kernel
theorem dX10_about_164 : decode cX10_about 164 = .ok (.ireturn, 1) := by decide +kernel
theorem dX10_about_165 : decode cX10_about 165 = .ok (.aload_n 0, 1) := by decide +kernel
theorem dX10_about_166 : decode cX10_about 166 = .ok (.iload_n 3, 1) := by decide +kernel
theorem dX10_about_167 : decode cX10_about 167 = .ok (.invokevirtual 453, 3) := by decide +kernel
theorem dX10_about_170 : decode cX10_about 170 = .ok (.ireturn, 1) := by decide +kernel
theorem dX10_about_171 : decode cX10_about 171 = .ok (.aload_n 0, 1) := by decide +kernel
theorem dX10_about_172 : decode cX10_about 172 = .ok (.iload_n 3, 1) := by decide +kernel
theorem dX10_about_173 : decode cX10_about 173 = .ok (.invokevirtual 456, 3) := by decide +kernel
theorem dX10_about_176 : decode cX10_about 176 = .ok (.ireturn, 1) := by decide +kernel
theorem dX10_order_0 : decode cX10_order 0 = .ok (.aload_n 0, 1) := by decide +kernel
theorem dX10_order_1 : decode cX10_order 1 = .ok (.iconst 0, 1) := by decide +kernel
theorem dX10_order_2 : decode cX10_order 2 = .ok (.putfield 100, 3) := by decide +kernel
theorem dX10_order_5 : decode cX10_order 5 = .ok (.aload_n 0, 1) := by decide +kernel
theorem dX10_order_6 : decode cX10_order 6 = .ok (.iload_n 1, 1) := by decide +kernel
theorem dX10_order_7 : decode cX10_order 7 = .ok (.invokevirtual 371, 3) := by decide +kernel
theorem dX10_order_10 : decode cX10_order 10 = .ok (.ifCond .ne 11, 3) := by decide +kernel
theorem dX10_order_13 : decode cX10_order 13 = .ok (.aload_n 0, 1) := by decide +kernel
theorem dX10_order_14 : decode cX10_order 14 = .ok (.iload_n 2, 1) := by decide +kernel
theorem dX10_order_15 : decode cX10_order 15 = .ok (.invokevirtual 371, 3) := by decide +kernel
theorem dX10_order_18 : decode cX10_order 18 = .ok (.ifCond .eq 5, 3) := by decide +kernel
theorem dX10_order_21 : decode cX10_order 21 = .ok (.iconst 0, 1) := by decide +kernel
theorem dX10_order_22 : decode cX10_order 22 = .ok (.ireturn, 1) := by decide +kernel
theorem dX10_order_23 : decode cX10_order 23 = .ok (.aload_n 0, 1) := by decide +kernel
theorem dX10_order_24 : decode cX10_order 24 = .ok (.iload_n 1, 1) := by decide +kernel
theorem dX10_order_25 : decode cX10_order 25 = .ok (.invokevirtual 374, 3) := by decide +kernel
theorem dX10_order_28 : decode cX10_order 28 = .ok (.istore_n 3, 1) := by decide +kernel
theorem dX10_order_29 : decode cX10_order 29 = .ok (.aload_n 0, 1) := by decide +kernel
theorem dX10_order_30 : decode cX10_order 30 = .ok (.iload_n 3, 1) := by decide +kernel
theorem dX10_order_31 : decode cX10_order 31 = .ok (.aload_n 0, 1) := by decide +kernel
theorem dX10_order_32 : decode cX10_order 32 = .ok (.aload_n 0, 1) := by decide +kernel
theorem dX10_order_33 : decode cX10_order 33 = .ok (.iload_n 2, 1) := by decide +kernel
theorem dX10_order_34 : decode cX10_order 34 = .ok (.invokevirtual 242, 3) := by decide +kernel
theorem dX10_order_37 : decode cX10_order 37 = .ok (.invokevirtual 245, 3) := by decide +kernel
theorem dX10_order_40 : decode cX10_order 40 = .ok (.invokevirtual 216, 3) := by decide +kernel
theorem dX10_order_43 : decode cX10_order 43 = .ok (.ireturn, 1) := by decide +kernel
theorem dX10_rank_0 : decode cX10_rank 0 = .ok (.aload_n 0, 1) := by decide +kernel
theorem dX10_rank_1 : decode cX10_rank 1 = .ok (.iconst 0, 1) := by decide +kernel
theorem dX10_rank_2 : decode cX10_rank 2 = .ok (.putfield 100, 3) := by decide +kernel
theorem dX10_rank_5 : decode cX10_rank 5 = .ok (.iconst 0, 1) := by decide +kernel
theorem dX10_rank_6 : decode cX10_rank 6 = .ok (.istore_n 2, 1) := by decide +kernel
theorem dX10_rank_7 : decode cX10_rank 7 = .ok (.iload_n 2, 1) := by decide +kernel
theorem dX10_rank_8 : decode cX10_rank 8 = .ok (.aload_n 0, 1) := by decide +kernel
theorem dX10_rank_9 : decode cX10_rank 9 = .ok (.getfield 196, 3) := by decide +kernel
theorem dX10_rank_12 : decode cX10_rank 12 = .ok (.if_icmp .ge 72, 3) := by decide +kernel
theorem dX10_rank_15 : decode cX10_rank 15 = .ok (.aload_n 0, 1) := by decide +kernel
theorem dX10_rank_16 : decode cX10_rank 16 = .ok (.iload_n 2, 1) := by decide +kernel
theorem dX10_rank_17 : decode cX10_rank 17 = .ok (.invokevirtual 374, 3) := by decide +kernel
theorem dX10_rank_20 : decode cX10_rank 20 = .ok (.istore_n 3, 1) := by decide +kernel
theorem dX10_rank_21 : decode cX10_rank 21 = .ok (.iconst 0, 1) := by decide +kernel
theorem dX10_rank_22 : decode cX10_rank 22 = .ok (.istore 4, 2) := by decide +kernel
theorem dX10_rank_24 : decode cX10_rank 24 = .ok (.iconst 0, 1) := by decide +kernel
theorem dX10_rank_25 : decode cX10_rank 25 = .ok (.istore 5, 2) := by decide +kernel
theorem dX10_rank_27 : decode cX10_rank 27 = .ok (.iload 5, 2) := by decide +kernel
theorem dX10_rank_29 : decode cX10_rank 29 = .ok (.aload_n 0, 1) := by decide +kernel
theorem dX10_rank_30 : decode cX10_rank 30 = .ok (.getfield 196, 3) := by decide +kernel
theorem dX10_rank_33 : decode cX10_rank 33 = .ok (.if_icmp .ge 37, 3) := by decide +kernel
theorem dX10_rank_36 : decode cX10_rank 36 = .ok (.iload 4, 2) := by decide +kernel
theorem dX10_rank_38 : decode cX10_rank 38 = .ok (.aload_n 0, 1) := by decide +kernel
theorem dX10_rank_39 : decode cX10_rank 39 = .ok (.aload_n 0, 1) := by decide +kernel
theorem dX10_rank_40 : decode cX10_rank 40 = .ok (.aload_n 0, 1) := by decide +kernel
theorem dX10_rank_41 : decode cX10_rank 41 = .ok (.iload 5, 2) := by decide +kernel
theorem dX10_rank_43 : decode cX10_rank 43 = .ok (.invokevirtual 242, 3) := by decide +kernel
theorem dX10_rank_46 : decode cX10_rank 46 = .ok (.invokevirtual 245, 3) := by decide +kernel
theorem dX10_rank_49 : decode cX10_rank 49 = .ok (.iload_n 3, 1) := by decide +kernel
theorem dX10_rank_50 : decode cX10_rank 50 = .ok (.invokevirtual 216, 3) := by decide +kernel
theorem dX10_rank_53 : decode cX10_rank 53 = .ok (.ifCond .ge 7, 3) := by decide +kernel
theorem dX10_rank_56 : decode cX10_rank 56 = .ok (.iconst 1, 1) := by decide +kernel
theorem dX10_rank_57 : decode cX10_rank 57 = .ok (.goto 4, 3) := by decide +kernel
theorem dX10_rank_60 : decode cX10_rank 60 = .ok (.iconst 0, 1) := by decide +kernel
theorem dX10_rank_61 : decode cX10_rank 61 = .ok (.iadd, 1) := by decide +kernel
theorem dX10_rank_62 : decode cX10_rank 62 = .ok (.istore 4, 2) := by decide +kernel
theorem dX10_rank_64 : decode cX10_rank 64 = .ok (.iinc 5 1, 3) := by decide +kernel
theorem dX10_rank_67 : decode cX10_rank 67 = .ok (.goto (-40), 3) := by decide +kernel
theorem dX10_rank_70 : decode cX10_rank 70 = .ok (.iload 4, 2) := by decide +kernel
theorem dX10_rank_72 : decode cX10_rank 72 = .ok (.iload_n 1, 1) := by decide +kernel
theorem dX10_rank_73 : decode cX10_rank 73 = .ok (.if_icmp .ne 5, 3) := by decide +kernel
theorem dX10_rank_76 : decode cX10_rank 76 = .ok (.iload_n 2, 1) := by decide +kernel
theorem dX10_rank_77 : decode cX10_rank 77 = .ok (.ireturn, 1) := by decide +kernel
theorem dX10_rank_78 : decode cX10_rank 78 = .ok (.iinc 2 1, 3) := by decide +kernel
theorem dX10_rank_81 : decode cX10_rank 81 = .ok (.goto (-74), 3) := by decide +kernel
theorem dX10_rank_84 : decode cX10_rank 84 = .ok (.iconst (-1), 1) := by decide +kernel
theorem dX10_rank_85 : decode cX10_rank 85 = .ok (.ireturn, 1) := by decide +kernel
theorem dX10_normalTerms_0 : decode cX10_normalTerms 0 = .ok (.iconst 0, 1) := by decide +kernel
theorem dX10_normalTerms_1 : decode cX10_normalTerms 1 = .ok (.istore_n 1, 1) := by decide +kernel
theorem dX10_normalTerms_2 : decode cX10_normalTerms 2 = .ok (.iconst 0, 1) := by decide +kernel
theorem dX10_normalTerms_3 : decode cX10_normalTerms 3 = .ok (.istore_n 2, 1) := by decide +kernel
theorem dX10_normalTerms_4 : decode cX10_normalTerms 4 = .ok (.iload_n 2, 1) := by decide +kernel
theorem dX10_normalTerms_5 : decode cX10_normalTerms 5 = .ok (.aload_n 0, 1) := by decide +kernel
theorem dX10_normalTerms_6 : decode cX10_normalTerms 6 = .ok (.getfield 196, 3) := by decide +kernel
theorem dX10_normalTerms_9 : decode cX10_normalTerms 9 = .ok (.if_icmp .ge 49, 3) := by decide +kernel
theorem dX10_normalTerms_12 : decode cX10_normalTerms 12 = .ok (.aload_n 0, 1) := by decide +kernel
theorem dX10_normalTerms_13 : decode cX10_normalTerms 13 = .ok (.aload_n 0, 1) := by decide +kernel
theorem dX10_normalTerms_14 : decode cX10_normalTerms 14 = .ok (.iload_n 2, 1) := by decide +kernel
theorem dX10_normalTerms_15 : decode cX10_normalTerms 15 = .ok (.invokevirtual 374, 3) := by decide +kernel
theorem dX10_normalTerms_18 : decode cX10_normalTerms 18 = .ok (.aload_n 0, 1) := by decide +kernel
theorem dX10_normalTerms_19 : decode cX10_normalTerms 19 = .ok (.invokevirtual 389, 3) := by decide +kernel
theorem dX10_normalTerms_22 : decode cX10_normalTerms 22 = .ok (.iconst 0, 1) := by decide +kernel
theorem dX10_normalTerms_23 : decode cX10_normalTerms 23 = .ok (.invokevirtual 392, 3) := by decide +kernel
theorem dX10_normalTerms_26 : decode cX10_normalTerms 26 = .ok (.aload_n 0, 1) := by decide +kernel
theorem dX10_normalTerms_27 : decode cX10_normalTerms 27 = .ok (.getfield 296, 3) := by decide +kernel
theorem dX10_normalTerms_30 : decode cX10_normalTerms 30 = .ok (.ifCond .eq 5, 3) := by decide +kernel
theorem dX10_normalTerms_33 : decode cX10_normalTerms 33 = .ok (.iconst (-1), 1) := by decide +kernel
theorem dX10_normalTerms_34 : decode cX10_normalTerms 34 = .ok (.ireturn, 1) := by decide +kernel
theorem dX10_normalTerms_35 : decode cX10_normalTerms 35 = .ok (.iload_n 1, 1) := by decide +kernel
theorem dX10_normalTerms_36 : decode cX10_normalTerms 36 = .ok (.aload_n 0, 1) := by decide +kernel
theorem dX10_normalTerms_37 : decode cX10_normalTerms 37 = .ok (.getfield 342, 3) := by decide +kernel
theorem dX10_normalTerms_40 : decode cX10_normalTerms 40 = .ok (.ifCond .ne 9, 3) := by decide +kernel
theorem dX10_normalTerms_43 : decode cX10_normalTerms 43 = .ok (.iconst 1, 1) := by decide +kernel
theorem dX10_normalTerms_44 : decode cX10_normalTerms 44 = .ok (.iload_n 2, 1) := by decide +kernel
theorem dX10_normalTerms_45 : decode cX10_normalTerms 45 = .ok (.ishl, 1) := by decide +kernel
theorem dX10_normalTerms_46 : decode cX10_normalTerms 46 = .ok (.goto 4, 3) := by decide +kernel
theorem dX10_normalTerms_49 : decode cX10_normalTerms 49 = .ok (.iconst 0, 1) := by decide +kernel
theorem dX10_normalTerms_50 : decode cX10_normalTerms 50 = .ok (.ior, 1) := by decide +kernel
theorem dX10_normalTerms_51 : decode cX10_normalTerms 51 = .ok (.istore_n 1, 1) := by decide +kernel
theorem dX10_normalTerms_52 : decode cX10_normalTerms 52 = .ok (.iinc 2 1, 3) := by decide +kernel
theorem dX10_normalTerms_55 : decode cX10_normalTerms 55 = .ok (.goto (-51), 3) := by decide +kernel
theorem dX10_normalTerms_58 : decode cX10_normalTerms 58 = .ok (.iload_n 1, 1) := by decide +kernel
theorem dX10_normalTerms_59 : decode cX10_normalTerms 59 = .ok (.ireturn, 1) := by decide +kernel
theorem dX10_greatest_0 : decode cX10_greatest 0 = .ok (.iconst 0, 1) := by decide +kernel
theorem dX10_greatest_1 : decode cX10_greatest 1 = .ok (.istore_n 1, 1) := by decide +kernel
theorem dX10_greatest_2 : decode cX10_greatest 2 = .ok (.iconst 0, 1) := by decide +kernel
theorem dX10_greatest_3 : decode cX10_greatest 3 = .ok (.istore_n 2, 1) := by decide +kernel
theorem dX10_greatest_4 : decode cX10_greatest 4 = .ok (.iload_n 2, 1) := by decide +kernel
theorem dX10_greatest_5 : decode cX10_greatest 5 = .ok (.aload_n 0, 1) := by decide +kernel
theorem dX10_greatest_6 : decode cX10_greatest 6 = .ok (.getfield 196, 3) := by decide +kernel
theorem dX10_greatest_9 : decode cX10_greatest 9 = .ok (.if_icmp .ge 38, 3) := by decide +kernel
theorem dX10_greatest_12 : decode cX10_greatest 12 = .ok (.aload_n 0, 1) := by decide +kernel
theorem dX10_greatest_13 : decode cX10_greatest 13 = .ok (.iload_n 2, 1) := by decide +kernel
theorem dX10_greatest_14 : decode cX10_greatest 14 = .ok (.invokevirtual 374, 3) := by decide +kernel
theorem dX10_greatest_17 : decode cX10_greatest 17 = .ok (.istore_n 3, 1) := by decide +kernel
theorem dX10_greatest_18 : decode cX10_greatest 18 = .ok (.aload_n 0, 1) := by decide +kernel
theorem dX10_greatest_19 : decode cX10_greatest 19 = .ok (.iload_n 3, 1) := by decide +kernel
theorem dX10_greatest_20 : decode cX10_greatest 20 = .ok (.invokevirtual 213, 3) := by decide +kernel
theorem dX10_greatest_23 : decode cX10_greatest 23 = .ok (.iload_n 3, 1) := by decide +kernel
theorem dX10_greatest_24 : decode cX10_greatest 24 = .ok (.isub, 1) := by decide +kernel
theorem dX10_greatest_25 : decode cX10_greatest 25 = .ok (.iload_n 1, 1) := by decide +kernel
theorem dX10_greatest_26 : decode cX10_greatest 26 = .ok (.if_icmp .le 13, 3) := by decide +kernel
theorem dX10_greatest_29 : decode cX10_greatest 29 = .ok (.aload_n 0, 1) := by decide +kernel
theorem dX10_greatest_30 : decode cX10_greatest 30 = .ok (.iload_n 3, 1) := by decide +kernel
theorem dX10_greatest_31 : decode cX10_greatest 31 = .ok (.invokevirtual 213, 3) := by decide +kernel
theorem dX10_greatest_34 : decode cX10_greatest 34 = .ok (.iload_n 3, 1) := by decide +kernel
theorem dX10_greatest_35 : decode cX10_greatest 35 = .ok (.isub, 1) := by decide +kernel
theorem dX10_greatest_36 : decode cX10_greatest 36 = .ok (.goto 4, 3) := by decide +kernel
theorem dX10_greatest_39 : decode cX10_greatest 39 = .ok (.iload_n 1, 1) := by decide +kernel
theorem dX10_greatest_40 : decode cX10_greatest 40 = .ok (.istore_n 1, 1) := by decide +kernel
theorem dX10_greatest_41 : decode cX10_greatest 41 = .ok (.iinc 2 1, 3) := by decide +kernel
theorem dX10_greatest_44 : decode cX10_greatest 44 = .ok (.goto (-40), 3) := by decide +kernel
theorem dX10_greatest_47 : decode cX10_greatest 47 = .ok (.iload_n 1, 1) := by decide +kernel
theorem dX10_greatest_48 : decode cX10_greatest 48 = .ok (.ireturn, 1) := by decide +kernel
theorem dX10_allMatches_0 : decode cX10_allMatches 0 = .ok (.iconst 0, 1) := by decide +kernel
theorem dX10_allMatches_1 : decode cX10_allMatches 1 = .ok (.istore_n 1, 1) := by decide +kernel
theorem dX10_allMatches_2 : decode cX10_allMatches 2 = .ok (.iconst 0, 1) := by decide +kernel
theorem dX10_allMatches_3 : decode cX10_allMatches 3 = .ok (.istore_n 2, 1) := by decide +kernel
theorem dX10_allMatches_4 : decode cX10_allMatches 4 = .ok (.iload_n 2, 1) := by decide +kernel
theorem dX10_allMatches_5 : decode cX10_allMatches 5 = .ok (.aload_n 0, 1) := by decide +kernel
theorem dX10_allMatches_6 : decode cX10_allMatches 6 = .ok (.getfield 196, 3) := by decide +kernel
theorem dX10_allMatches_9 : decode cX10_allMatches 9 = .ok (.if_icmp .ge 78, 3) := by decide +kernel
theorem dX10_allMatches_12 : decode cX10_allMatches 12 = .ok (.iconst 0, 1) := by decide +kernel
theorem dX10_allMatches_13 : decode cX10_allMatches 13 = .ok (.istore_n 3, 1) := by decide +kernel
theorem dX10_allMatches_14 : decode cX10_allMatches 14 = .ok (.iload_n 3, 1) := by decide +kernel
theorem dX10_allMatches_15 : decode cX10_allMatches 15 = .ok (.aload_n 0, 1) := by decide +kernel
theorem dX10_allMatches_16 : decode cX10_allMatches 16 = .ok (.getfield 199, 3) := by decide +kernel
theorem dX10_allMatches_19 : decode cX10_allMatches 19 = .ok (.if_icmp .ge 62, 3) := by decide +kernel
theorem dX10_allMatches_22 : decode cX10_allMatches 22 = .ok (.aload_n 0, 1) := by decide +kernel
theorem dX10_allMatches_23 : decode cX10_allMatches 23 = .ok (.invokevirtual 389, 3) := by decide +kernel
theorem dX10_allMatches_26 : decode cX10_allMatches 26 = .ok (.iload_n 3, 1) := by decide +kernel
theorem dX10_allMatches_27 : decode cX10_allMatches 27 = .ok (.invokestatic 281, 3) := by decide +kernel
theorem dX10_allMatches_30 : decode cX10_allMatches 30 = .ok (.ifCond .ne 6, 3) := by decide +kernel
theorem dX10_allMatches_33 : decode cX10_allMatches 33 = .ok (.goto 42, 3) := by decide +kernel
theorem dX10_allMatches_36 : decode cX10_allMatches 36 = .ok (.aload_n 0, 1) := by decide +kernel
theorem dX10_allMatches_37 : decode cX10_allMatches 37 = .ok (.iload_n 2, 1) := by decide +kernel
theorem dX10_allMatches_38 : decode cX10_allMatches 38 = .ok (.invokevirtual 374, 3) := by decide +kernel
theorem dX10_allMatches_41 : decode cX10_allMatches 41 = .ok (.istore 4, 2) := by decide +kernel
theorem dX10_allMatches_43 : decode cX10_allMatches 43 = .ok (.aload_n 0, 1) := by decide +kernel
theorem dX10_allMatches_44 : decode cX10_allMatches 44 = .ok (.aload_n 0, 1) := by decide +kernel
theorem dX10_allMatches_45 : decode cX10_allMatches 45 = .ok (.aload_n 0, 1) := by decide +kernel
theorem dX10_allMatches_46 : decode cX10_allMatches 46 = .ok (.iload_n 3, 1) := by decide +kernel
theorem dX10_allMatches_47 : decode cX10_allMatches 47 = .ok (.iconst 0, 1) := by decide +kernel
theorem dX10_allMatches_48 : decode cX10_allMatches 48 = .ok (.invokevirtual 271, 3) := by decide +kernel
theorem dX10_allMatches_51 : decode cX10_allMatches 51 = .ok (.invokevirtual 245, 3) := by decide +kernel
theorem dX10_allMatches_54 : decode cX10_allMatches 54 = .ok (.iload 4, 2) := by decide +kernel
theorem dX10_allMatches_56 : decode cX10_allMatches 56 = .ok (.invokevirtual 356, 3) := by decide +kernel
theorem dX10_allMatches_59 : decode cX10_allMatches 59 = .ok (.aload_n 0, 1) := by decide +kernel
theorem dX10_allMatches_60 : decode cX10_allMatches 60 = .ok (.getfield 296, 3) := by decide +kernel
theorem dX10_allMatches_63 : decode cX10_allMatches 63 = .ok (.ifCond .eq 5, 3) := by decide +kernel
theorem dX10_allMatches_66 : decode cX10_allMatches 66 = .ok (.iconst (-1), 1) := by decide +kernel
theorem dX10_allMatches_67 : decode cX10_allMatches 67 = .ok (.ireturn, 1) := by decide +kernel
theorem dX10_allMatches_68 : decode cX10_allMatches 68 = .ok (.iload_n 1, 1) := by decide +kernel
theorem dX10_allMatches_69 : decode cX10_allMatches 69 = .ok (.aload_n 0, 1) := by decide +kernel
theorem dX10_allMatches_70 : decode cX10_allMatches 70 = .ok (.getfield 287, 3) := by decide +kernel
theorem dX10_allMatches_73 : decode cX10_allMatches 73 = .ok (.iadd, 1) := by decide +kernel
theorem dX10_allMatches_74 : decode cX10_allMatches 74 = .ok (.istore_n 1, 1) := by decide +kernel
theorem dX10_allMatches_75 : decode cX10_allMatches 75 = .ok (.iinc 3 1, 3) := by decide +kernel
theorem dX10_allMatches_78 : decode cX10_allMatches 78 = .ok (.goto (-64), 3) := by decide +kernel
theorem dX10_allMatches_81 : decode cX10_allMatches 81 = .ok (.iinc 2 1, 3) := by decide +kernel
theorem dX10_allMatches_84 : decode cX10_allMatches 84 = .ok (.goto (-80), 3) := by decide +kernel
theorem dX10_allMatches_87 : decode cX10_allMatches 87 = .ok (.iload_n 1, 1) := by decide +kernel
theorem dX10_allMatches_88 : decode cX10_allMatches 88 = .ok (.ireturn, 1) := by decide +kernel
theorem dX10_count_0 : decode cX10_count 0 = .ok (.aload_n 0, 1) := by decide +kernel
theorem dX10_count_1 : decode cX10_count 1 = .ok (.iconst 0, 1) := by decide +kernel
theorem dX10_count_2 : decode cX10_count 2 = .ok (.putfield 100, 3) := by decide +kernel
theorem dX10_count_5 : decode cX10_count 5 = .ok (.iload_n 1, 1) := by decide +kernel
theorem dX10_count_6 : decode cX10_count 6 = .ok (.tableswitch 95 0 8 #[50, 55, 60, 65, 70, 75, 80, 85, 90], 50) := by decide +kernel
theorem dX10_count_56 : decode cX10_count 56 = .ok (.aload_n 0, 1) := by decide +kernel
theorem dX10_count_57 : decode cX10_count 57 = .ok (.getfield 190, 3) := by decide +kernel
theorem dX10_count_60 : decode cX10_count 60 = .ok (.ireturn, 1) := by decide +kernel
theorem dX10_count_61 : decode cX10_count 61 = .ok (.aload_n 0, 1) := by decide +kernel
theorem dX10_count_62 : decode cX10_count 62 = .ok (.getfield 193, 3) := by decide +kernel
theorem dX10_count_65 : decode cX10_count 65 = .ok (.ireturn, 1) := by decide +kernel
theorem dX10_count_66 : decode cX10_count 66 = .ok (.aload_n 0, 1) := by decide +kernel
theorem dX10_count_67 : decode cX10_count 67 = .ok (.getfield 196, 3) := by decide +kernel
theorem dX10_count_70 : decode cX10_count 70 = .ok (.ireturn, 1) := by decide +kernel
theorem dX10_count_71 : decode cX10_count 71 = .ok (.aload_n 0, 1) := by decide +kernel
theorem dX10_count_72 : decode cX10_count 72 = .ok (.getfield 199, 3) := by decide +kernel
theorem dX10_count_75 : decode cX10_count 75 = .ok (.ireturn, 1) := by decide +kernel
theorem dX10_count_76 : decode cX10_count 76 = .ok (.aload_n 0, 1) := by decide +kernel
theorem dX10_count_77 : decode cX10_count 77 = .ok (.invokevirtual 389, 3) := by decide +kernel
theorem dX10_count_80 : decode cX10_count 80 = .ok (.ireturn, 1) := by decide +kernel
theorem dX10_count_81 : decode cX10_count 81 = .ok (.aload_n 0, 1) := by decide +kernel
theorem dX10_count_82 : decode cX10_count 82 = .ok (.getfield 206, 3) := by decide +kernel
theorem dX10_count_85 : decode cX10_count 85 = .ok (.ireturn, 1) := by decide +kernel
theorem dX10_count_86 : decode cX10_count 86 = .ok (.aload_n 0, 1) := by decide +kernel
theorem dX10_count_87 : decode cX10_count 87 = .ok (.invokevirtual 459, 3) := by decide +kernel
theorem dX10_count_90 : decode cX10_count 90 = .ok (.ireturn, 1) := by decide +kernel
theorem dX10_count_91 : decode cX10_count 91 = .ok (.aload_n 0, 1) := by decide +kernel
theorem dX10_count_92 : decode cX10_count 92 = .ok (.invokevirtual 462, 3) := by decide +kernel
theorem dX10_count_95 : decode cX10_count 95 = .ok (.ireturn, 1) := by decide +kernel
theorem dX10_count_96 : decode cX10_count 96 = .ok (.aload_n 0, 1) := by decide +kernel
theorem dX10_count_97 : decode cX10_count 97 = .ok (.invokevirtual 465, 3) := by decide +kernel
theorem dX10_count_100 : decode cX10_count 100 = .ok (.ireturn, 1) := by decide +kernel
theorem dX10_count_101 : decode cX10_count 101 = .ok (.iconst (-1), 1) := by decide +kernel
theorem dX10_count_102 : decode cX10_count 102 = .ok (.ireturn, 1) := by decide +kernel


