theorem dX10_solves_64 : decode cX10_solves 64 = .ok (.aload_n 0, 1) := by decide +kernel
theorem dX10_solves_65 : decode cX10_solves 65 = .ok (.getfield 33, 3) := by decide +kernel
theorem dX10_solves_68 : decode cX10_solves 68 = .ok (.aload_n 0, 1) := by decide +kernel
theorem dX10_solves_69 : decode cX10_solves 69 = .ok (.iload_n 3, 1) := by decide +kernel
theorem dX10_solves_70 : decode cX10_solves 70 = .ok (.invokevirtual 220, 3) := by decide +kernel
theorem dX10_solves_73 : decode cX10_solves 73 = .ok (.iaload, 1) := by decide +kernel
theorem dX10_solves_74 : decode cX10_solves 74 = .ok (.iconst 2, 1) := by decide +kernel
theorem dX10_solves_75 : decode cX10_solves 75 = .ok (.if_icmp .ne 14, 3) := by decide +kernel
theorem dX10_solves_78 : decode cX10_solves 78 = .ok (.aload_n 0, 1) := by decide +kernel
theorem dX10_solves_79 : decode cX10_solves 79 = .ok (.iload_n 2, 1) := by decide +kernel
theorem dX10_solves_80 : decode cX10_solves 80 = .ok (.iload_n 3, 1) := by decide +kernel
theorem dX10_solves_81 : decode cX10_solves 81 = .ok (.iload 4, 2) := by decide +kernel
theorem dX10_solves_83 : decode cX10_solves 83 = .ok (.invokevirtual 306, 3) := by decide +kernel
theorem dX10_solves_86 : decode cX10_solves 86 = .ok (.goto 27, 3) := by decide +kernel
theorem dX10_solves_89 : decode cX10_solves 89 = .ok (.aload_n 0, 1) := by decide +kernel
theorem dX10_solves_90 : decode cX10_solves 90 = .ok (.getfield 52, 3) := by decide +kernel
theorem dX10_solves_93 : decode cX10_solves 93 = .ok (.iload_n 3, 1) := by decide +kernel
theorem dX10_solves_94 : decode cX10_solves 94 = .ok (.iaload, 1) := by decide +kernel
theorem dX10_solves_95 : decode cX10_solves 95 = .ok (.aload_n 0, 1) := by decide +kernel
theorem dX10_solves_96 : decode cX10_solves 96 = .ok (.getfield 52, 3) := by decide +kernel
theorem dX10_solves_99 : decode cX10_solves 99 = .ok (.iload 4, 2) := by decide +kernel
theorem dX10_solves_101 : decode cX10_solves 101 = .ok (.iaload, 1) := by decide +kernel
theorem dX10_solves_102 : decode cX10_solves 102 = .ok (.if_icmp .ne 11, 3) := by decide +kernel
theorem dX10_solves_105 : decode cX10_solves 105 = .ok (.aload_n 0, 1) := by decide +kernel
theorem dX10_solves_106 : decode cX10_solves 106 = .ok (.iload_n 2, 1) := by decide +kernel
theorem dX10_solves_107 : decode cX10_solves 107 = .ok (.iload_n 3, 1) := by decide +kernel
theorem dX10_solves_108 : decode cX10_solves 108 = .ok (.iload 4, 2) := by decide +kernel
theorem dX10_solves_110 : decode cX10_solves 110 = .ok (.invokevirtual 309, 3) := by decide +kernel
theorem dX10_solves_113 : decode cX10_solves 113 = .ok (.aload_n 0, 1) := by decide +kernel
theorem dX10_solves_114 : decode cX10_solves 114 = .ok (.getfield 61, 3) := by decide +kernel
theorem dX10_solves_117 : decode cX10_solves 117 = .ok (.iload_n 2, 1) := by decide +kernel
theorem dX10_solves_118 : decode cX10_solves 118 = .ok (.iload_n 3, 1) := by decide +kernel
theorem dX10_solves_119 : decode cX10_solves 119 = .ok (.iastore, 1) := by decide +kernel
theorem dX10_solves_120 : decode cX10_solves 120 = .ok (.aload_n 0, 1) := by decide +kernel
theorem dX10_solves_121 : decode cX10_solves 121 = .ok (.getfield 64, 3) := by decide +kernel
theorem dX10_solves_124 : decode cX10_solves 124 = .ok (.iload_n 2, 1) := by decide +kernel
theorem dX10_solves_125 : decode cX10_solves 125 = .ok (.iload 4, 2) := by decide +kernel
theorem dX10_solves_127 : decode cX10_solves 127 = .ok (.iastore, 1) := by decide +kernel
theorem dX10_solves_128 : decode cX10_solves 128 = .ok (.return_, 1) := by decide +kernel
set_option maxRecDepth 20000 in
theorem ggX10_byVariable_X10_areAlike : GoodIn wsX10_byVariable wsX10_areAlike := goodIn_r _ [6, 7, 8, 9, 5, 10, 11, 12, 13, 14, 15, 16, 17, 18, 19, 92, 93, 94, 95, 96, 97, 98, 99, 100, 101, 102, 103, 104, 105, 106, 107, 108, 109, 110, 111, 112, 113, 114, 115, 116, 117, 118, 119, 120, 121, 122, 123, 124, 125, 126, 127, 128, 129, 130, 131, 132, 133, 134, 135, 136, 137, 138, 139, 140, 141] rfl (by decide +kernel)
set_option maxRecDepth 20000 in
theorem gX10_byVariable_X10_areAlike : GoodIn wsX10_byVariable (wsV RX10 248 RX10 yX10_areAlike wsX10_areAlike) := goodIn_app (goodIn_of _ (by decide +kernel)) ggX10_byVariable_X10_areAlike
set_option maxRecDepth 20000 in
theorem ggX10_byVariable_X10_solves : GoodIn wsX10_byVariable wsX10_solves := goodIn_r _ [64, 60, 33, 34, 11, 24, 65, 66, 67, 5, 68, 69, 70, 71, 1, 72, 73, 74, 75, 76, 77, 78, 12, 13, 14, 15, 16, 17, 18, 19, 79, 80, 81, 82, 83, 84, 85, 25, 26, 27, 28, 86, 87, 88, 89, 90, 91, 23, 29, 30, 31, 32, 20, 21, 22, 35, 36, 37, 38, 39, 40, 41, 42, 43, 44, 0, 2, 3, 4, 6, 7, 8, 9, 10, 45, 46, 47, 48, 49, 50, 51, 52, 53, 54, 55, 56, 57, 58, 59, 61, 62, 63, 92, 93, 94, 95, 96, 97, 98, 99, 100, 101, 102, 103, 104, 105, 106, 107, 108, 109, 110, 111, 112, 113, 114, 115, 116, 117, 118, 119, 120, 121, 122, 123, 124, 125, 126, 127, 128, 129, 130, 131, 132, 133, 134, 135, 136, 137, 138, 139, 140, 141] rfl (by decide +kernel)
set_option maxRecDepth 20000 in
theorem gX10_byVariable_X10_solves : GoodIn wsX10_byVariable (wsV RX10 312 RX10 yX10_solves wsX10_solves) := goodIn_app (goodIn_of _ (by decide +kernel)) ggX10_byVariable_X10_solves
theorem dX10_byVariable_0 : decode cX10_byVariable 0 = .ok (.aload_n 0, 1) := by decide +kernel
theorem dX10_byVariable_1 : decode cX10_byVariable 1 = .ok (.getfield 67, 3) := by decide +kernel
theorem dX10_byVariable_4 : decode cX10_byVariable 4 = .ok (.iload_n 2, 1) := by decide +kernel
theorem dX10_byVariable_5 : decode cX10_byVariable 5 = .ok (.iaload, 1) := by decide +kernel
theorem dX10_byVariable_6 : decode cX10_byVariable 6 = .ok (.iconst (-1), 1) := by decide +kernel
theorem dX10_byVariable_7 : decode cX10_byVariable 7 = .ok (.if_icmp .eq 23, 3) := by decide +kernel
theorem dX10_byVariable_10 : decode cX10_byVariable 10 = .ok (.aload_n 0, 1) := by decide +kernel
theorem dX10_byVariable_11 : decode cX10_byVariable 11 = .ok (.aload_n 0, 1) := by decide +kernel
theorem dX10_byVariable_12 : decode cX10_byVariable 12 = .ok (.getfield 67, 3) := by decide +kernel
theorem dX10_byVariable_15 : decode cX10_byVariable 15 = .ok (.iload_n 2, 1) := by decide +kernel
theorem dX10_byVariable_16 : decode cX10_byVariable 16 = .ok (.iaload, 1) := by decide +kernel
theorem dX10_byVariable_17 : decode cX10_byVariable 17 = .ok (.iload_n 3, 1) := by decide +kernel
theorem dX10_byVariable_18 : decode cX10_byVariable 18 = .ok (.invokevirtual 248, 3) := by decide +kernel
theorem dX10_byVariable_21 : decode cX10_byVariable 21 = .ok (.ifCond .eq 8, 3) := by decide +kernel
theorem dX10_byVariable_24 : decode cX10_byVariable 24 = .ok (.aload_n 0, 1) := by decide +kernel
theorem dX10_byVariable_25 : decode cX10_byVariable 25 = .ok (.iload_n 1, 1) := by decide +kernel
theorem dX10_byVariable_26 : decode cX10_byVariable 26 = .ok (.invokevirtual 312, 3) := by decide +kernel
theorem dX10_byVariable_29 : decode cX10_byVariable 29 = .ok (.return_, 1) := by decide +kernel
theorem dX10_byVariable_30 : decode cX10_byVariable 30 = .ok (.aload_n 0, 1) := by decide +kernel
theorem dX10_byVariable_31 : decode cX10_byVariable 31 = .ok (.getfield 67, 3) := by decide +kernel
theorem dX10_byVariable_34 : decode cX10_byVariable 34 = .ok (.iload_n 2, 1) := by decide +kernel
theorem dX10_byVariable_35 : decode cX10_byVariable 35 = .ok (.iload_n 3, 1) := by decide +kernel
theorem dX10_byVariable_36 : decode cX10_byVariable 36 = .ok (.iastore, 1) := by decide +kernel
theorem dX10_byVariable_37 : decode cX10_byVariable 37 = .ok (.aload_n 0, 1) := by decide +kernel
theorem dX10_byVariable_38 : decode cX10_byVariable 38 = .ok (.iload_n 1, 1) := by decide +kernel
theorem dX10_byVariable_39 : decode cX10_byVariable 39 = .ok (.invokevirtual 312, 3) := by decide +kernel
theorem dX10_byVariable_42 : decode cX10_byVariable 42 = .ok (.aload_n 0, 1) := by decide +kernel
theorem dX10_byVariable_43 : decode cX10_byVariable 43 = .ok (.getfield 67, 3) := by decide +kernel
theorem dX10_byVariable_46 : decode cX10_byVariable 46 = .ok (.iload_n 2, 1) := by decide +kernel
theorem dX10_byVariable_47 : decode cX10_byVariable 47 = .ok (.iconst (-1), 1) := by decide +kernel
theorem dX10_byVariable_48 : decode cX10_byVariable 48 = .ok (.iastore, 1) := by decide +kernel
theorem dX10_byVariable_49 : decode cX10_byVariable 49 = .ok (.return_, 1) := by decide +kernel
theorem dX10_aims_0 : decode cX10_aims 0 = .ok (.aload_n 0, 1) := by decide +kernel
theorem dX10_aims_1 : decode cX10_aims 1 = .ok (.getfield 61, 3) := by decide +kernel
theorem dX10_aims_4 : decode cX10_aims 4 = .ok (.iload_n 1, 1) := by decide +kernel
theorem dX10_aims_5 : decode cX10_aims 5 = .ok (.iload_n 2, 1) := by decide +kernel
theorem dX10_aims_6 : decode cX10_aims 6 = .ok (.iastore, 1) := by decide +kernel
theorem dX10_aims_7 : decode cX10_aims 7 = .ok (.aload_n 0, 1) := by decide +kernel
theorem dX10_aims_8 : decode cX10_aims 8 = .ok (.getfield 64, 3) := by decide +kernel
theorem dX10_aims_11 : decode cX10_aims 11 = .ok (.iload_n 1, 1) := by decide +kernel
theorem dX10_aims_12 : decode cX10_aims 12 = .ok (.iload_n 3, 1) := by decide +kernel
theorem dX10_aims_13 : decode cX10_aims 13 = .ok (.iastore, 1) := by decide +kernel
theorem dX10_aims_14 : decode cX10_aims 14 = .ok (.return_, 1) := by decide +kernel
set_option maxRecDepth 20000 in
theorem ggX10_byParts_X10_partsAt : GoodIn wsX10_byParts wsX10_partsAt := goodIn_r _ [6, 7, 92, 93, 94, 95, 96, 97, 98, 99, 100, 101, 102, 103, 104, 105, 106, 107, 108, 109, 110, 111, 112, 113, 114, 115, 116, 117, 118, 119, 120, 121, 122, 123, 124, 125, 126, 127, 128, 129, 130, 131, 132, 133, 134, 135, 136, 137, 138, 139, 140, 141] rfl (by decide +kernel)
set_option maxRecDepth 20000 in
theorem gX10_byParts_X10_partsAt : GoodIn wsX10_byParts (wsV RX10 209 RX10 yX10_partsAt wsX10_partsAt) := goodIn_app (goodIn_of _ (by decide +kernel)) ggX10_byParts_X10_partsAt
set_option maxRecDepth 20000 in
theorem ggX10_byParts_X10_operatorAt : GoodIn wsX10_byParts wsX10_operatorAt := goodIn_r _ [11, 7, 92, 93, 94, 95, 96, 97, 98, 99, 100, 101, 102, 103, 104, 105, 106, 107, 108, 109, 110, 111, 112, 113, 114, 115, 116, 117, 118, 119, 120, 121, 122, 123, 124, 125, 126, 127, 128, 129, 130, 131, 132, 133, 134, 135, 136, 137, 138, 139, 140, 141] rfl (by decide +kernel)
set_option maxRecDepth 20000 in
theorem gX10_byParts_X10_operatorAt : GoodIn wsX10_byParts (wsV RX10 220 RX10 yX10_operatorAt wsX10_operatorAt) := goodIn_app (goodIn_of _ (by decide +kernel)) ggX10_byParts_X10_operatorAt
set_option maxRecDepth 20000 in
theorem ggX10_byParts_X10_aims : GoodIn wsX10_byParts wsX10_aims := goodIn_r _ [15, 16, 17, 92, 93, 94, 95, 96, 97, 98, 99, 100, 101, 102, 103, 104, 105, 106, 107, 108, 109, 110, 111, 112, 113, 114, 115, 116, 117, 118, 119, 120, 121, 122, 123, 124, 125, 126, 127, 128, 129, 130, 131, 132, 133, 134, 135, 136, 137, 138, 139, 140, 141] rfl (by decide +kernel)
set_option maxRecDepth 20000 in
theorem gX10_byParts_X10_aims : GoodIn wsX10_byParts (wsV RX10 315 RX10 yX10_aims wsX10_aims) := goodIn_app (goodIn_of _ (by decide +kernel)) ggX10_byParts_X10_aims
set_option maxRecDepth 20000 in
theorem ggX10_byParts_X10_behind : GoodIn wsX10_byParts wsX10_behind := goodIn_r _ [21, 2, 3, 4, 5, 6, 7, 92, 93, 94, 95, 96, 97, 98, 99, 100, 101, 102, 103, 104, 105, 106, 107, 108, 109, 110, 111, 112, 113, 114, 115, 116, 117, 118, 119, 120, 121, 122, 123, 124, 125, 126, 127, 128, 129, 130, 131, 132, 133, 134, 135, 136, 137, 138, 139, 140, 141] rfl (by decide +kernel)
set_option maxRecDepth 20000 in
theorem gX10_byParts_X10_behind : GoodIn wsX10_byParts (wsV RX10 213 RX10 yX10_behind wsX10_behind) := goodIn_app (goodIn_of _ (by decide +kernel)) ggX10_byParts_X10_behind
set_option maxRecDepth 20000 in
theorem ggX10_byParts_X10_solves : GoodIn wsX10_byParts wsX10_solves := goodIn_r _ [64, 60, 16, 17, 7, 1, 65, 66, 67, 5, 68, 69, 70, 71, 36, 72, 73, 74, 75, 76, 77, 78, 18, 19, 20, 21, 2, 3, 4, 6, 79, 80, 81, 82, 83, 84, 85, 8, 9, 10, 11, 86, 87, 88, 89, 90, 91, 0, 12, 13, 14, 15, 22, 23, 24, 25, 26, 27, 28, 29, 30, 31, 32, 33, 34, 35, 37, 38, 39, 40, 41, 42, 43, 44, 45, 46, 47, 48, 49, 50, 51, 52, 53, 54, 55, 56, 57, 58, 59, 61, 62, 63, 92, 93, 94, 95, 96, 97, 98, 99, 100, 101, 102, 103, 104, 105, 106, 107, 108, 109, 110, 111, 112, 113, 114, 115, 116, 117, 118, 119, 120, 121, 122, 123, 124, 125, 126, 127, 128, 129, 130, 131, 132, 133, 134, 135, 136, 137, 138, 139, 140, 141] rfl (by decide +kernel)
set_option maxRecDepth 20000 in
theorem gX10_byParts_X10_solves : GoodIn wsX10_byParts (wsV RX10 312 RX10 yX10_solves wsX10_solves) := goodIn_app (goodIn_of _ (by decide +kernel)) ggX10_byParts_X10_solves
theorem dX10_byParts_0 : decode cX10_byParts 0 = .ok (.aload_n 0, 1) := by decide +kernel
theorem dX10_byParts_1 : decode cX10_byParts 1 = .ok (.iload_n 2, 1) := by decide +kernel
theorem dX10_byParts_2 : decode cX10_byParts 2 = .ok (.invokevirtual 209, 3) := by decide +kernel
theorem dX10_byParts_5 : decode cX10_byParts 5 = .ok (.istore 4, 2) := by decide +kernel
theorem dX10_byParts_7 : decode cX10_byParts 7 = .ok (.aload_n 0, 1) := by decide +kernel
theorem dX10_byParts_8 : decode cX10_byParts 8 = .ok (.getfield 33, 3) := by decide +kernel
theorem dX10_byParts_11 : decode cX10_byParts 11 = .ok (.aload_n 0, 1) := by decide +kernel
theorem dX10_byParts_12 : decode cX10_byParts 12 = .ok (.iload_n 2, 1) := by decide +kernel
theorem dX10_byParts_13 : decode cX10_byParts 13 = .ok (.invokevirtual 220, 3) := by decide +kernel
theorem dX10_byParts_16 : decode cX10_byParts 16 = .ok (.iaload, 1) := by decide +kernel
theorem dX10_byParts_17 : decode cX10_byParts 17 = .ok (.ifCond .ne 66, 3) := by decide +kernel
theorem dX10_byParts_20 : decode cX10_byParts 20 = .ok (.iload_n 2, 1) := by decide +kernel
theorem dX10_byParts_21 : decode cX10_byParts 21 = .ok (.iconst 1, 1) := by decide +kernel
theorem dX10_byParts_22 : decode cX10_byParts 22 = .ok (.iadd, 1) := by decide +kernel
theorem dX10_byParts_23 : decode cX10_byParts 23 = .ok (.istore 5, 2) := by decide +kernel
theorem dX10_byParts_25 : decode cX10_byParts 25 = .ok (.iload_n 3, 1) := by decide +kernel
theorem dX10_byParts_26 : decode cX10_byParts 26 = .ok (.iconst 1, 1) := by decide +kernel
theorem dX10_byParts_27 : decode cX10_byParts 27 = .ok (.iadd, 1) := by decide +kernel
theorem dX10_byParts_28 : decode cX10_byParts 28 = .ok (.istore 6, 2) := by decide +kernel
theorem dX10_byParts_30 : decode cX10_byParts 30 = .ok (.iconst 0, 1) := by decide +kernel
theorem dX10_byParts_31 : decode cX10_byParts 31 = .ok (.istore 7, 2) := by decide +kernel
theorem dX10_byParts_33 : decode cX10_byParts 33 = .ok (.iload 7, 2) := by decide +kernel
theorem dX10_byParts_35 : decode cX10_byParts 35 = .ok (.iload 4, 2) := by decide +kernel
theorem dX10_byParts_37 : decode cX10_byParts 37 = .ok (.if_icmp .ge 37, 3) := by decide +kernel
theorem dX10_byParts_40 : decode cX10_byParts 40 = .ok (.aload_n 0, 1) := by decide +kernel
theorem dX10_byParts_41 : decode cX10_byParts 41 = .ok (.iload_n 1, 1) := by decide +kernel
theorem dX10_byParts_42 : decode cX10_byParts 42 = .ok (.iload 7, 2) := by decide +kernel
theorem dX10_byParts_44 : decode cX10_byParts 44 = .ok (.iadd, 1) := by decide +kernel
theorem dX10_byParts_45 : decode cX10_byParts 45 = .ok (.iload 5, 2) := by decide +kernel
theorem dX10_byParts_47 : decode cX10_byParts 47 = .ok (.iload 6, 2) := by decide +kernel
theorem dX10_byParts_49 : decode cX10_byParts 49 = .ok (.invokevirtual 315, 3) := by decide +kernel
theorem dX10_byParts_52 : decode cX10_byParts 52 = .ok (.aload_n 0, 1) := by decide +kernel
theorem dX10_byParts_53 : decode cX10_byParts 53 = .ok (.iload 5, 2) := by decide +kernel
theorem dX10_byParts_55 : decode cX10_byParts 55 = .ok (.invokevirtual 213, 3) := by decide +kernel
theorem dX10_byParts_58 : decode cX10_byParts 58 = .ok (.istore 5, 2) := by decide +kernel
theorem dX10_byParts_60 : decode cX10_byParts 60 = .ok (.aload_n 0, 1) := by decide +kernel
theorem dX10_byParts_61 : decode cX10_byParts 61 = .ok (.iload 6, 2) := by decide +kernel
theorem dX10_byParts_63 : decode cX10_byParts 63 = .ok (.invokevirtual 213, 3) := by decide +kernel
theorem dX10_byParts_66 : decode cX10_byParts 66 = .ok (.istore 6, 2) := by decide +kernel
theorem dX10_byParts_68 : decode cX10_byParts 68 = .ok (.iinc 7 1, 3) := by decide +kernel
theorem dX10_byParts_71 : decode cX10_byParts 71 = .ok (.goto (-38), 3) := by decide +kernel
theorem dX10_byParts_74 : decode cX10_byParts 74 = .ok (.aload_n 0, 1) := by decide +kernel
theorem dX10_byParts_75 : decode cX10_byParts 75 = .ok (.iload_n 1, 1) := by decide +kernel
theorem dX10_byParts_76 : decode cX10_byParts 76 = .ok (.iload 4, 2) := by decide +kernel
theorem dX10_byParts_78 : decode cX10_byParts 78 = .ok (.iadd, 1) := by decide +kernel
theorem dX10_byParts_79 : decode cX10_byParts 79 = .ok (.invokevirtual 312, 3) := by decide +kernel
theorem dX10_byParts_82 : decode cX10_byParts 82 = .ok (.return_, 1) := by decide +kernel
theorem dX10_byParts_83 : decode cX10_byParts 83 = .ok (.aload_n 0, 1) := by decide +kernel
theorem dX10_byParts_84 : decode cX10_byParts 84 = .ok (.iload_n 1, 1) := by decide +kernel
theorem dX10_byParts_85 : decode cX10_byParts 85 = .ok (.iload_n 2, 1) := by decide +kernel
theorem dX10_byParts_86 : decode cX10_byParts 86 = .ok (.iconst 1, 1) := by decide +kernel
theorem dX10_byParts_87 : decode cX10_byParts 87 = .ok (.iadd, 1) := by decide +kernel
theorem dX10_byParts_88 : decode cX10_byParts 88 = .ok (.iload_n 3, 1) := by decide +kernel
theorem dX10_byParts_89 : decode cX10_byParts 89 = .ok (.iconst 1, 1) := by decide +kernel
theorem dX10_byParts_90 : decode cX10_byParts 90 = .ok (.iadd, 1) := by decide +kernel
theorem dX10_byParts_91 : decode cX10_byParts 91 = .ok (.invokevirtual 315, 3) := by decide +kernel
theorem dX10_byParts_94 : decode cX10_byParts 94 = .ok (.aload_n 0, 1) := by decide +kernel
theorem dX10_byParts_95 : decode cX10_byParts 95 = .ok (.iload_n 1, 1) := by decide +kernel
theorem dX10_byParts_96 : decode cX10_byParts 96 = .ok (.iconst 1, 1) := by decide +kernel
theorem dX10_byParts_97 : decode cX10_byParts 97 = .ok (.iadd, 1) := by decide +kernel
theorem dX10_byParts_98 : decode cX10_byParts 98 = .ok (.aload_n 0, 1) := by decide +kernel
theorem dX10_byParts_99 : decode cX10_byParts 99 = .ok (.iload_n 2, 1) := by decide +kernel
theorem dX10_byParts_100 : decode cX10_byParts 100 = .ok (.iconst 1, 1) := by decide +kernel
theorem dX10_byParts_101 : decode cX10_byParts 101 = .ok (.iadd, 1) := by decide +kernel
theorem dX10_byParts_102 : decode cX10_byParts 102 = .ok (.invokevirtual 213, 3) := by decide +kernel
theorem dX10_byParts_105 : decode cX10_byParts 105 = .ok (.aload_n 0, 1) := by decide +kernel
theorem dX10_byParts_106 : decode cX10_byParts 106 = .ok (.iload_n 3, 1) := by decide +kernel
theorem dX10_byParts_107 : decode cX10_byParts 107 = .ok (.iconst 1, 1) := by decide +kernel
theorem dX10_byParts_108 : decode cX10_byParts 108 = .ok (.iadd, 1) := by decide +kernel
theorem dX10_byParts_109 : decode cX10_byParts 109 = .ok (.invokevirtual 213, 3) := by decide +kernel
theorem dX10_byParts_112 : decode cX10_byParts 112 = .ok (.invokevirtual 315, 3) := by decide +kernel
theorem dX10_byParts_115 : decode cX10_byParts 115 = .ok (.aload_n 0, 1) := by decide +kernel
theorem dX10_byParts_116 : decode cX10_byParts 116 = .ok (.iload_n 1, 1) := by decide +kernel
theorem dX10_byParts_117 : decode cX10_byParts 117 = .ok (.iconst 2, 1) := by decide +kernel
theorem dX10_byParts_118 : decode cX10_byParts 118 = .ok (.iadd, 1) := by decide +kernel
theorem dX10_byParts_119 : decode cX10_byParts 119 = .ok (.invokevirtual 312, 3) := by decide +kernel
theorem dX10_byParts_122 : decode cX10_byParts 122 = .ok (.aload_n 0, 1) := by decide +kernel
theorem dX10_byParts_123 : decode cX10_byParts 123 = .ok (.iload_n 1, 1) := by decide +kernel
theorem dX10_byParts_124 : decode cX10_byParts 124 = .ok (.iload_n 2, 1) := by decide +kernel
theorem dX10_byParts_125 : decode cX10_byParts 125 = .ok (.iconst 1, 1) := by decide +kernel
theorem dX10_byParts_126 : decode cX10_byParts 126 = .ok (.iadd, 1) := by decide +kernel
theorem dX10_byParts_127 : decode cX10_byParts 127 = .ok (.aload_n 0, 1) := by decide +kernel
theorem dX10_byParts_128 : decode cX10_byParts 128 = .ok (.iload_n 3, 1) := by decide +kernel
theorem dX10_byParts_129 : decode cX10_byParts 129 = .ok (.iconst 1, 1) := by decide +kernel
theorem dX10_byParts_130 : decode cX10_byParts 130 = .ok (.iadd, 1) := by decide +kernel
theorem dX10_byParts_131 : decode cX10_byParts 131 = .ok (.invokevirtual 213, 3) := by decide +kernel
theorem dX10_byParts_134 : decode cX10_byParts 134 = .ok (.invokevirtual 315, 3) := by decide +kernel
theorem dX10_byParts_137 : decode cX10_byParts 137 = .ok (.aload_n 0, 1) := by decide +kernel
theorem dX10_byParts_138 : decode cX10_byParts 138 = .ok (.iload_n 1, 1) := by decide +kernel
theorem dX10_byParts_139 : decode cX10_byParts 139 = .ok (.iconst 1, 1) := by decide +kernel
theorem dX10_byParts_140 : decode cX10_byParts 140 = .ok (.iadd, 1) := by decide +kernel
theorem dX10_byParts_141 : decode cX10_byParts 141 = .ok (.aload_n 0, 1) := by decide +kernel
theorem dX10_byParts_142 : decode cX10_byParts 142 = .ok (.iload_n 2, 1) := by decide +kernel
theorem dX10_byParts_143 : decode cX10_byParts 143 = .ok (.iconst 1, 1) := by decide +kernel
theorem dX10_byParts_144 : decode cX10_byParts 144 = .ok (.iadd, 1) := by decide +kernel
theorem dX10_byParts_145 : decode cX10_byParts 145 = .ok (.invokevirtual 213, 3) := by decide +kernel
theorem dX10_byParts_148 : decode cX10_byParts 148 = .ok (.iload_n 3, 1) := by decide +kernel
theorem dX10_byParts_149 : decode cX10_byParts 149 = .ok (.iconst 1, 1) := by decide +kernel
theorem dX10_byParts_150 : decode cX10_byParts 150 = .ok (.iadd, 1) := by decide +kernel
theorem dX10_byParts_151 : decode cX10_byParts 151 = .ok (.invokevirtual 315, 3) := by decide +kernel
theorem dX10_byParts_154 : decode cX10_byParts 154 = .ok (.aload_n 0, 1) := by decide +kernel
theorem dX10_byParts_155 : decode cX10_byParts 155 = .ok (.iload_n 1, 1) := by decide +kernel
theorem dX10_byParts_156 : decode cX10_byParts 156 = .ok (.iconst 2, 1) := by decide +kernel
theorem dX10_byParts_157 : decode cX10_byParts 157 = .ok (.iadd, 1) := by decide +kernel
theorem dX10_byParts_158 : decode cX10_byParts 158 = .ok (.invokevirtual 312, 3) := by decide +kernel
theorem dX10_byParts_161 : decode cX10_byParts 161 = .ok (.return_, 1) := by decide +kernel
set_option maxRecDepth 20000 in
theorem ggX10_byShares_X10_operatorAt : GoodIn wsX10_byShares wsX10_operatorAt := goodIn_r _ [9, 4, 92, 93, 94, 95, 96, 97, 98, 99, 100, 101, 102, 103, 104, 105, 106, 107, 108, 109, 110, 111, 112, 113, 114, 115, 116, 117, 118, 119, 120, 121, 122, 123, 124, 125, 126, 127, 128, 129, 130, 131, 132, 133, 134, 135, 136, 137, 138, 139, 140, 141] rfl (by decide +kernel)
set_option maxRecDepth 20000 in
theorem gX10_byShares_X10_operatorAt : GoodIn wsX10_byShares (wsV RX10 220 RX10 yX10_operatorAt wsX10_operatorAt) := goodIn_app (goodIn_of _ (by decide +kernel)) ggX10_byShares_X10_operatorAt
set_option maxRecDepth 20000 in
theorem ggX10_byShares_X10_partsAt : GoodIn wsX10_byShares wsX10_partsAt := goodIn_r _ [13, 4, 92, 93, 94, 95, 96, 97, 98, 99, 100, 101, 102, 103, 104, 105, 106, 107, 108, 109, 110, 111, 112, 113, 114, 115, 116, 117, 118, 119, 120, 121, 122, 123, 124, 125, 126, 127, 128, 129, 130, 131, 132, 133, 134, 135, 136, 137, 138, 139, 140, 141] rfl (by decide +kernel)
set_option maxRecDepth 20000 in
theorem gX10_byShares_X10_partsAt : GoodIn wsX10_byShares (wsV RX10 209 RX10 yX10_partsAt wsX10_partsAt) := goodIn_app (goodIn_of _ (by decide +kernel)) ggX10_byShares_X10_partsAt
set_option maxRecDepth 20000 in
theorem ggX10_byShares_X10_behind : GoodIn wsX10_byShares wsX10_behind := goodIn_r _ [17, 10, 11, 12, 8, 13, 4, 92, 93, 94, 95, 96, 97, 98, 99, 100, 101, 102, 103, 104, 105, 106, 107, 108, 109, 110, 111, 112, 113, 114, 115, 116, 117, 118, 119, 120, 121, 122, 123, 124, 125, 126, 127, 128, 129, 130, 131, 132, 133, 134, 135, 136, 137, 138, 139, 140, 141] rfl (by decide +kernel)
set_option maxRecDepth 20000 in
theorem gX10_byShares_X10_behind : GoodIn wsX10_byShares (wsV RX10 213 RX10 yX10_behind wsX10_behind) := goodIn_app (goodIn_of _ (by decide +kernel)) ggX10_byShares_X10_behind
set_option maxRecDepth 20000 in
theorem ggX10_byShares_X10_codeOf : GoodIn wsX10_byShares wsX10_codeOf := goodIn_r _ [20] rfl (by decide +kernel)
set_option maxRecDepth 20000 in
theorem gX10_byShares_X10_codeOf : GoodIn wsX10_byShares (va_wsS RX10 223 yX10_codeOf wsX10_codeOf) := goodIn_app (goodIn_of _ (by decide +kernel)) ggX10_byShares_X10_codeOf
set_option maxRecDepth 20000 in
theorem ggX10_byShares_X10_shares : GoodIn wsX10_byShares wsX10_shares := goodIn_r _ [59, 60, 2, 61, 62, 63, 8, 37, 38, 39, 40, 41, 42, 43, 44, 4, 14, 15, 16, 17, 10, 11, 12, 13, 51, 52, 53, 54, 25, 3, 5, 6, 7, 9, 47, 48, 49, 50, 21, 22, 23, 24, 26, 27, 28, 29, 30, 31, 32, 33, 34, 0, 1, 18, 19, 20, 35, 36, 45, 46, 55, 56, 57, 58, 64, 65, 66, 67, 68, 69, 70, 71, 72, 73, 74, 75, 76, 77, 78, 79, 80, 81, 82, 83, 84, 85, 86, 87, 88, 89, 90, 91, 92, 93, 94, 95, 96, 97, 98, 99, 100, 101, 102, 103, 104, 105, 106, 107, 108, 109, 110, 111, 112, 113, 114, 115, 116, 117, 118, 119, 120, 121, 122, 123, 124, 125, 126, 127, 128, 129, 130, 131, 132, 133, 134, 135, 136, 137, 138, 139, 140, 141] rfl (by decide +kernel)
set_option maxRecDepth 20000 in
theorem gX10_byShares_X10_shares : GoodIn wsX10_byShares (wsV RX10 321 RX10 yX10_shares wsX10_shares) := goodIn_app (goodIn_of _ (by decide +kernel)) ggX10_byShares_X10_shares
theorem dX10_byShares_0 : decode cX10_byShares 0 = .ok (.aload_n 0, 1) := by decide +kernel
theorem dX10_byShares_1 : decode cX10_byShares 1 = .ok (.iload_n 2, 1) := by decide +kernel
theorem dX10_byShares_2 : decode cX10_byShares 2 = .ok (.invokevirtual 220, 3) := by decide +kernel
theorem dX10_byShares_5 : decode cX10_byShares 5 = .ok (.istore 4, 2) := by decide +kernel
theorem dX10_byShares_7 : decode cX10_byShares 7 = .ok (.aload_n 0, 1) := by decide +kernel
theorem dX10_byShares_8 : decode cX10_byShares 8 = .ok (.getfield 318, 3) := by decide +kernel
theorem dX10_byShares_11 : decode cX10_byShares 11 = .ok (.istore 5, 2) := by decide +kernel
theorem dX10_byShares_13 : decode cX10_byShares 13 = .ok (.aload_n 0, 1) := by decide +kernel
theorem dX10_byShares_14 : decode cX10_byShares 14 = .ok (.iload_n 2, 1) := by decide +kernel
theorem dX10_byShares_15 : decode cX10_byShares 15 = .ok (.invokevirtual 209, 3) := by decide +kernel
theorem dX10_byShares_18 : decode cX10_byShares 18 = .ok (.istore 6, 2) := by decide +kernel
theorem dX10_byShares_20 : decode cX10_byShares 20 = .ok (.iload_n 2, 1) := by decide +kernel
theorem dX10_byShares_21 : decode cX10_byShares 21 = .ok (.iconst 1, 1) := by decide +kernel
theorem dX10_byShares_22 : decode cX10_byShares 22 = .ok (.iadd, 1) := by decide +kernel
theorem dX10_byShares_23 : decode cX10_byShares 23 = .ok (.istore 7, 2) := by decide +kernel
theorem dX10_byShares_25 : decode cX10_byShares 25 = .ok (.iconst 0, 1) := by decide +kernel
theorem dX10_byShares_26 : decode cX10_byShares 26 = .ok (.istore 8, 2) := by decide +kernel
theorem dX10_byShares_28 : decode cX10_byShares 28 = .ok (.iload 8, 2) := by decide +kernel
theorem dX10_byShares_30 : decode cX10_byShares 30 = .ok (.iload 6, 2) := by decide +kernel
theorem dX10_byShares_32 : decode cX10_byShares 32 = .ok (.if_icmp .ge 38, 3) := by decide +kernel
theorem dX10_byShares_35 : decode cX10_byShares 35 = .ok (.aload_n 0, 1) := by decide +kernel
theorem dX10_byShares_36 : decode cX10_byShares 36 = .ok (.getfield 70, 3) := by decide +kernel
theorem dX10_byShares_39 : decode cX10_byShares 39 = .ok (.aload_n 0, 1) := by decide +kernel
theorem dX10_byShares_40 : decode cX10_byShares 40 = .ok (.getfield 318, 3) := by decide +kernel
theorem dX10_byShares_43 : decode cX10_byShares 43 = .ok (.iload 7, 2) := by decide +kernel
theorem dX10_byShares_45 : decode cX10_byShares 45 = .ok (.iastore, 1) := by decide +kernel
theorem dX10_byShares_46 : decode cX10_byShares 46 = .ok (.aload_n 0, 1) := by decide +kernel
theorem dX10_byShares_47 : decode cX10_byShares 47 = .ok (.dup, 1) := by decide +kernel
theorem dX10_byShares_48 : decode cX10_byShares 48 = .ok (.getfield 318, 3) := by decide +kernel
theorem dX10_byShares_51 : decode cX10_byShares 51 = .ok (.iconst 1, 1) := by decide +kernel
theorem dX10_byShares_52 : decode cX10_byShares 52 = .ok (.iadd, 1) := by decide +kernel
theorem dX10_byShares_53 : decode cX10_byShares 53 = .ok (.putfield 318, 3) := by decide +kernel
theorem dX10_byShares_56 : decode cX10_byShares 56 = .ok (.aload_n 0, 1) := by decide +kernel
theorem dX10_byShares_57 : decode cX10_byShares 57 = .ok (.iload 7, 2) := by decide +kernel
theorem dX10_byShares_59 : decode cX10_byShares 59 = .ok (.invokevirtual 213, 3) := by decide +kernel
theorem dX10_byShares_62 : decode cX10_byShares 62 = .ok (.istore 7, 2) := by decide +kernel
theorem dX10_byShares_64 : decode cX10_byShares 64 = .ok (.iinc 8 1, 3) := by decide +kernel
theorem dX10_byShares_67 : decode cX10_byShares 67 = .ok (.goto (-39), 3) := by decide +kernel
theorem dX10_byShares_70 : decode cX10_byShares 70 = .ok (.iconst 0, 1) := by decide +kernel
theorem dX10_byShares_71 : decode cX10_byShares 71 = .ok (.istore 8, 2) := by decide +kernel
theorem dX10_byShares_73 : decode cX10_byShares 73 = .ok (.aload_n 0, 1) := by decide +kernel
theorem dX10_byShares_74 : decode cX10_byShares 74 = .ok (.iload_n 3, 1) := by decide +kernel
theorem dX10_byShares_75 : decode cX10_byShares 75 = .ok (.invokevirtual 220, 3) := by decide +kernel
theorem dX10_byShares_78 : decode cX10_byShares 78 = .ok (.iload 4, 2) := by decide +kernel
theorem dX10_byShares_80 : decode cX10_byShares 80 = .ok (.if_icmp .ne 63, 3) := by decide +kernel
theorem dX10_byShares_83 : decode cX10_byShares 83 = .ok (.iload_n 3, 1) := by decide +kernel
theorem dX10_byShares_84 : decode cX10_byShares 84 = .ok (.iconst 1, 1) := by decide +kernel
theorem dX10_byShares_85 : decode cX10_byShares 85 = .ok (.iadd, 1) := by decide +kernel
theorem dX10_byShares_86 : decode cX10_byShares 86 = .ok (.istore 9, 2) := by decide +kernel
theorem dX10_byShares_88 : decode cX10_byShares 88 = .ok (.aload_n 0, 1) := by decide +kernel
theorem dX10_byShares_89 : decode cX10_byShares 89 = .ok (.iload_n 3, 1) := by decide +kernel
theorem dX10_byShares_90 : decode cX10_byShares 90 = .ok (.invokevirtual 209, 3) := by decide +kernel
theorem dX10_byShares_93 : decode cX10_byShares 93 = .ok (.istore 8, 2) := by decide +kernel
theorem dX10_byShares_95 : decode cX10_byShares 95 = .ok (.iconst 0, 1) := by decide +kernel
theorem dX10_byShares_96 : decode cX10_byShares 96 = .ok (.istore 10, 2) := by decide +kernel
theorem dX10_byShares_98 : decode cX10_byShares 98 = .ok (.iload 10, 2) := by decide +kernel
theorem dX10_byShares_100 : decode cX10_byShares 100 = .ok (.iload 8, 2) := by decide +kernel
theorem dX10_byShares_102 : decode cX10_byShares 102 = .ok (.if_icmp .ge 38, 3) := by decide +kernel
theorem dX10_byShares_105 : decode cX10_byShares 105 = .ok (.aload_n 0, 1) := by decide +kernel
theorem dX10_byShares_106 : decode cX10_byShares 106 = .ok (.getfield 70, 3) := by decide +kernel
theorem dX10_byShares_109 : decode cX10_byShares 109 = .ok (.aload_n 0, 1) := by decide +kernel
theorem dX10_byShares_110 : decode cX10_byShares 110 = .ok (.getfield 318, 3) := by decide +kernel
theorem dX10_byShares_113 : decode cX10_byShares 113 = .ok (.iload 9, 2) := by decide +kernel
theorem dX10_byShares_115 : decode cX10_byShares 115 = .ok (.iastore, 1) := by decide +kernel
theorem dX10_byShares_116 : decode cX10_byShares 116 = .ok (.aload_n 0, 1) := by decide +kernel
theorem dX10_byShares_117 : decode cX10_byShares 117 = .ok (.dup, 1) := by decide +kernel
theorem dX10_byShares_118 : decode cX10_byShares 118 = .ok (.getfield 318, 3) := by decide +kernel
theorem dX10_byShares_121 : decode cX10_byShares 121 = .ok (.iconst 1, 1) := by decide +kernel
theorem dX10_byShares_122 : decode cX10_byShares 122 = .ok (.iadd, 1) := by decide +kernel
theorem dX10_byShares_123 : decode cX10_byShares 123 = .ok (.putfield 318, 3) := by decide +kernel
theorem dX10_byShares_126 : decode cX10_byShares 126 = .ok (.aload_n 0, 1) := by decide +kernel
theorem dX10_byShares_127 : decode cX10_byShares 127 = .ok (.iload 9, 2) := by decide +kernel
theorem dX10_byShares_129 : decode cX10_byShares 129 = .ok (.invokevirtual 213, 3) := by decide +kernel
theorem dX10_byShares_132 : decode cX10_byShares 132 = .ok (.istore 9, 2) := by decide +kernel
theorem dX10_byShares_134 : decode cX10_byShares 134 = .ok (.iinc 10 1, 3) := by decide +kernel
theorem dX10_byShares_137 : decode cX10_byShares 137 = .ok (.goto (-39), 3) := by decide +kernel
theorem dX10_byShares_140 : decode cX10_byShares 140 = .ok (.goto 57, 3) := by decide +kernel
theorem dX10_byShares_143 : decode cX10_byShares 143 = .ok (.aload_n 0, 1) := by decide +kernel
theorem dX10_byShares_144 : decode cX10_byShares 144 = .ok (.getfield 39, 3) := by decide +kernel
theorem dX10_byShares_147 : decode cX10_byShares 147 = .ok (.iload 4, 2) := by decide +kernel
theorem dX10_byShares_149 : decode cX10_byShares 149 = .ok (.iaload, 1) := by decide +kernel
theorem dX10_byShares_150 : decode cX10_byShares 150 = .ok (.iconst (-1), 1) := by decide +kernel
theorem dX10_byShares_151 : decode cX10_byShares 151 = .ok (.if_icmp .eq 23, 3) := by decide +kernel
theorem dX10_byShares_154 : decode cX10_byShares 154 = .ok (.aload_n 0, 1) := by decide +kernel
theorem dX10_byShares_155 : decode cX10_byShares 155 = .ok (.getfield 52, 3) := by decide +kernel
theorem dX10_byShares_158 : decode cX10_byShares 158 = .ok (.iload_n 3, 1) := by decide +kernel
theorem dX10_byShares_159 : decode cX10_byShares 159 = .ok (.iaload, 1) := by decide +kernel
theorem dX10_byShares_160 : decode cX10_byShares 160 = .ok (.aload_n 0, 1) := by decide +kernel
theorem dX10_byShares_161 : decode cX10_byShares 161 = .ok (.getfield 39, 3) := by decide +kernel
theorem dX10_byShares_164 : decode cX10_byShares 164 = .ok (.iload 4, 2) := by decide +kernel
theorem dX10_byShares_166 : decode cX10_byShares 166 = .ok (.iaload, 1) := by decide +kernel
theorem dX10_byShares_167 : decode cX10_byShares 167 = .ok (.iconst 0, 1) := by decide +kernel
theorem dX10_byShares_168 : decode cX10_byShares 168 = .ok (.invokestatic 223, 3) := by decide +kernel
theorem dX10_byShares_171 : decode cX10_byShares 171 = .ok (.if_icmp .eq 26, 3) := by decide +kernel
theorem dX10_byShares_174 : decode cX10_byShares 174 = .ok (.aload_n 0, 1) := by decide +kernel
theorem dX10_byShares_175 : decode cX10_byShares 175 = .ok (.getfield 70, 3) := by decide +kernel
theorem dX10_byShares_178 : decode cX10_byShares 178 = .ok (.aload_n 0, 1) := by decide +kernel
theorem dX10_byShares_179 : decode cX10_byShares 179 = .ok (.getfield 318, 3) := by decide +kernel
theorem dX10_byShares_182 : decode cX10_byShares 182 = .ok (.iload_n 3, 1) := by decide +kernel
theorem dX10_byShares_183 : decode cX10_byShares 183 = .ok (.iastore, 1) := by decide +kernel
theorem dX10_byShares_184 : decode cX10_byShares 184 = .ok (.aload_n 0, 1) := by decide +kernel
theorem dX10_byShares_185 : decode cX10_byShares 185 = .ok (.dup, 1) := by decide +kernel
theorem dX10_byShares_186 : decode cX10_byShares 186 = .ok (.getfield 318, 3) := by decide +kernel
theorem dX10_byShares_189 : decode cX10_byShares 189 = .ok (.iconst 1, 1) := by decide +kernel
theorem dX10_byShares_190 : decode cX10_byShares 190 = .ok (.iadd, 1) := by decide +kernel
theorem dX10_byShares_191 : decode cX10_byShares 191 = .ok (.putfield 318, 3) := by decide +kernel
theorem dX10_byShares_194 : decode cX10_byShares 194 = .ok (.iconst 1, 1) := by decide +kernel
theorem dX10_byShares_195 : decode cX10_byShares 195 = .ok (.istore 8, 2) := by decide +kernel
theorem dX10_byShares_197 : decode cX10_byShares 197 = .ok (.aload_n 0, 1) := by decide +kernel
theorem dX10_byShares_198 : decode cX10_byShares 198 = .ok (.dup, 1) := by decide +kernel
theorem dX10_byShares_199 : decode cX10_byShares 199 = .ok (.getfield 318, 3) := by decide +kernel
theorem dX10_byShares_202 : decode cX10_byShares 202 = .ok (.iload 8, 2) := by decide +kernel
theorem dX10_byShares_204 : decode cX10_byShares 204 = .ok (.iadd, 1) := by decide +kernel
theorem dX10_byShares_205 : decode cX10_byShares 205 = .ok (.putfield 318, 3) := by decide +kernel
theorem dX10_byShares_208 : decode cX10_byShares 208 = .ok (.aload_n 0, 1) := by decide +kernel
theorem dX10_byShares_209 : decode cX10_byShares 209 = .ok (.getfield 39, 3) := by decide +kernel
theorem dX10_byShares_212 : decode cX10_byShares 212 = .ok (.iload 4, 2) := by decide +kernel
theorem dX10_byShares_214 : decode cX10_byShares 214 = .ok (.iaload, 1) := by decide +kernel
theorem dX10_byShares_215 : decode cX10_byShares 215 = .ok (.iconst (-1), 1) := by decide +kernel
theorem dX10_byShares_216 : decode cX10_byShares 216 = .ok (.if_icmp .ne 10, 3) := by decide +kernel
theorem dX10_byShares_219 : decode cX10_byShares 219 = .ok (.iload 8, 2) := by decide +kernel
theorem dX10_byShares_221 : decode cX10_byShares 221 = .ok (.iload 6, 2) := by decide +kernel
theorem dX10_byShares_223 : decode cX10_byShares 223 = .ok (.if_icmp .lt 17, 3) := by decide +kernel
theorem dX10_byShares_226 : decode cX10_byShares 226 = .ok (.aload_n 0, 1) := by decide +kernel
theorem dX10_byShares_227 : decode cX10_byShares 227 = .ok (.iload_n 1, 1) := by decide +kernel
theorem dX10_byShares_228 : decode cX10_byShares 228 = .ok (.iload 4, 2) := by decide +kernel
theorem dX10_byShares_230 : decode cX10_byShares 230 = .ok (.iload 5, 2) := by decide +kernel
theorem dX10_byShares_232 : decode cX10_byShares 232 = .ok (.iload 6, 2) := by decide +kernel
theorem dX10_byShares_234 : decode cX10_byShares 234 = .ok (.iload 8, 2) := by decide +kernel
theorem dX10_byShares_236 : decode cX10_byShares 236 = .ok (.iconst 0, 1) := by decide +kernel
theorem dX10_byShares_237 : decode cX10_byShares 237 = .ok (.invokevirtual 321, 3) := by decide +kernel
theorem dX10_byShares_240 : decode cX10_byShares 240 = .ok (.aload_n 0, 1) := by decide +kernel
theorem dX10_byShares_241 : decode cX10_byShares 241 = .ok (.iload 5, 2) := by decide +kernel
theorem dX10_byShares_243 : decode cX10_byShares 243 = .ok (.putfield 318, 3) := by decide +kernel
theorem dX10_byShares_246 : decode cX10_byShares 246 = .ok (.return_, 1) := by decide +kernel
set_option maxRecDepth 20000 in
theorem ggX10_isOne_X10_operatorAt : GoodIn wsX10_isOne wsX10_operatorAt := goodIn_r _ [8, 1, 9, 10, 11, 12, 13, 14, 15, 16, 17, 18, 19, 20, 21, 22, 23, 24, 25, 26, 27, 28, 29, 30, 31, 32, 33, 34, 35, 36, 37, 38, 39, 40, 41, 42, 43, 44, 45, 46, 47, 48, 49, 50, 51, 52, 53, 54, 55, 56, 57, 58] rfl (by decide +kernel)
set_option maxRecDepth 20000 in
theorem gX10_isOne_X10_operatorAt : GoodIn wsX10_isOne (wsV RX10 220 RX10 yX10_operatorAt wsX10_operatorAt) := goodIn_app (goodIn_of _ (by decide +kernel)) ggX10_isOne_X10_operatorAt
theorem dX10_isOne_0 : decode cX10_isOne 0 = .ok (.aload_n 0, 1) := by decide +kernel
theorem dX10_isOne_1 : decode cX10_isOne 1 = .ok (.getfield 52, 3) := by decide +kernel
theorem dX10_isOne_4 : decode cX10_isOne 4 = .ok (.iload_n 1, 1) := by decide +kernel
theorem dX10_isOne_5 : decode cX10_isOne 5 = .ok (.iaload, 1) := by decide +kernel
theorem dX10_isOne_6 : decode cX10_isOne 6 = .ok (.sipush 512, 3) := by decide +kernel
theorem dX10_isOne_9 : decode cX10_isOne 9 = .ok (.if_icmp .lt 35, 3) := by decide +kernel
theorem dX10_isOne_12 : decode cX10_isOne 12 = .ok (.aload_n 0, 1) := by decide +kernel
theorem dX10_isOne_13 : decode cX10_isOne 13 = .ok (.getfield 33, 3) := by decide +kernel
theorem dX10_isOne_16 : decode cX10_isOne 16 = .ok (.aload_n 0, 1) := by decide +kernel
theorem dX10_isOne_17 : decode cX10_isOne 17 = .ok (.iload_n 1, 1) := by decide +kernel
theorem dX10_isOne_18 : decode cX10_isOne 18 = .ok (.invokevirtual 220, 3) := by decide +kernel
theorem dX10_isOne_21 : decode cX10_isOne 21 = .ok (.iaload, 1) := by decide +kernel
theorem dX10_isOne_22 : decode cX10_isOne 22 = .ok (.iconst 2, 1) := by decide +kernel
theorem dX10_isOne_23 : decode cX10_isOne 23 = .ok (.if_icmp .ne 17, 3) := by decide +kernel
theorem dX10_isOne_26 : decode cX10_isOne 26 = .ok (.aload_n 0, 1) := by decide +kernel
theorem dX10_isOne_27 : decode cX10_isOne 27 = .ok (.getfield 39, 3) := by decide +kernel
theorem dX10_isOne_30 : decode cX10_isOne 30 = .ok (.aload_n 0, 1) := by decide +kernel
theorem dX10_isOne_31 : decode cX10_isOne 31 = .ok (.iload_n 1, 1) := by decide +kernel
theorem dX10_isOne_32 : decode cX10_isOne 32 = .ok (.invokevirtual 220, 3) := by decide +kernel
theorem dX10_isOne_35 : decode cX10_isOne 35 = .ok (.iaload, 1) := by decide +kernel
theorem dX10_isOne_36 : decode cX10_isOne 36 = .ok (.iconst (-1), 1) := by decide +kernel
theorem dX10_isOne_37 : decode cX10_isOne 37 = .ok (.if_icmp .ne 7, 3) := by decide +kernel
theorem dX10_isOne_40 : decode cX10_isOne 40 = .ok (.iconst 1, 1) := by decide +kernel
theorem dX10_isOne_41 : decode cX10_isOne 41 = .ok (.goto 4, 3) := by decide +kernel
theorem dX10_isOne_44 : decode cX10_isOne 44 = .ok (.iconst 0, 1) := by decide +kernel
theorem dX10_isOne_45 : decode cX10_isOne 45 = .ok (.ireturn, 1) := by decide +kernel
set_option maxRecDepth 20000 in
theorem ggX10_shares_X10_goesOn : GoodIn wsX10_shares wsX10_goesOn := goodIn_r _ [58, 29, 2, 15, 59, 34, 35, 36, 6, 37, 24, 25, 26, 27, 28, 30, 31, 32, 33, 53, 54, 55, 60, 61, 62, 63, 16, 17, 18, 19, 20, 21, 22, 23, 42, 43, 44, 45, 46, 47, 48, 49, 50, 41, 51, 52, 38, 39, 40, 56, 57, 7, 8, 9, 10, 11, 12, 13, 14, 0, 1, 3, 4, 5, 64, 65, 66, 67, 68, 69, 70, 71, 72, 73, 74, 75, 76, 77, 78, 79, 80, 81, 82, 83, 84, 85, 86, 87, 88, 89, 90, 91, 92, 93, 94, 95, 96, 97, 98, 99, 100, 101, 102, 103, 104, 105, 106, 107, 108, 109, 110, 111, 112, 113, 114, 115, 116, 117, 118, 119, 120, 121, 122, 123, 124, 125, 126, 127, 128, 129, 130, 131, 132, 133, 134, 135, 136, 137, 138, 139, 140, 141] rfl (by decide +kernel)
set_option maxRecDepth 20000 in
theorem gX10_shares_X10_goesOn : GoodIn wsX10_shares (wsV RX10 325 RX10 yX10_goesOn wsX10_goesOn) := goodIn_app (goodIn_of _ (by decide +kernel)) ggX10_shares_X10_goesOn
set_option maxRecDepth 20000 in
theorem ggX10_shares_X10_areAlike : GoodIn wsX10_shares wsX10_areAlike := goodIn_r _ [10, 11, 12, 13, 6, 14, 15, 16, 17, 18, 19, 20, 21, 22, 23, 92, 93, 94, 95, 96, 97, 98, 99, 100, 101, 102, 103, 104, 105, 106, 107, 108, 109, 110, 111, 112, 113, 114, 115, 116, 117, 118, 119, 120, 121, 122, 123, 124, 125, 126, 127, 128, 129, 130, 131, 132, 133, 134, 135, 136, 137, 138, 139, 140, 141] rfl (by decide +kernel)
set_option maxRecDepth 20000 in
theorem gX10_shares_X10_areAlike : GoodIn wsX10_shares (wsV RX10 248 RX10 yX10_areAlike wsX10_areAlike) := goodIn_app (goodIn_of _ (by decide +kernel)) ggX10_shares_X10_areAlike
set_option maxRecDepth 20000 in
theorem ggX10_shares_X10_isOne : GoodIn wsX10_shares wsX10_isOne := goodIn_r _ [27, 15, 28, 29, 30, 31, 32, 6, 33, 92, 93, 94, 95, 96, 97, 98, 99, 100, 101, 102, 103, 104, 105, 106, 107, 108, 109, 110, 111, 112, 113, 114, 115, 116, 117, 118, 119, 120, 121, 122, 123, 124, 125, 126, 127, 128, 129, 130, 131, 132, 133, 134, 135, 136, 137, 138, 139, 140, 141] rfl (by decide +kernel)
set_option maxRecDepth 20000 in
theorem gX10_shares_X10_isOne : GoodIn wsX10_shares (wsV RX10 329 RX10 yX10_isOne wsX10_isOne) := goodIn_app (goodIn_of _ (by decide +kernel)) ggX10_shares_X10_isOne
set_option maxRecDepth 20000 in
theorem ggX10_shares_X10_operatorAt : GoodIn wsX10_shares wsX10_operatorAt := goodIn_r _ [33, 15, 92, 93, 94, 95, 96, 97, 98, 99, 100, 101, 102, 103, 104, 105, 106, 107, 108, 109, 110, 111, 112, 113, 114, 115, 116, 117, 118, 119, 120, 121, 122, 123, 124, 125, 126, 127, 128, 129, 130, 131, 132, 133, 134, 135, 136, 137, 138, 139, 140, 141] rfl (by decide +kernel)
set_option maxRecDepth 20000 in
theorem gX10_shares_X10_operatorAt : GoodIn wsX10_shares (wsV RX10 220 RX10 yX10_operatorAt wsX10_operatorAt) := goodIn_app (goodIn_of _ (by decide +kernel)) ggX10_shares_X10_operatorAt
set_option maxRecDepth 20000 in
theorem ggX10_shares_X10_manyTo : GoodIn wsX10_shares wsX10_manyTo := goodIn_r _ [37, 2, 92, 93, 94, 95, 96, 97, 98, 99, 100, 101, 102, 103, 104, 105, 106, 107, 108, 109, 110, 111, 112, 113, 114, 115, 116, 117, 118, 119, 120, 121, 122, 123, 124, 125, 126, 127, 128, 129, 130, 131, 132, 133, 134, 135, 136, 137, 138, 139, 140, 141] rfl (by decide +kernel)
set_option maxRecDepth 20000 in
theorem gX10_shares_X10_manyTo : GoodIn wsX10_shares (wsV RX10 332 RX10 yX10_manyTo wsX10_manyTo) := goodIn_app (goodIn_of _ (by decide +kernel)) ggX10_shares_X10_manyTo
set_option maxRecDepth 20000 in
theorem ggX10_shares_X10_shares : GoodIn wsX10_shares wsX10_shares := goodIn_r _ [0, 1, 2, 3, 4, 5, 6, 7, 8, 9, 10, 11, 12, 13, 14, 15, 16, 17, 18, 19, 20, 21, 22, 23, 24, 25, 26, 27, 28, 29, 30, 31, 32, 33, 34, 35, 36, 37, 38, 39, 40, 41, 42, 43, 44, 45, 46, 47, 48, 49, 50, 51, 52, 53, 54, 55, 56, 57, 58, 59, 60, 61, 62, 63, 64, 65, 66, 67, 68, 69, 70, 71, 72, 73, 74, 75, 76, 77, 78, 79, 80, 81, 82, 83, 84, 85, 86, 87, 88, 89, 90, 91, 92, 93, 94, 95, 96, 97, 98, 99, 100, 101, 102, 103, 104, 105, 106, 107, 108, 109, 110, 111, 112, 113, 114, 115, 116, 117, 118, 119, 120, 121, 122, 123, 124, 125, 126, 127, 128, 129, 130, 131, 132, 133, 134, 135, 136, 137, 138, 139, 140, 141] rfl (by decide +kernel)
set_option maxRecDepth 20000 in
theorem gX10_shares_X10_shares : GoodIn wsX10_shares (wsV RX10 321 RX10 yX10_shares wsX10_shares) := goodIn_app (goodIn_of _ (by decide +kernel)) ggX10_shares_X10_shares
theorem dX10_shares_0 : decode cX10_shares 0 = .ok (.aload_n 0, 1) := by decide +kernel
theorem dX10_shares_1 : decode cX10_shares 1 = .ok (.getfield 296, 3) := by decide +kernel
theorem dX10_shares_4 : decode cX10_shares 4 = .ok (.ifCond .eq 4, 3) := by decide +kernel
theorem dX10_shares_7 : decode cX10_shares 7 = .ok (.return_, 1) := by decide +kernel
theorem dX10_shares_8 : decode cX10_shares 8 = .ok (.iload 6, 2) := by decide +kernel
theorem dX10_shares_10 : decode cX10_shares 10 = .ok (.iload 5, 2) := by decide +kernel
theorem dX10_shares_12 : decode cX10_shares 12 = .ok (.if_icmp .ne 15, 3) := by decide +kernel
theorem dX10_shares_15 : decode cX10_shares 15 = .ok (.aload_n 0, 1) := by decide +kernel
theorem dX10_shares_16 : decode cX10_shares 16 = .ok (.iload_n 1, 1) := by decide +kernel
theorem dX10_shares_17 : decode cX10_shares 17 = .ok (.iload_n 2, 1) := by decide +kernel
theorem dX10_shares_18 : decode cX10_shares 18 = .ok (.iload_n 3, 1) := by decide +kernel
theorem dX10_shares_19 : decode cX10_shares 19 = .ok (.iload 4, 2) := by decide +kernel
theorem dX10_shares_21 : decode cX10_shares 21 = .ok (.iload 5, 2) := by decide +kernel
theorem dX10_shares_23 : decode cX10_shares 23 = .ok (.invokevirtual 325, 3) := by decide +kernel
theorem dX10_shares_26 : decode cX10_shares 26 = .ok (.return_, 1) := by decide +kernel
theorem dX10_shares_27 : decode cX10_shares 27 = .ok (.aload_n 0, 1) := by decide +kernel
theorem dX10_shares_28 : decode cX10_shares 28 = .ok (.getfield 70, 3) := by decide +kernel
theorem dX10_shares_31 : decode cX10_shares 31 = .ok (.iload_n 3, 1) := by decide +kernel
theorem dX10_shares_32 : decode cX10_shares 32 = .ok (.iload 4, 2) := by decide +kernel
theorem dX10_shares_34 : decode cX10_shares 34 = .ok (.iadd, 1) := by decide +kernel
theorem dX10_shares_35 : decode cX10_shares 35 = .ok (.iload 6, 2) := by decide +kernel
theorem dX10_shares_37 : decode cX10_shares 37 = .ok (.iadd, 1) := by decide +kernel
theorem dX10_shares_38 : decode cX10_shares 38 = .ok (.iaload, 1) := by decide +kernel
theorem dX10_shares_39 : decode cX10_shares 39 = .ok (.istore 7, 2) := by decide +kernel
theorem dX10_shares_41 : decode cX10_shares 41 = .ok (.iload_n 3, 1) := by decide +kernel
theorem dX10_shares_42 : decode cX10_shares 42 = .ok (.iload 4, 2) := by decide +kernel
theorem dX10_shares_44 : decode cX10_shares 44 = .ok (.iadd, 1) := by decide +kernel
theorem dX10_shares_45 : decode cX10_shares 45 = .ok (.iload 5, 2) := by decide +kernel
theorem dX10_shares_47 : decode cX10_shares 47 = .ok (.iadd, 1) := by decide +kernel
theorem dX10_shares_48 : decode cX10_shares 48 = .ok (.istore 8, 2) := by decide +kernel
theorem dX10_shares_50 : decode cX10_shares 50 = .ok (.iload 6, 2) := by decide +kernel
theorem dX10_shares_52 : decode cX10_shares 52 = .ok (.ifCond .le 41, 3) := by decide +kernel
theorem dX10_shares_55 : decode cX10_shares 55 = .ok (.aload_n 0, 1) := by decide +kernel
theorem dX10_shares_56 : decode cX10_shares 56 = .ok (.aload_n 0, 1) := by decide +kernel
theorem dX10_shares_57 : decode cX10_shares 57 = .ok (.getfield 70, 3) := by decide +kernel
theorem dX10_shares_60 : decode cX10_shares 60 = .ok (.iload_n 3, 1) := by decide +kernel
theorem dX10_shares_61 : decode cX10_shares 61 = .ok (.iload 4, 2) := by decide +kernel
theorem dX10_shares_63 : decode cX10_shares 63 = .ok (.iadd, 1) := by decide +kernel
theorem dX10_shares_64 : decode cX10_shares 64 = .ok (.iload 6, 2) := by decide +kernel
theorem dX10_shares_66 : decode cX10_shares 66 = .ok (.iadd, 1) := by decide +kernel
theorem dX10_shares_67 : decode cX10_shares 67 = .ok (.iconst 1, 1) := by decide +kernel
theorem dX10_shares_68 : decode cX10_shares 68 = .ok (.isub, 1) := by decide +kernel
theorem dX10_shares_69 : decode cX10_shares 69 = .ok (.iaload, 1) := by decide +kernel
theorem dX10_shares_70 : decode cX10_shares 70 = .ok (.iload 7, 2) := by decide +kernel
theorem dX10_shares_72 : decode cX10_shares 72 = .ok (.invokevirtual 248, 3) := by decide +kernel
theorem dX10_shares_75 : decode cX10_shares 75 = .ok (.ifCond .eq 18, 3) := by decide +kernel
theorem dX10_shares_78 : decode cX10_shares 78 = .ok (.aload_n 0, 1) := by decide +kernel
theorem dX10_shares_79 : decode cX10_shares 79 = .ok (.getfield 70, 3) := by decide +kernel
theorem dX10_shares_82 : decode cX10_shares 82 = .ok (.iload 8, 2) := by decide +kernel
theorem dX10_shares_84 : decode cX10_shares 84 = .ok (.iload 6, 2) := by decide +kernel
theorem dX10_shares_86 : decode cX10_shares 86 = .ok (.iadd, 1) := by decide +kernel
theorem dX10_shares_87 : decode cX10_shares 87 = .ok (.iconst 1, 1) := by decide +kernel
theorem dX10_shares_88 : decode cX10_shares 88 = .ok (.isub, 1) := by decide +kernel
theorem dX10_shares_89 : decode cX10_shares 89 = .ok (.iaload, 1) := by decide +kernel
theorem dX10_shares_90 : decode cX10_shares 90 = .ok (.goto 4, 3) := by decide +kernel
theorem dX10_shares_93 : decode cX10_shares 93 = .ok (.iconst 0, 1) := by decide +kernel
theorem dX10_shares_94 : decode cX10_shares 94 = .ok (.istore 9, 2) := by decide +kernel
theorem dX10_shares_96 : decode cX10_shares 96 = .ok (.iload 9, 2) := by decide +kernel
theorem dX10_shares_98 : decode cX10_shares 98 = .ok (.istore 10, 2) := by decide +kernel
theorem dX10_shares_100 : decode cX10_shares 100 = .ok (.iload 10, 2) := by decide +kernel
theorem dX10_shares_102 : decode cX10_shares 102 = .ok (.iload 4, 2) := by decide +kernel
theorem dX10_shares_104 : decode cX10_shares 104 = .ok (.if_icmp .ge 87, 3) := by decide +kernel
theorem dX10_shares_107 : decode cX10_shares 107 = .ok (.aload_n 0, 1) := by decide +kernel
theorem dX10_shares_108 : decode cX10_shares 108 = .ok (.getfield 70, 3) := by decide +kernel
theorem dX10_shares_111 : decode cX10_shares 111 = .ok (.iload_n 3, 1) := by decide +kernel
theorem dX10_shares_112 : decode cX10_shares 112 = .ok (.iload 10, 2) := by decide +kernel
theorem dX10_shares_114 : decode cX10_shares 114 = .ok (.iadd, 1) := by decide +kernel
theorem dX10_shares_115 : decode cX10_shares 115 = .ok (.iaload, 1) := by decide +kernel
theorem dX10_shares_116 : decode cX10_shares 116 = .ok (.istore 11, 2) := by decide +kernel
theorem dX10_shares_118 : decode cX10_shares 118 = .ok (.aload_n 0, 1) := by decide +kernel
theorem dX10_shares_119 : decode cX10_shares 119 = .ok (.iload 11, 2) := by decide +kernel
theorem dX10_shares_121 : decode cX10_shares 121 = .ok (.invokevirtual 329, 3) := by decide +kernel
theorem dX10_shares_124 : decode cX10_shares 124 = .ok (.ifCond .eq 34, 3) := by decide +kernel
theorem dX10_shares_127 : decode cX10_shares 127 = .ok (.aload_n 0, 1) := by decide +kernel
theorem dX10_shares_128 : decode cX10_shares 128 = .ok (.iload 7, 2) := by decide +kernel
theorem dX10_shares_130 : decode cX10_shares 130 = .ok (.invokevirtual 220, 3) := by decide +kernel
theorem dX10_shares_133 : decode cX10_shares 133 = .ok (.aload_n 0, 1) := by decide +kernel
theorem dX10_shares_134 : decode cX10_shares 134 = .ok (.iload 11, 2) := by decide +kernel
theorem dX10_shares_136 : decode cX10_shares 136 = .ok (.invokevirtual 220, 3) := by decide +kernel
theorem dX10_shares_139 : decode cX10_shares 139 = .ok (.if_icmp .ne 46, 3) := by decide +kernel
theorem dX10_shares_142 : decode cX10_shares 142 = .ok (.aload_n 0, 1) := by decide +kernel
theorem dX10_shares_143 : decode cX10_shares 143 = .ok (.iload 8, 2) := by decide +kernel
theorem dX10_shares_145 : decode cX10_shares 145 = .ok (.iload 6, 2) := by decide +kernel
theorem dX10_shares_147 : decode cX10_shares 147 = .ok (.iload 10, 2) := by decide +kernel
theorem dX10_shares_149 : decode cX10_shares 149 = .ok (.invokevirtual 332, 3) := by decide +kernel
theorem dX10_shares_152 : decode cX10_shares 152 = .ok (.ifCond .le 6, 3) := by decide +kernel
theorem dX10_shares_155 : decode cX10_shares 155 = .ok (.goto 30, 3) := by decide +kernel
theorem dX10_shares_158 : decode cX10_shares 158 = .ok (.aload_n 0, 1) := by decide +kernel
theorem dX10_shares_159 : decode cX10_shares 159 = .ok (.getfield 70, 3) := by decide +kernel
theorem dX10_shares_162 : decode cX10_shares 162 = .ok (.iload 8, 2) := by decide +kernel
theorem dX10_shares_164 : decode cX10_shares 164 = .ok (.iload 6, 2) := by decide +kernel
theorem dX10_shares_166 : decode cX10_shares 166 = .ok (.iadd, 1) := by decide +kernel
theorem dX10_shares_167 : decode cX10_shares 167 = .ok (.iload 10, 2) := by decide +kernel
theorem dX10_shares_169 : decode cX10_shares 169 = .ok (.iastore, 1) := by decide +kernel
theorem dX10_shares_170 : decode cX10_shares 170 = .ok (.aload_n 0, 1) := by decide +kernel
theorem dX10_shares_171 : decode cX10_shares 171 = .ok (.iload_n 1, 1) := by decide +kernel
theorem dX10_shares_172 : decode cX10_shares 172 = .ok (.iload_n 2, 1) := by decide +kernel
theorem dX10_shares_173 : decode cX10_shares 173 = .ok (.iload_n 3, 1) := by decide +kernel
theorem dX10_shares_174 : decode cX10_shares 174 = .ok (.iload 4, 2) := by decide +kernel
theorem dX10_shares_176 : decode cX10_shares 176 = .ok (.iload 5, 2) := by decide +kernel
theorem dX10_shares_178 : decode cX10_shares 178 = .ok (.iload 6, 2) := by decide +kernel
theorem dX10_shares_180 : decode cX10_shares 180 = .ok (.iconst 1, 1) := by decide +kernel
theorem dX10_shares_181 : decode cX10_shares 181 = .ok (.iadd, 1) := by decide +kernel
theorem dX10_shares_182 : decode cX10_shares 182 = .ok (.invokevirtual 321, 3) := by decide +kernel
theorem dX10_shares_185 : decode cX10_shares 185 = .ok (.iinc 10 1, 3) := by decide +kernel
theorem dX10_shares_188 : decode cX10_shares 188 = .ok (.goto (-88), 3) := by decide +kernel
theorem dX10_shares_191 : decode cX10_shares 191 = .ok (.return_, 1) := by decide +kernel
theorem dX10_manyTo_0 : decode cX10_manyTo 0 = .ok (.iconst 0, 1) := by decide +kernel
theorem dX10_manyTo_1 : decode cX10_manyTo 1 = .ok (.istore 4, 2) := by decide +kernel
theorem dX10_manyTo_3 : decode cX10_manyTo 3 = .ok (.iconst 0, 1) := by decide +kernel
theorem dX10_manyTo_4 : decode cX10_manyTo 4 = .ok (.istore 5, 2) := by decide +kernel
theorem dX10_manyTo_6 : decode cX10_manyTo 6 = .ok (.iload 5, 2) := by decide +kernel
theorem dX10_manyTo_8 : decode cX10_manyTo 8 = .ok (.iload_n 2, 1) := by decide +kernel
theorem dX10_manyTo_9 : decode cX10_manyTo 9 = .ok (.if_icmp .ge 32, 3) := by decide +kernel
theorem dX10_manyTo_12 : decode cX10_manyTo 12 = .ok (.iload 4, 2) := by decide +kernel
theorem dX10_manyTo_14 : decode cX10_manyTo 14 = .ok (.aload_n 0, 1) := by decide +kernel
theorem dX10_manyTo_15 : decode cX10_manyTo 15 = .ok (.getfield 70, 3) := by decide +kernel
theorem dX10_manyTo_18 : decode cX10_manyTo 18 = .ok (.iload_n 1, 1) := by decide +kernel
theorem dX10_manyTo_19 : decode cX10_manyTo 19 = .ok (.iload 5, 2) := by decide +kernel
theorem dX10_manyTo_21 : decode cX10_manyTo 21 = .ok (.iadd, 1) := by decide +kernel
theorem dX10_manyTo_22 : decode cX10_manyTo 22 = .ok (.iaload, 1) := by decide +kernel
theorem dX10_manyTo_23 : decode cX10_manyTo 23 = .ok (.iload_n 3, 1) := by decide +kernel
theorem dX10_manyTo_24 : decode cX10_manyTo 24 = .ok (.if_icmp .ne 7, 3) := by decide +kernel
theorem dX10_manyTo_27 : decode cX10_manyTo 27 = .ok (.iconst 1, 1) := by decide +kernel
theorem dX10_manyTo_28 : decode cX10_manyTo 28 = .ok (.goto 4, 3) := by decide +kernel
theorem dX10_manyTo_31 : decode cX10_manyTo 31 = .ok (.iconst 0, 1) := by decide +kernel
theorem dX10_manyTo_32 : decode cX10_manyTo 32 = .ok (.iadd, 1) := by decide +kernel
theorem dX10_manyTo_33 : decode cX10_manyTo 33 = .ok (.istore 4, 2) := by decide +kernel
theorem dX10_manyTo_35 : decode cX10_manyTo 35 = .ok (.iinc 5 1, 3) := by decide +kernel
theorem dX10_manyTo_38 : decode cX10_manyTo 38 = .ok (.goto (-32), 3) := by decide +kernel
theorem dX10_manyTo_41 : decode cX10_manyTo 41 = .ok (.iload 4, 2) := by decide +kernel
theorem dX10_manyTo_43 : decode cX10_manyTo 43 = .ok (.ireturn, 1) := by decide +kernel
set_option maxRecDepth 20000 in
theorem ggX10_goesOn_X10_manyTo : GoodIn wsX10_goesOn wsX10_manyTo := goodIn_r _ [9, 2, 92, 93, 94, 95, 96, 97, 98, 99, 100, 101, 102, 103, 104, 105, 106, 107, 108, 109, 110, 111, 112, 113, 114, 115, 116, 117, 118, 119, 120, 121, 122, 123, 124, 125, 126, 127, 128, 129, 130, 131, 132, 133, 134, 135, 136, 137, 138, 139, 140, 141] rfl (by decide +kernel)
set_option maxRecDepth 20000 in
theorem gX10_goesOn_X10_manyTo : GoodIn wsX10_goesOn (wsV RX10 332 RX10 yX10_manyTo wsX10_manyTo) := goodIn_app (goodIn_of _ (by decide +kernel)) ggX10_goesOn_X10_manyTo
set_option maxRecDepth 20000 in
theorem ggX10_goesOn_X10_isOne : GoodIn wsX10_goesOn wsX10_isOne := goodIn_r _ [13, 3, 14, 1, 15, 16, 17, 8, 18, 92, 93, 94, 95, 96, 97, 98, 99, 100, 101, 102, 103, 104, 105, 106, 107, 108, 109, 110, 111, 112, 113, 114, 115, 116, 117, 118, 119, 120, 121, 122, 123, 124, 125, 126, 127, 128, 129, 130, 131, 132, 133, 134, 135, 136, 137, 138, 139, 140, 141] rfl (by decide +kernel)
set_option maxRecDepth 20000 in
theorem gX10_goesOn_X10_isOne : GoodIn wsX10_goesOn (wsV RX10 329 RX10 yX10_isOne wsX10_isOne) := goodIn_app (goodIn_of _ (by decide +kernel)) ggX10_goesOn_X10_isOne
set_option maxRecDepth 20000 in
theorem ggX10_goesOn_X10_codeOf : GoodIn wsX10_goesOn wsX10_codeOf := goodIn_r _ [21] rfl (by decide +kernel)
set_option maxRecDepth 20000 in
theorem gX10_goesOn_X10_codeOf : GoodIn wsX10_goesOn (va_wsS RX10 223 yX10_codeOf wsX10_codeOf) := goodIn_app (goodIn_of _ (by decide +kernel)) ggX10_goesOn_X10_codeOf
set_option maxRecDepth 20000 in
theorem ggX10_goesOn_X10_copies : GoodIn wsX10_goesOn wsX10_copies := goodIn_r _ [25, 4, 3, 26, 27, 28, 8, 29, 30, 31, 32, 33, 92, 93, 94, 95, 96, 97, 98, 99, 100, 101, 102, 103, 104, 105, 106, 107, 108, 109, 110, 111, 112, 113, 114, 115, 116, 117, 118, 119, 120, 121, 122, 123, 124, 125, 126, 127, 128, 129, 130, 131, 132, 133, 134, 135, 136, 137, 138, 139, 140, 141] rfl (by decide +kernel)
set_option maxRecDepth 20000 in
theorem gX10_goesOn_X10_copies : GoodIn wsX10_goesOn (wsV RX10 230 RX10 yX10_copies wsX10_copies) := goodIn_app (goodIn_of _ (by decide +kernel)) ggX10_goesOn_X10_copies
set_option maxRecDepth 20000 in
theorem ggX10_goesOn_X10_aims : GoodIn wsX10_goesOn wsX10_aims := goodIn_r _ [37, 38, 39, 92, 93, 94, 95, 96, 97, 98, 99, 100, 101, 102, 103, 104, 105, 106, 107, 108, 109, 110, 111, 112, 113, 114, 115, 116, 117, 118, 119, 120, 121, 122, 123, 124, 125, 126, 127, 128, 129, 130, 131, 132, 133, 134, 135, 136, 137, 138, 139, 140, 141] rfl (by decide +kernel)
set_option maxRecDepth 20000 in
theorem gX10_goesOn_X10_aims : GoodIn wsX10_goesOn (wsV RX10 315 RX10 yX10_aims wsX10_aims) := goodIn_app (goodIn_of _ (by decide +kernel)) ggX10_goesOn_X10_aims
set_option maxRecDepth 20000 in
theorem ggX10_goesOn_X10_solves : GoodIn wsX10_goesOn wsX10_solves := goodIn_r _ [64, 60, 38, 39, 3, 14, 65, 66, 67, 8, 68, 69, 70, 71, 50, 72, 73, 74, 75, 76, 77, 78, 26, 27, 28, 29, 30, 31, 32, 33, 79, 80, 81, 82, 83, 84, 85, 15, 16, 17, 18, 86, 87, 88, 89, 90, 91, 43, 34, 35, 36, 37, 40, 41, 42, 44, 45, 2, 1, 19, 20, 21, 46, 47, 48, 49, 51, 52, 53, 54, 55, 56, 57, 58, 0, 4, 5, 6, 7, 9, 10, 11, 12, 13, 22, 23, 24, 25, 59, 61, 62, 63, 92, 93, 94, 95, 96, 97, 98, 99, 100, 101, 102, 103, 104, 105, 106, 107, 108, 109, 110, 111, 112, 113, 114, 115, 116, 117, 118, 119, 120, 121, 122, 123, 124, 125, 126, 127, 128, 129, 130, 131, 132, 133, 134, 135, 136, 137, 138, 139, 140, 141] rfl (by decide +kernel)
set_option maxRecDepth 20000 in
theorem gX10_goesOn_X10_solves : GoodIn wsX10_goesOn (wsV RX10 312 RX10 yX10_solves wsX10_solves) := goodIn_app (goodIn_of _ (by decide +kernel)) ggX10_goesOn_X10_solves
theorem dX10_goesOn_0 : decode cX10_goesOn 0 = .ok (.iload_n 3, 1) := by decide +kernel
theorem dX10_goesOn_1 : decode cX10_goesOn 1 = .ok (.iload 4, 2) := by decide +kernel
theorem dX10_goesOn_3 : decode cX10_goesOn 3 = .ok (.iadd, 1) := by decide +kernel
theorem dX10_goesOn_4 : decode cX10_goesOn 4 = .ok (.iload 5, 2) := by decide +kernel
theorem dX10_goesOn_6 : decode cX10_goesOn 6 = .ok (.iadd, 1) := by decide +kernel
theorem dX10_goesOn_7 : decode cX10_goesOn 7 = .ok (.istore 6, 2) := by decide +kernel
theorem dX10_goesOn_9 : decode cX10_goesOn 9 = .ok (.iconst 0, 1) := by decide +kernel
theorem dX10_goesOn_10 : decode cX10_goesOn 10 = .ok (.istore 7, 2) := by decide +kernel
theorem dX10_goesOn_12 : decode cX10_goesOn 12 = .ok (.iload 7, 2) := by decide +kernel
theorem dX10_goesOn_14 : decode cX10_goesOn 14 = .ok (.iload 4, 2) := by decide +kernel
theorem dX10_goesOn_16 : decode cX10_goesOn 16 = .ok (.if_icmp .ge 76, 3) := by decide +kernel
theorem dX10_goesOn_19 : decode cX10_goesOn 19 = .ok (.aload_n 0, 1) := by decide +kernel
theorem dX10_goesOn_20 : decode cX10_goesOn 20 = .ok (.iload 6, 2) := by decide +kernel
theorem dX10_goesOn_22 : decode cX10_goesOn 22 = .ok (.iload 5, 2) := by decide +kernel
theorem dX10_goesOn_24 : decode cX10_goesOn 24 = .ok (.iload 7, 2) := by decide +kernel
theorem dX10_goesOn_26 : decode cX10_goesOn 26 = .ok (.invokevirtual 332, 3) := by decide +kernel
theorem dX10_goesOn_29 : decode cX10_goesOn 29 = .ok (.ifCond .ne 57, 3) := by decide +kernel
theorem dX10_goesOn_32 : decode cX10_goesOn 32 = .ok (.aload_n 0, 1) := by decide +kernel
theorem dX10_goesOn_33 : decode cX10_goesOn 33 = .ok (.getfield 39, 3) := by decide +kernel
theorem dX10_goesOn_36 : decode cX10_goesOn 36 = .ok (.iload_n 2, 1) := by decide +kernel
theorem dX10_goesOn_37 : decode cX10_goesOn 37 = .ok (.iaload, 1) := by decide +kernel
theorem dX10_goesOn_38 : decode cX10_goesOn 38 = .ok (.iconst (-1), 1) := by decide +kernel
theorem dX10_goesOn_39 : decode cX10_goesOn 39 = .ok (.if_icmp .eq 46, 3) := by decide +kernel
theorem dX10_goesOn_42 : decode cX10_goesOn 42 = .ok (.aload_n 0, 1) := by decide +kernel
theorem dX10_goesOn_43 : decode cX10_goesOn 43 = .ok (.aload_n 0, 1) := by decide +kernel
theorem dX10_goesOn_44 : decode cX10_goesOn 44 = .ok (.getfield 70, 3) := by decide +kernel
theorem dX10_goesOn_47 : decode cX10_goesOn 47 = .ok (.iload_n 3, 1) := by decide +kernel
theorem dX10_goesOn_48 : decode cX10_goesOn 48 = .ok (.iload 7, 2) := by decide +kernel
theorem dX10_goesOn_50 : decode cX10_goesOn 50 = .ok (.iadd, 1) := by decide +kernel
theorem dX10_goesOn_51 : decode cX10_goesOn 51 = .ok (.iaload, 1) := by decide +kernel
theorem dX10_goesOn_52 : decode cX10_goesOn 52 = .ok (.invokevirtual 329, 3) := by decide +kernel
theorem dX10_goesOn_55 : decode cX10_goesOn 55 = .ok (.ifCond .eq 31, 3) := by decide +kernel
theorem dX10_goesOn_58 : decode cX10_goesOn 58 = .ok (.aload_n 0, 1) := by decide +kernel
theorem dX10_goesOn_59 : decode cX10_goesOn 59 = .ok (.getfield 52, 3) := by decide +kernel
theorem dX10_goesOn_62 : decode cX10_goesOn 62 = .ok (.aload_n 0, 1) := by decide +kernel
theorem dX10_goesOn_63 : decode cX10_goesOn 63 = .ok (.getfield 70, 3) := by decide +kernel
theorem dX10_goesOn_66 : decode cX10_goesOn 66 = .ok (.iload_n 3, 1) := by decide +kernel
theorem dX10_goesOn_67 : decode cX10_goesOn 67 = .ok (.iload 7, 2) := by decide +kernel
theorem dX10_goesOn_69 : decode cX10_goesOn 69 = .ok (.iadd, 1) := by decide +kernel
theorem dX10_goesOn_70 : decode cX10_goesOn 70 = .ok (.iaload, 1) := by decide +kernel
theorem dX10_goesOn_71 : decode cX10_goesOn 71 = .ok (.iaload, 1) := by decide +kernel
theorem dX10_goesOn_72 : decode cX10_goesOn 72 = .ok (.aload_n 0, 1) := by decide +kernel
theorem dX10_goesOn_73 : decode cX10_goesOn 73 = .ok (.getfield 39, 3) := by decide +kernel
theorem dX10_goesOn_76 : decode cX10_goesOn 76 = .ok (.iload_n 2, 1) := by decide +kernel
theorem dX10_goesOn_77 : decode cX10_goesOn 77 = .ok (.iaload, 1) := by decide +kernel
theorem dX10_goesOn_78 : decode cX10_goesOn 78 = .ok (.iconst 0, 1) := by decide +kernel
theorem dX10_goesOn_79 : decode cX10_goesOn 79 = .ok (.invokestatic 223, 3) := by decide +kernel
theorem dX10_goesOn_82 : decode cX10_goesOn 82 = .ok (.if_icmp .eq 4, 3) := by decide +kernel
theorem dX10_goesOn_85 : decode cX10_goesOn 85 = .ok (.return_, 1) := by decide +kernel
theorem dX10_goesOn_86 : decode cX10_goesOn 86 = .ok (.iinc 7 1, 3) := by decide +kernel
theorem dX10_goesOn_89 : decode cX10_goesOn 89 = .ok (.goto (-77), 3) := by decide +kernel
theorem dX10_goesOn_92 : decode cX10_goesOn 92 = .ok (.aload_n 0, 1) := by decide +kernel
theorem dX10_goesOn_93 : decode cX10_goesOn 93 = .ok (.getfield 178, 3) := by decide +kernel
theorem dX10_goesOn_96 : decode cX10_goesOn 96 = .ok (.istore 7, 2) := by decide +kernel
theorem dX10_goesOn_98 : decode cX10_goesOn 98 = .ok (.iconst 0, 1) := by decide +kernel
theorem dX10_goesOn_99 : decode cX10_goesOn 99 = .ok (.istore 8, 2) := by decide +kernel
theorem dX10_goesOn_101 : decode cX10_goesOn 101 = .ok (.iload 8, 2) := by decide +kernel
theorem dX10_goesOn_103 : decode cX10_goesOn 103 = .ok (.iload 4, 2) := by decide +kernel
theorem dX10_goesOn_105 : decode cX10_goesOn 105 = .ok (.if_icmp .ge 166, 3) := by decide +kernel
theorem dX10_goesOn_108 : decode cX10_goesOn 108 = .ok (.aload_n 0, 1) := by decide +kernel
theorem dX10_goesOn_109 : decode cX10_goesOn 109 = .ok (.iload 6, 2) := by decide +kernel
theorem dX10_goesOn_111 : decode cX10_goesOn 111 = .ok (.iload 5, 2) := by decide +kernel
theorem dX10_goesOn_113 : decode cX10_goesOn 113 = .ok (.iload 8, 2) := by decide +kernel
theorem dX10_goesOn_115 : decode cX10_goesOn 115 = .ok (.invokevirtual 332, 3) := by decide +kernel
theorem dX10_goesOn_118 : decode cX10_goesOn 118 = .ok (.istore 9, 2) := by decide +kernel
theorem dX10_goesOn_120 : decode cX10_goesOn 120 = .ok (.aload_n 0, 1) := by decide +kernel
theorem dX10_goesOn_121 : decode cX10_goesOn 121 = .ok (.getfield 178, 3) := by decide +kernel
theorem dX10_goesOn_124 : decode cX10_goesOn 124 = .ok (.istore 10, 2) := by decide +kernel
theorem dX10_goesOn_126 : decode cX10_goesOn 126 = .ok (.iload 9, 2) := by decide +kernel
theorem dX10_goesOn_128 : decode cX10_goesOn 128 = .ok (.ifCond .ne 35, 3) := by decide +kernel
theorem dX10_goesOn_131 : decode cX10_goesOn 131 = .ok (.aload_n 0, 1) := by decide +kernel
theorem dX10_goesOn_132 : decode cX10_goesOn 132 = .ok (.getfield 52, 3) := by decide +kernel
theorem dX10_goesOn_135 : decode cX10_goesOn 135 = .ok (.aload_n 0, 1) := by decide +kernel
theorem dX10_goesOn_136 : decode cX10_goesOn 136 = .ok (.getfield 178, 3) := by decide +kernel
theorem dX10_goesOn_139 : decode cX10_goesOn 139 = .ok (.aload_n 0, 1) := by decide +kernel
theorem dX10_goesOn_140 : decode cX10_goesOn 140 = .ok (.getfield 39, 3) := by decide +kernel
theorem dX10_goesOn_143 : decode cX10_goesOn 143 = .ok (.iload_n 2, 1) := by decide +kernel
theorem dX10_goesOn_144 : decode cX10_goesOn 144 = .ok (.iaload, 1) := by decide +kernel
theorem dX10_goesOn_145 : decode cX10_goesOn 145 = .ok (.iconst 0, 1) := by decide +kernel
theorem dX10_goesOn_146 : decode cX10_goesOn 146 = .ok (.invokestatic 223, 3) := by decide +kernel
theorem dX10_goesOn_149 : decode cX10_goesOn 149 = .ok (.iastore, 1) := by decide +kernel
theorem dX10_goesOn_150 : decode cX10_goesOn 150 = .ok (.aload_n 0, 1) := by decide +kernel
theorem dX10_goesOn_151 : decode cX10_goesOn 151 = .ok (.dup, 1) := by decide +kernel
theorem dX10_goesOn_152 : decode cX10_goesOn 152 = .ok (.getfield 178, 3) := by decide +kernel
theorem dX10_goesOn_155 : decode cX10_goesOn 155 = .ok (.iconst 1, 1) := by decide +kernel
theorem dX10_goesOn_156 : decode cX10_goesOn 156 = .ok (.iadd, 1) := by decide +kernel
theorem dX10_goesOn_157 : decode cX10_goesOn 157 = .ok (.putfield 178, 3) := by decide +kernel
theorem dX10_goesOn_160 : decode cX10_goesOn 160 = .ok (.goto 86, 3) := by decide +kernel
theorem dX10_goesOn_163 : decode cX10_goesOn 163 = .ok (.iload 9, 2) := by decide +kernel
theorem dX10_goesOn_165 : decode cX10_goesOn 165 = .ok (.iconst 1, 1) := by decide +kernel
theorem dX10_goesOn_166 : decode cX10_goesOn 166 = .ok (.if_icmp .le 28, 3) := by decide +kernel
theorem dX10_goesOn_169 : decode cX10_goesOn 169 = .ok (.aload_n 0, 1) := by decide +kernel
theorem dX10_goesOn_170 : decode cX10_goesOn 170 = .ok (.getfield 52, 3) := by decide +kernel
theorem dX10_goesOn_173 : decode cX10_goesOn 173 = .ok (.aload_n 0, 1) := by decide +kernel
theorem dX10_goesOn_174 : decode cX10_goesOn 174 = .ok (.getfield 178, 3) := by decide +kernel
theorem dX10_goesOn_177 : decode cX10_goesOn 177 = .ok (.iload_n 2, 1) := by decide +kernel
theorem dX10_goesOn_178 : decode cX10_goesOn 178 = .ok (.iload 9, 2) := by decide +kernel
theorem dX10_goesOn_180 : decode cX10_goesOn 180 = .ok (.invokestatic 223, 3) := by decide +kernel
theorem dX10_goesOn_183 : decode cX10_goesOn 183 = .ok (.iastore, 1) := by decide +kernel
theorem dX10_goesOn_184 : decode cX10_goesOn 184 = .ok (.aload_n 0, 1) := by decide +kernel
theorem dX10_goesOn_185 : decode cX10_goesOn 185 = .ok (.dup, 1) := by decide +kernel
theorem dX10_goesOn_186 : decode cX10_goesOn 186 = .ok (.getfield 178, 3) := by decide +kernel
theorem dX10_goesOn_189 : decode cX10_goesOn 189 = .ok (.iconst 1, 1) := by decide +kernel
theorem dX10_goesOn_190 : decode cX10_goesOn 190 = .ok (.iadd, 1) := by decide +kernel
theorem dX10_goesOn_191 : decode cX10_goesOn 191 = .ok (.putfield 178, 3) := by decide +kernel
theorem dX10_goesOn_194 : decode cX10_goesOn 194 = .ok (.iconst 0, 1) := by decide +kernel
theorem dX10_goesOn_195 : decode cX10_goesOn 195 = .ok (.istore 11, 2) := by decide +kernel
theorem dX10_goesOn_197 : decode cX10_goesOn 197 = .ok (.iload 11, 2) := by decide +kernel
theorem dX10_goesOn_199 : decode cX10_goesOn 199 = .ok (.iload 5, 2) := by decide +kernel
theorem dX10_goesOn_201 : decode cX10_goesOn 201 = .ok (.if_icmp .ge 45, 3) := by decide +kernel
theorem dX10_goesOn_204 : decode cX10_goesOn 204 = .ok (.aload_n 0, 1) := by decide +kernel
theorem dX10_goesOn_205 : decode cX10_goesOn 205 = .ok (.getfield 70, 3) := by decide +kernel
theorem dX10_goesOn_208 : decode cX10_goesOn 208 = .ok (.iload 6, 2) := by decide +kernel
theorem dX10_goesOn_210 : decode cX10_goesOn 210 = .ok (.iload 11, 2) := by decide +kernel
theorem dX10_goesOn_212 : decode cX10_goesOn 212 = .ok (.iadd, 1) := by decide +kernel
theorem dX10_goesOn_213 : decode cX10_goesOn 213 = .ok (.iaload, 1) := by decide +kernel
theorem dX10_goesOn_214 : decode cX10_goesOn 214 = .ok (.iload 8, 2) := by decide +kernel
theorem dX10_goesOn_216 : decode cX10_goesOn 216 = .ok (.if_icmp .eq 6, 3) := by decide +kernel
theorem dX10_goesOn_219 : decode cX10_goesOn 219 = .ok (.goto 21, 3) := by decide +kernel
theorem dX10_goesOn_222 : decode cX10_goesOn 222 = .ok (.aload_n 0, 1) := by decide +kernel
theorem dX10_goesOn_223 : decode cX10_goesOn 223 = .ok (.aload_n 0, 1) := by decide +kernel
theorem dX10_goesOn_224 : decode cX10_goesOn 224 = .ok (.getfield 70, 3) := by decide +kernel
theorem dX10_goesOn_227 : decode cX10_goesOn 227 = .ok (.iload_n 3, 1) := by decide +kernel
theorem dX10_goesOn_228 : decode cX10_goesOn 228 = .ok (.iload 4, 2) := by decide +kernel
theorem dX10_goesOn_230 : decode cX10_goesOn 230 = .ok (.iadd, 1) := by decide +kernel
theorem dX10_goesOn_231 : decode cX10_goesOn 231 = .ok (.iload 11, 2) := by decide +kernel
theorem dX10_goesOn_233 : decode cX10_goesOn 233 = .ok (.iadd, 1) := by decide +kernel
theorem dX10_goesOn_234 : decode cX10_goesOn 234 = .ok (.iaload, 1) := by decide +kernel
theorem dX10_goesOn_235 : decode cX10_goesOn 235 = .ok (.invokevirtual 230, 3) := by decide +kernel
theorem dX10_goesOn_238 : decode cX10_goesOn 238 = .ok (.istore 12, 2) := by decide +kernel
theorem dX10_goesOn_240 : decode cX10_goesOn 240 = .ok (.iinc 11 1, 3) := by decide +kernel
theorem dX10_goesOn_243 : decode cX10_goesOn 243 = .ok (.goto (-46), 3) := by decide +kernel
theorem dX10_goesOn_246 : decode cX10_goesOn 246 = .ok (.aload_n 0, 1) := by decide +kernel
theorem dX10_goesOn_247 : decode cX10_goesOn 247 = .ok (.iload_n 1, 1) := by decide +kernel
theorem dX10_goesOn_248 : decode cX10_goesOn 248 = .ok (.iload 8, 2) := by decide +kernel
theorem dX10_goesOn_250 : decode cX10_goesOn 250 = .ok (.iadd, 1) := by decide +kernel
theorem dX10_goesOn_251 : decode cX10_goesOn 251 = .ok (.aload_n 0, 1) := by decide +kernel
theorem dX10_goesOn_252 : decode cX10_goesOn 252 = .ok (.getfield 70, 3) := by decide +kernel
theorem dX10_goesOn_255 : decode cX10_goesOn 255 = .ok (.iload_n 3, 1) := by decide +kernel
theorem dX10_goesOn_256 : decode cX10_goesOn 256 = .ok (.iload 8, 2) := by decide +kernel
theorem dX10_goesOn_258 : decode cX10_goesOn 258 = .ok (.iadd, 1) := by decide +kernel
theorem dX10_goesOn_259 : decode cX10_goesOn 259 = .ok (.iaload, 1) := by decide +kernel
theorem dX10_goesOn_260 : decode cX10_goesOn 260 = .ok (.iload 10, 2) := by decide +kernel
theorem dX10_goesOn_262 : decode cX10_goesOn 262 = .ok (.invokevirtual 315, 3) := by decide +kernel
theorem dX10_goesOn_265 : decode cX10_goesOn 265 = .ok (.iinc 8 1, 3) := by decide +kernel
theorem dX10_goesOn_268 : decode cX10_goesOn 268 = .ok (.goto (-167), 3) := by decide +kernel
theorem dX10_goesOn_271 : decode cX10_goesOn 271 = .ok (.aload_n 0, 1) := by decide +kernel
theorem dX10_goesOn_272 : decode cX10_goesOn 272 = .ok (.iload_n 1, 1) := by decide +kernel
theorem dX10_goesOn_273 : decode cX10_goesOn 273 = .ok (.iload 4, 2) := by decide +kernel
theorem dX10_goesOn_275 : decode cX10_goesOn 275 = .ok (.iadd, 1) := by decide +kernel
theorem dX10_goesOn_276 : decode cX10_goesOn 276 = .ok (.invokevirtual 312, 3) := by decide +kernel
theorem dX10_goesOn_279 : decode cX10_goesOn 279 = .ok (.aload_n 0, 1) := by decide +kernel
theorem dX10_goesOn_280 : decode cX10_goesOn 280 = .ok (.iload 7, 2) := by decide +kernel
theorem dX10_goesOn_282 : decode cX10_goesOn 282 = .ok (.putfield 178, 3) := by decide +kernel
theorem dX10_goesOn_285 : decode cX10_goesOn 285 = .ok (.return_, 1) := by decide +kernel
set_option maxRecDepth 20000 in
theorem ggX10_laysMatches_X10_variablesAt : GoodIn wsX10_laysMatches wsX10_variablesAt := goodIn_r _ [9, 10, 11, 12, 13, 8, 14, 15, 16, 17, 18, 97, 98, 99, 100, 101, 102, 103, 104, 105, 106, 107, 108, 109, 110, 111, 112, 113, 114, 115, 116, 117, 118, 119, 120, 121, 122, 123, 124, 125, 126, 127, 128, 129, 130, 131, 132, 133, 134, 135, 136, 137, 138, 139, 140, 141, 142, 143, 144, 145, 146] rfl (by decide +kernel)
set_option maxRecDepth 20000 in
theorem gX10_laysMatches_X10_variablesAt : GoodIn wsX10_laysMatches (wsV RX10 268 RX10 yX10_variablesAt wsX10_variablesAt) := goodIn_app (goodIn_of _ (by decide +kernel)) ggX10_laysMatches_X10_variablesAt
set_option maxRecDepth 20000 in
theorem ggX10_laysMatches_X10_aims : GoodIn wsX10_laysMatches wsX10_aims := goodIn_r _ [22, 23, 24, 97, 98, 99, 100, 101, 102, 103, 104, 105, 106, 107, 108, 109, 110, 111, 112, 113, 114, 115, 116, 117, 118, 119, 120, 121, 122, 123, 124, 125, 126, 127, 128, 129, 130, 131, 132, 133, 134, 135, 136, 137, 138, 139, 140, 141, 142, 143, 144, 145, 146] rfl (by decide +kernel)
set_option maxRecDepth 20000 in
theorem gX10_laysMatches_X10_aims : GoodIn wsX10_laysMatches (wsV RX10 315 RX10 yX10_aims wsX10_aims) := goodIn_app (goodIn_of _ (by decide +kernel)) ggX10_laysMatches_X10_aims
set_option maxRecDepth 20000 in
theorem ggX10_laysMatches_X10_solves : GoodIn wsX10_laysMatches wsX10_solves := goodIn_r _ [28, 29, 23, 24, 10, 30, 31, 32, 33, 8, 34, 1, 35, 3, 4, 36, 37, 38, 39, 40, 41, 42, 11, 12, 13, 14, 15, 16, 17, 18, 43, 44, 45, 46, 47, 48, 49, 50, 51, 52, 53, 54, 55, 56, 57, 58, 59, 60, 19, 20, 21, 22, 25, 26, 27, 61, 2, 62, 63, 64, 65, 66, 67, 68, 69, 70, 71, 72, 73, 74, 75, 76, 77, 78, 79, 80, 81, 82, 83, 84, 85, 86, 87, 88, 89, 90, 91, 92, 93, 94, 95, 96, 97, 98, 99, 100, 101, 102, 103, 104, 105, 106, 107, 108, 109, 110, 111, 112, 113, 114, 115, 116, 117, 118, 119, 120, 121, 122, 123, 124, 125, 126, 127, 128, 129, 130, 131, 132, 133, 134, 135, 136, 137, 138, 139, 140, 141, 142, 143, 144, 145, 146] rfl (by decide +kernel)
set_option maxRecDepth 20000 in
theorem gX10_laysMatches_X10_solves : GoodIn wsX10_laysMatches (wsV RX10 312 RX10 yX10_solves wsX10_solves) := goodIn_app (goodIn_of _ (by decide +kernel)) ggX10_laysMatches_X10_solves
theorem dX10_laysMatches_0 : decode cX10_laysMatches 0 = .ok (.aload_n 0, 1) := by decide +kernel
theorem dX10_laysMatches_1 : decode cX10_laysMatches 1 = .ok (.iconst 0, 1) := by decide +kernel
theorem dX10_laysMatches_2 : decode cX10_laysMatches 2 = .ok (.putfield 287, 3) := by decide +kernel
theorem dX10_laysMatches_5 : decode cX10_laysMatches 5 = .ok (.aload_n 0, 1) := by decide +kernel
theorem dX10_laysMatches_6 : decode cX10_laysMatches 6 = .ok (.iconst 0, 1) := by decide +kernel
theorem dX10_laysMatches_7 : decode cX10_laysMatches 7 = .ok (.putfield 318, 3) := by decide +kernel
theorem dX10_laysMatches_10 : decode cX10_laysMatches 10 = .ok (.aload_n 0, 1) := by decide +kernel
theorem dX10_laysMatches_11 : decode cX10_laysMatches 11 = .ok (.aload_n 0, 1) := by decide +kernel
theorem dX10_laysMatches_12 : decode cX10_laysMatches 12 = .ok (.iload_n 1, 1) := by decide +kernel
theorem dX10_laysMatches_13 : decode cX10_laysMatches 13 = .ok (.invokevirtual 268, 3) := by decide +kernel
theorem dX10_laysMatches_16 : decode cX10_laysMatches 16 = .ok (.putfield 290, 3) := by decide +kernel
theorem dX10_laysMatches_19 : decode cX10_laysMatches 19 = .ok (.iconst 0, 1) := by decide +kernel
theorem dX10_laysMatches_20 : decode cX10_laysMatches 20 = .ok (.istore_n 3, 1) := by decide +kernel
theorem dX10_laysMatches_21 : decode cX10_laysMatches 21 = .ok (.iload_n 3, 1) := by decide +kernel
theorem dX10_laysMatches_22 : decode cX10_laysMatches 22 = .ok (.iconst 5, 1) := by decide +kernel
theorem dX10_laysMatches_23 : decode cX10_laysMatches 23 = .ok (.if_icmp .ge 16, 3) := by decide +kernel
theorem dX10_laysMatches_26 : decode cX10_laysMatches 26 = .ok (.aload_n 0, 1) := by decide +kernel
theorem dX10_laysMatches_27 : decode cX10_laysMatches 27 = .ok (.getfield 67, 3) := by decide +kernel
theorem dX10_laysMatches_30 : decode cX10_laysMatches 30 = .ok (.iload_n 3, 1) := by decide +kernel
theorem dX10_laysMatches_31 : decode cX10_laysMatches 31 = .ok (.iconst (-1), 1) := by decide +kernel
theorem dX10_laysMatches_32 : decode cX10_laysMatches 32 = .ok (.iastore, 1) := by decide +kernel
theorem dX10_laysMatches_33 : decode cX10_laysMatches 33 = .ok (.iinc 3 1, 3) := by decide +kernel
theorem dX10_laysMatches_36 : decode cX10_laysMatches 36 = .ok (.goto (-15), 3) := by decide +kernel
theorem dX10_laysMatches_39 : decode cX10_laysMatches 39 = .ok (.aload_n 0, 1) := by decide +kernel
theorem dX10_laysMatches_40 : decode cX10_laysMatches 40 = .ok (.iconst 0, 1) := by decide +kernel
theorem dX10_laysMatches_41 : decode cX10_laysMatches 41 = .ok (.iload_n 1, 1) := by decide +kernel
theorem dX10_laysMatches_42 : decode cX10_laysMatches 42 = .ok (.iload_n 2, 1) := by decide +kernel
theorem dX10_laysMatches_43 : decode cX10_laysMatches 43 = .ok (.invokevirtual 315, 3) := by decide +kernel
theorem dX10_laysMatches_46 : decode cX10_laysMatches 46 = .ok (.aload_n 0, 1) := by decide +kernel
theorem dX10_laysMatches_47 : decode cX10_laysMatches 47 = .ok (.iconst 1, 1) := by decide +kernel
theorem dX10_laysMatches_48 : decode cX10_laysMatches 48 = .ok (.invokevirtual 312, 3) := by decide +kernel
theorem dX10_laysMatches_51 : decode cX10_laysMatches 51 = .ok (.return_, 1) := by decide +kernel
set_option maxRecDepth 20000 in
theorem ggX10_fills_X10_foundAt : GoodIn wsX10_fills wsX10_foundAt := goodIn_r _ [8] rfl (by decide +kernel)
set_option maxRecDepth 20000 in
theorem gX10_fills_X10_foundAt : GoodIn wsX10_fills (wsV RX10 284 RX10 yX10_foundAt wsX10_foundAt) := goodIn_app (goodIn_of _ (by decide +kernel)) ggX10_fills_X10_foundAt
set_option maxRecDepth 20000 in
theorem ggX10_fills_X10_partsAt : GoodIn wsX10_fills wsX10_partsAt := goodIn_r _ [12, 2, 46, 47, 48, 49, 50, 51, 52, 53, 54, 55, 56, 57, 58, 59, 60, 61, 62, 63, 64, 65, 66, 67, 68, 69, 70, 71, 72, 73, 74, 75, 76, 77, 78, 79, 80, 81, 82, 83, 84, 85, 86, 87, 88, 89, 90, 91, 92, 93, 94, 95] rfl (by decide +kernel)
set_option maxRecDepth 20000 in
theorem gX10_fills_X10_partsAt : GoodIn wsX10_fills (wsV RX10 209 RX10 yX10_partsAt wsX10_partsAt) := goodIn_app (goodIn_of _ (by decide +kernel)) ggX10_fills_X10_partsAt
set_option maxRecDepth 20000 in
theorem ggX10_fills_X10_fills : GoodIn wsX10_fills wsX10_fills := goodIn_r _ [0, 1, 2, 3, 4, 5, 6, 7, 8, 9, 10, 11, 12, 13, 14, 15, 16, 17, 18, 19, 20, 21, 22, 23, 24, 25, 26, 27, 28, 29, 30, 31, 32, 33, 34, 35, 36, 37, 38, 39, 40, 41, 42, 43, 44, 45, 46, 47, 48, 49, 50, 51, 52, 53, 54, 55, 56, 57, 58, 59, 60, 61, 62, 63, 64, 65, 66, 67, 68, 69, 70, 71, 72, 73, 74, 75, 76, 77, 78, 79, 80, 81, 82, 83, 84, 85, 86, 87, 88, 89, 90, 91, 92, 93, 94, 95] rfl (by decide +kernel)
set_option maxRecDepth 20000 in
theorem gX10_fills_X10_fills : GoodIn wsX10_fills (wsV RX10 336 RX10 yX10_fills wsX10_fills) := goodIn_app (goodIn_of _ (by decide +kernel)) ggX10_fills_X10_fills
set_option maxRecDepth 20000 in
theorem ggX10_fills_X10_behind : GoodIn wsX10_fills wsX10_behind := goodIn_r _ [19, 9, 10, 11, 7, 12, 2, 46, 47, 48, 49, 50, 51, 52, 53, 54, 55, 56, 57, 58, 59, 60, 61, 62, 63, 64, 65, 66, 67, 68, 69, 70, 71, 72, 73, 74, 75, 76, 77, 78, 79, 80, 81, 82, 83, 84, 85, 86, 87, 88, 89, 90, 91, 92, 93, 94, 95] rfl (by decide +kernel)
set_option maxRecDepth 20000 in
theorem gX10_fills_X10_behind : GoodIn wsX10_fills (wsV RX10 213 RX10 yX10_behind wsX10_behind) := goodIn_app (goodIn_of _ (by decide +kernel)) ggX10_fills_X10_behind
set_option maxRecDepth 20000 in
theorem ggX10_fills_X10_operatorAt : GoodIn wsX10_fills wsX10_operatorAt := goodIn_r _ [23, 2, 46, 47, 48, 49, 50, 51, 52, 53, 54, 55, 56, 57, 58, 59, 60, 61, 62, 63, 64, 65, 66, 67, 68, 69, 70, 71, 72, 73, 74, 75, 76, 77, 78, 79, 80, 81, 82, 83, 84, 85, 86, 87, 88, 89, 90, 91, 92, 93, 94, 95] rfl (by decide +kernel)
set_option maxRecDepth 20000 in
theorem gX10_fills_X10_operatorAt : GoodIn wsX10_fills (wsV RX10 220 RX10 yX10_operatorAt wsX10_operatorAt) := goodIn_app (goodIn_of _ (by decide +kernel)) ggX10_fills_X10_operatorAt
set_option maxRecDepth 20000 in
theorem ggX10_fills_X10_stands : GoodIn wsX10_fills wsX10_stands := goodIn_r _ [27, 1, 28, 29, 30, 2, 20, 21, 22, 7, 23, 16, 17, 18, 19, 9, 10, 11, 12, 31, 32, 33, 34, 35, 36, 37, 38, 39, 40, 41, 42, 43, 44, 45, 46, 47, 48, 49, 50, 51, 52, 53, 54, 55, 56, 57, 58, 59, 60, 61, 62, 63, 64, 65, 66, 67, 68, 69, 70, 71, 72, 73, 74, 75, 76, 77, 78, 79, 80, 81, 82, 83, 84, 85, 86, 87, 88, 89, 90, 91, 92, 93, 94, 95] rfl (by decide +kernel)
set_option maxRecDepth 20000 in
theorem gX10_fills_X10_stands : GoodIn wsX10_fills (wsV RX10 239 RX10 yX10_stands wsX10_stands) := goodIn_app (goodIn_of _ (by decide +kernel)) ggX10_fills_X10_stands
theorem dX10_fills_0 : decode cX10_fills 0 = .ok (.aload_n 0, 1) := by decide +kernel
theorem dX10_fills_1 : decode cX10_fills 1 = .ok (.getfield 178, 3) := by decide +kernel
theorem dX10_fills_4 : decode cX10_fills 4 = .ok (.istore_n 3, 1) := by decide +kernel
theorem dX10_fills_5 : decode cX10_fills 5 = .ok (.aload_n 0, 1) := by decide +kernel
theorem dX10_fills_6 : decode cX10_fills 6 = .ok (.getfield 52, 3) := by decide +kernel
theorem dX10_fills_9 : decode cX10_fills 9 = .ok (.iload_n 1, 1) := by decide +kernel
theorem dX10_fills_10 : decode cX10_fills 10 = .ok (.iaload, 1) := by decide +kernel
theorem dX10_fills_11 : decode cX10_fills 11 = .ok (.sipush 512, 3) := by decide +kernel
theorem dX10_fills_14 : decode cX10_fills 14 = .ok (.if_icmp .ge 73, 3) := by decide +kernel
theorem dX10_fills_17 : decode cX10_fills 17 = .ok (.iconst 1, 1) := by decide +kernel
theorem dX10_fills_18 : decode cX10_fills 18 = .ok (.istore 4, 2) := by decide +kernel
theorem dX10_fills_20 : decode cX10_fills 20 = .ok (.aload_n 0, 1) := by decide +kernel
theorem dX10_fills_21 : decode cX10_fills 21 = .ok (.iload_n 2, 1) := by decide +kernel
theorem dX10_fills_22 : decode cX10_fills 22 = .ok (.aload_n 0, 1) := by decide +kernel
theorem dX10_fills_23 : decode cX10_fills 23 = .ok (.getfield 52, 3) := by decide +kernel
theorem dX10_fills_26 : decode cX10_fills 26 = .ok (.iload_n 1, 1) := by decide +kernel
theorem dX10_fills_27 : decode cX10_fills 27 = .ok (.iaload, 1) := by decide +kernel
theorem dX10_fills_28 : decode cX10_fills 28 = .ok (.invokevirtual 284, 3) := by decide +kernel
theorem dX10_fills_31 : decode cX10_fills 31 = .ok (.istore 5, 2) := by decide +kernel
theorem dX10_fills_33 : decode cX10_fills 33 = .ok (.iload 4, 2) := by decide +kernel
theorem dX10_fills_35 : decode cX10_fills 35 = .ok (.ifCond .le 50, 3) := by decide +kernel
theorem dX10_fills_38 : decode cX10_fills 38 = .ok (.aload_n 0, 1) := by decide +kernel
theorem dX10_fills_39 : decode cX10_fills 39 = .ok (.getfield 52, 3) := by decide +kernel
theorem dX10_fills_42 : decode cX10_fills 42 = .ok (.aload_n 0, 1) := by decide +kernel
theorem dX10_fills_43 : decode cX10_fills 43 = .ok (.getfield 178, 3) := by decide +kernel
theorem dX10_fills_46 : decode cX10_fills 46 = .ok (.aload_n 0, 1) := by decide +kernel
theorem dX10_fills_47 : decode cX10_fills 47 = .ok (.getfield 73, 3) := by decide +kernel
theorem dX10_fills_50 : decode cX10_fills 50 = .ok (.iload 5, 2) := by decide +kernel
theorem dX10_fills_52 : decode cX10_fills 52 = .ok (.iaload, 1) := by decide +kernel
theorem dX10_fills_53 : decode cX10_fills 53 = .ok (.iastore, 1) := by decide +kernel
theorem dX10_fills_54 : decode cX10_fills 54 = .ok (.iload 4, 2) := by decide +kernel
theorem dX10_fills_56 : decode cX10_fills 56 = .ok (.aload_n 0, 1) := by decide +kernel
theorem dX10_fills_57 : decode cX10_fills 57 = .ok (.aload_n 0, 1) := by decide +kernel
theorem dX10_fills_58 : decode cX10_fills 58 = .ok (.getfield 178, 3) := by decide +kernel
theorem dX10_fills_61 : decode cX10_fills 61 = .ok (.invokevirtual 209, 3) := by decide +kernel
theorem dX10_fills_64 : decode cX10_fills 64 = .ok (.iconst 1, 1) := by decide +kernel
theorem dX10_fills_65 : decode cX10_fills 65 = .ok (.isub, 1) := by decide +kernel
theorem dX10_fills_66 : decode cX10_fills 66 = .ok (.iadd, 1) := by decide +kernel
theorem dX10_fills_67 : decode cX10_fills 67 = .ok (.istore 4, 2) := by decide +kernel
theorem dX10_fills_69 : decode cX10_fills 69 = .ok (.aload_n 0, 1) := by decide +kernel
theorem dX10_fills_70 : decode cX10_fills 70 = .ok (.dup, 1) := by decide +kernel
theorem dX10_fills_71 : decode cX10_fills 71 = .ok (.getfield 178, 3) := by decide +kernel
theorem dX10_fills_74 : decode cX10_fills 74 = .ok (.iconst 1, 1) := by decide +kernel
theorem dX10_fills_75 : decode cX10_fills 75 = .ok (.iadd, 1) := by decide +kernel
theorem dX10_fills_76 : decode cX10_fills 76 = .ok (.putfield 178, 3) := by decide +kernel
theorem dX10_fills_79 : decode cX10_fills 79 = .ok (.iinc 5 1, 3) := by decide +kernel
theorem dX10_fills_82 : decode cX10_fills 82 = .ok (.goto (-49), 3) := by decide +kernel
theorem dX10_fills_85 : decode cX10_fills 85 = .ok (.iload_n 3, 1) := by decide +kernel
theorem dX10_fills_86 : decode cX10_fills 86 = .ok (.ireturn, 1) := by decide +kernel
theorem dX10_fills_87 : decode cX10_fills 87 = .ok (.aload_n 0, 1) := by decide +kernel
theorem dX10_fills_88 : decode cX10_fills 88 = .ok (.iload_n 1, 1) := by decide +kernel
theorem dX10_fills_89 : decode cX10_fills 89 = .ok (.invokevirtual 209, 3) := by decide +kernel
theorem dX10_fills_92 : decode cX10_fills 92 = .ok (.istore 4, 2) := by decide +kernel
theorem dX10_fills_94 : decode cX10_fills 94 = .ok (.iload 4, 2) := by decide +kernel
theorem dX10_fills_96 : decode cX10_fills 96 = .ok (.ifCond .ne 30, 3) := by decide +kernel
theorem dX10_fills_99 : decode cX10_fills 99 = .ok (.aload_n 0, 1) := by decide +kernel
theorem dX10_fills_100 : decode cX10_fills 100 = .ok (.getfield 52, 3) := by decide +kernel
theorem dX10_fills_103 : decode cX10_fills 103 = .ok (.aload_n 0, 1) := by decide +kernel
theorem dX10_fills_104 : decode cX10_fills 104 = .ok (.getfield 178, 3) := by decide +kernel
theorem dX10_fills_107 : decode cX10_fills 107 = .ok (.aload_n 0, 1) := by decide +kernel
theorem dX10_fills_108 : decode cX10_fills 108 = .ok (.getfield 52, 3) := by decide +kernel
theorem dX10_fills_111 : decode cX10_fills 111 = .ok (.iload_n 1, 1) := by decide +kernel
theorem dX10_fills_112 : decode cX10_fills 112 = .ok (.iaload, 1) := by decide +kernel
theorem dX10_fills_113 : decode cX10_fills 113 = .ok (.iastore, 1) := by decide +kernel
theorem dX10_fills_114 : decode cX10_fills 114 = .ok (.aload_n 0, 1) := by decide +kernel
theorem dX10_fills_115 : decode cX10_fills 115 = .ok (.dup, 1) := by decide +kernel
theorem dX10_fills_116 : decode cX10_fills 116 = .ok (.getfield 178, 3) := by decide +kernel
theorem dX10_fills_119 : decode cX10_fills 119 = .ok (.iconst 1, 1) := by decide +kernel
theorem dX10_fills_120 : decode cX10_fills 120 = .ok (.iadd, 1) := by decide +kernel
theorem dX10_fills_121 : decode cX10_fills 121 = .ok (.putfield 178, 3) := by decide +kernel
theorem dX10_fills_124 : decode cX10_fills 124 = .ok (.iload_n 3, 1) := by decide +kernel
theorem dX10_fills_125 : decode cX10_fills 125 = .ok (.ireturn, 1) := by decide +kernel
theorem dX10_fills_126 : decode cX10_fills 126 = .ok (.iload_n 1, 1) := by decide +kernel
theorem dX10_fills_127 : decode cX10_fills 127 = .ok (.iconst 1, 1) := by decide +kernel
theorem dX10_fills_128 : decode cX10_fills 128 = .ok (.iadd, 1) := by decide +kernel
theorem dX10_fills_129 : decode cX10_fills 129 = .ok (.istore 5, 2) := by decide +kernel
theorem dX10_fills_131 : decode cX10_fills 131 = .ok (.iconst 0, 1) := by decide +kernel
theorem dX10_fills_132 : decode cX10_fills 132 = .ok (.istore 6, 2) := by decide +kernel
theorem dX10_fills_134 : decode cX10_fills 134 = .ok (.iload 6, 2) := by decide +kernel
theorem dX10_fills_136 : decode cX10_fills 136 = .ok (.iload 4, 2) := by decide +kernel
theorem dX10_fills_138 : decode cX10_fills 138 = .ok (.if_icmp .ge 26, 3) := by decide +kernel
theorem dX10_fills_141 : decode cX10_fills 141 = .ok (.aload_n 0, 1) := by decide +kernel
theorem dX10_fills_142 : decode cX10_fills 142 = .ok (.iload 5, 2) := by decide +kernel
theorem dX10_fills_144 : decode cX10_fills 144 = .ok (.iload_n 2, 1) := by decide +kernel
theorem dX10_fills_145 : decode cX10_fills 145 = .ok (.invokevirtual 336, 3) := by decide +kernel
theorem dX10_fills_148 : decode cX10_fills 148 = .ok (.istore 7, 2) := by decide +kernel
theorem dX10_fills_150 : decode cX10_fills 150 = .ok (.aload_n 0, 1) := by decide +kernel
theorem dX10_fills_151 : decode cX10_fills 151 = .ok (.iload 5, 2) := by decide +kernel
theorem dX10_fills_153 : decode cX10_fills 153 = .ok (.invokevirtual 213, 3) := by decide +kernel
theorem dX10_fills_156 : decode cX10_fills 156 = .ok (.istore 5, 2) := by decide +kernel
theorem dX10_fills_158 : decode cX10_fills 158 = .ok (.iinc 6 1, 3) := by decide +kernel
theorem dX10_fills_161 : decode cX10_fills 161 = .ok (.goto (-27), 3) := by decide +kernel
theorem dX10_fills_164 : decode cX10_fills 164 = .ok (.aload_n 0, 1) := by decide +kernel
theorem dX10_fills_165 : decode cX10_fills 165 = .ok (.aload_n 0, 1) := by decide +kernel
theorem dX10_fills_166 : decode cX10_fills 166 = .ok (.iload_n 1, 1) := by decide +kernel
theorem dX10_fills_167 : decode cX10_fills 167 = .ok (.invokevirtual 220, 3) := by decide +kernel
theorem dX10_fills_170 : decode cX10_fills 170 = .ok (.iload_n 3, 1) := by decide +kernel
theorem dX10_fills_171 : decode cX10_fills 171 = .ok (.invokevirtual 239, 3) := by decide +kernel
theorem dX10_fills_174 : decode cX10_fills 174 = .ok (.ireturn, 1) := by decide +kernel
set_option maxRecDepth 20000 in
theorem ggX10_rebuilds_X10_copies : GoodIn wsX10_rebuilds wsX10_copies := goodIn_r _ [6, 1, 7, 8, 9, 10, 5, 11, 12, 13, 14, 15, 41, 42, 43, 44, 45, 46, 47, 48, 49, 50, 51, 52, 53, 54, 55, 56, 57, 58, 59, 60, 61, 62, 63, 64, 65, 66, 67, 68, 69, 70, 71, 72, 73, 74, 75, 76, 77, 78, 79, 80, 81, 82, 83, 84, 85, 86, 87, 88, 89, 90] rfl (by decide +kernel)
set_option maxRecDepth 20000 in
theorem gX10_rebuilds_X10_copies : GoodIn wsX10_rebuilds (wsV RX10 230 RX10 yX10_copies wsX10_copies) := goodIn_app (goodIn_of _ (by decide +kernel)) ggX10_rebuilds_X10_copies
set_option maxRecDepth 20000 in
theorem ggX10_rebuilds_X10_partsAt : GoodIn wsX10_rebuilds wsX10_partsAt := goodIn_r _ [15, 7, 41, 42, 43, 44, 45, 46, 47, 48, 49, 50, 51, 52, 53, 54, 55, 56, 57, 58, 59, 60, 61, 62, 63, 64, 65, 66, 67, 68, 69, 70, 71, 72, 73, 74, 75, 76, 77, 78, 79, 80, 81, 82, 83, 84, 85, 86, 87, 88, 89, 90] rfl (by decide +kernel)
set_option maxRecDepth 20000 in
theorem gX10_rebuilds_X10_partsAt : GoodIn wsX10_rebuilds (wsV RX10 209 RX10 yX10_partsAt wsX10_partsAt) := goodIn_app (goodIn_of _ (by decide +kernel)) ggX10_rebuilds_X10_partsAt
set_option maxRecDepth 20000 in
theorem ggX10_rebuilds_X10_rebuilds : GoodIn wsX10_rebuilds wsX10_rebuilds := goodIn_r _ [0, 1, 2, 3, 4, 5, 6, 7, 8, 9, 10, 11, 12, 13, 14, 15, 16, 17, 18, 19, 20, 21, 22, 23, 24, 25, 26, 27, 28, 29, 30, 31, 32, 33, 34, 35, 36, 37, 38, 39, 40, 41, 42, 43, 44, 45, 46, 47, 48, 49, 50, 51, 52, 53, 54, 55, 56, 57, 58, 59, 60, 61, 62, 63, 64, 65, 66, 67, 68, 69, 70, 71, 72, 73, 74, 75, 76, 77, 78, 79, 80, 81, 82, 83, 84, 85, 86, 87, 88, 89, 90] rfl (by decide +kernel)
set_option maxRecDepth 20000 in
theorem gX10_rebuilds_X10_rebuilds : GoodIn wsX10_rebuilds (wsV RX10 339 RX10 yX10_rebuilds wsX10_rebuilds) := goodIn_app (goodIn_of _ (by decide +kernel)) ggX10_rebuilds_X10_rebuilds
set_option maxRecDepth 20000 in
theorem ggX10_rebuilds_X10_behind : GoodIn wsX10_rebuilds wsX10_behind := goodIn_r _ [11, 12, 13, 14, 5, 15, 7, 41, 42, 43, 44, 45, 46, 47, 48, 49, 50, 51, 52, 53, 54, 55, 56, 57, 58, 59, 60, 61, 62, 63, 64, 65, 66, 67, 68, 69, 70, 71, 72, 73, 74, 75, 76, 77, 78, 79, 80, 81, 82, 83, 84, 85, 86, 87, 88, 89, 90] rfl (by decide +kernel)
set_option maxRecDepth 20000 in
theorem gX10_rebuilds_X10_behind : GoodIn wsX10_rebuilds (wsV RX10 213 RX10 yX10_behind wsX10_behind) := goodIn_app (goodIn_of _ (by decide +kernel)) ggX10_rebuilds_X10_behind
set_option maxRecDepth 20000 in
theorem ggX10_rebuilds_X10_operatorAt : GoodIn wsX10_rebuilds wsX10_operatorAt := goodIn_r _ [22, 7, 41, 42, 43, 44, 45, 46, 47, 48, 49, 50, 51, 52, 53, 54, 55, 56, 57, 58, 59, 60, 61, 62, 63, 64, 65, 66, 67, 68, 69, 70, 71, 72, 73, 74, 75, 76, 77, 78, 79, 80, 81, 82, 83, 84, 85, 86, 87, 88, 89, 90] rfl (by decide +kernel)
set_option maxRecDepth 20000 in
theorem gX10_rebuilds_X10_operatorAt : GoodIn wsX10_rebuilds (wsV RX10 220 RX10 yX10_operatorAt wsX10_operatorAt) := goodIn_app (goodIn_of _ (by decide +kernel)) ggX10_rebuilds_X10_operatorAt
set_option maxRecDepth 20000 in
theorem ggX10_rebuilds_X10_stands : GoodIn wsX10_rebuilds wsX10_stands := goodIn_r _ [26, 1, 27, 28, 29, 7, 19, 20, 21, 5, 22, 8, 9, 10, 11, 12, 13, 14, 15, 30, 31, 32, 33, 34, 35, 36, 37, 38, 39, 40, 2, 3, 4, 6, 41, 42, 43, 44, 45, 46, 47, 48, 49, 50, 51, 52, 53, 54, 55, 56, 57, 58, 59, 60, 61, 62, 63, 64, 65, 66, 67, 68, 69, 70, 71, 72, 73, 74, 75, 76, 77, 78, 79, 80, 81, 82, 83, 84, 85, 86, 87, 88, 89, 90] rfl (by decide +kernel)
set_option maxRecDepth 20000 in
theorem gX10_rebuilds_X10_stands : GoodIn wsX10_rebuilds (wsV RX10 239 RX10 yX10_stands wsX10_stands) := goodIn_app (goodIn_of _ (by decide +kernel)) ggX10_rebuilds_X10_stands
theorem dX10_rebuilds_0 : decode cX10_rebuilds 0 = .ok (.aload_n 0, 1) := by decide +kernel
theorem dX10_rebuilds_1 : decode cX10_rebuilds 1 = .ok (.getfield 178, 3) := by decide +kernel
theorem dX10_rebuilds_4 : decode cX10_rebuilds 4 = .ok (.istore 4, 2) := by decide +kernel
theorem dX10_rebuilds_6 : decode cX10_rebuilds 6 = .ok (.iload_n 1, 1) := by decide +kernel
theorem dX10_rebuilds_7 : decode cX10_rebuilds 7 = .ok (.iload_n 2, 1) := by decide +kernel
theorem dX10_rebuilds_8 : decode cX10_rebuilds 8 = .ok (.if_icmp .ne 9, 3) := by decide +kernel
theorem dX10_rebuilds_11 : decode cX10_rebuilds 11 = .ok (.aload_n 0, 1) := by decide +kernel
theorem dX10_rebuilds_12 : decode cX10_rebuilds 12 = .ok (.iload_n 3, 1) := by decide +kernel
theorem dX10_rebuilds_13 : decode cX10_rebuilds 13 = .ok (.invokevirtual 230, 3) := by decide +kernel
theorem dX10_rebuilds_16 : decode cX10_rebuilds 16 = .ok (.ireturn, 1) := by decide +kernel
theorem dX10_rebuilds_17 : decode cX10_rebuilds 17 = .ok (.aload_n 0, 1) := by decide +kernel
theorem dX10_rebuilds_18 : decode cX10_rebuilds 18 = .ok (.iload_n 1, 1) := by decide +kernel
theorem dX10_rebuilds_19 : decode cX10_rebuilds 19 = .ok (.invokevirtual 209, 3) := by decide +kernel
theorem dX10_rebuilds_22 : decode cX10_rebuilds 22 = .ok (.istore 5, 2) := by decide +kernel
theorem dX10_rebuilds_24 : decode cX10_rebuilds 24 = .ok (.iload 5, 2) := by decide +kernel
theorem dX10_rebuilds_26 : decode cX10_rebuilds 26 = .ok (.ifCond .ne 9, 3) := by decide +kernel
theorem dX10_rebuilds_29 : decode cX10_rebuilds 29 = .ok (.aload_n 0, 1) := by decide +kernel
theorem dX10_rebuilds_30 : decode cX10_rebuilds 30 = .ok (.iload_n 1, 1) := by decide +kernel
theorem dX10_rebuilds_31 : decode cX10_rebuilds 31 = .ok (.invokevirtual 230, 3) := by decide +kernel
theorem dX10_rebuilds_34 : decode cX10_rebuilds 34 = .ok (.ireturn, 1) := by decide +kernel
theorem dX10_rebuilds_35 : decode cX10_rebuilds 35 = .ok (.iload_n 1, 1) := by decide +kernel
theorem dX10_rebuilds_36 : decode cX10_rebuilds 36 = .ok (.iconst 1, 1) := by decide +kernel
theorem dX10_rebuilds_37 : decode cX10_rebuilds 37 = .ok (.iadd, 1) := by decide +kernel
theorem dX10_rebuilds_38 : decode cX10_rebuilds 38 = .ok (.istore 6, 2) := by decide +kernel
theorem dX10_rebuilds_40 : decode cX10_rebuilds 40 = .ok (.iconst 0, 1) := by decide +kernel
theorem dX10_rebuilds_41 : decode cX10_rebuilds 41 = .ok (.istore 7, 2) := by decide +kernel
theorem dX10_rebuilds_43 : decode cX10_rebuilds 43 = .ok (.iload 7, 2) := by decide +kernel
theorem dX10_rebuilds_45 : decode cX10_rebuilds 45 = .ok (.iload 5, 2) := by decide +kernel
theorem dX10_rebuilds_47 : decode cX10_rebuilds 47 = .ok (.if_icmp .ge 27, 3) := by decide +kernel
theorem dX10_rebuilds_50 : decode cX10_rebuilds 50 = .ok (.aload_n 0, 1) := by decide +kernel
theorem dX10_rebuilds_51 : decode cX10_rebuilds 51 = .ok (.iload 6, 2) := by decide +kernel
theorem dX10_rebuilds_53 : decode cX10_rebuilds 53 = .ok (.iload_n 2, 1) := by decide +kernel
theorem dX10_rebuilds_54 : decode cX10_rebuilds 54 = .ok (.iload_n 3, 1) := by decide +kernel
theorem dX10_rebuilds_55 : decode cX10_rebuilds 55 = .ok (.invokevirtual 339, 3) := by decide +kernel
theorem dX10_rebuilds_58 : decode cX10_rebuilds 58 = .ok (.istore 8, 2) := by decide +kernel
theorem dX10_rebuilds_60 : decode cX10_rebuilds 60 = .ok (.aload_n 0, 1) := by decide +kernel
theorem dX10_rebuilds_61 : decode cX10_rebuilds 61 = .ok (.iload 6, 2) := by decide +kernel
theorem dX10_rebuilds_63 : decode cX10_rebuilds 63 = .ok (.invokevirtual 213, 3) := by decide +kernel
theorem dX10_rebuilds_66 : decode cX10_rebuilds 66 = .ok (.istore 6, 2) := by decide +kernel
theorem dX10_rebuilds_68 : decode cX10_rebuilds 68 = .ok (.iinc 7 1, 3) := by decide +kernel
theorem dX10_rebuilds_71 : decode cX10_rebuilds 71 = .ok (.goto (-28), 3) := by decide +kernel
theorem dX10_rebuilds_74 : decode cX10_rebuilds 74 = .ok (.aload_n 0, 1) := by decide +kernel
theorem dX10_rebuilds_75 : decode cX10_rebuilds 75 = .ok (.aload_n 0, 1) := by decide +kernel
theorem dX10_rebuilds_76 : decode cX10_rebuilds 76 = .ok (.iload_n 1, 1) := by decide +kernel
theorem dX10_rebuilds_77 : decode cX10_rebuilds 77 = .ok (.invokevirtual 220, 3) := by decide +kernel
theorem dX10_rebuilds_80 : decode cX10_rebuilds 80 = .ok (.iload 4, 2) := by decide +kernel
theorem dX10_rebuilds_82 : decode cX10_rebuilds 82 = .ok (.invokevirtual 239, 3) := by decide +kernel
theorem dX10_rebuilds_85 : decode cX10_rebuilds 85 = .ok (.ireturn, 1) := by decide +kernel
set_option maxRecDepth 20000 in
theorem ggX10_comparesStep_X10_behind : GoodIn wsX10_comparesStep wsX10_behind := goodIn_r _ [7, 8, 9, 10, 6, 11, 2, 12, 13, 14, 15, 16, 17, 18, 19, 20, 21, 22, 23, 24, 25, 26, 27, 28, 29, 30, 31, 32, 33, 34, 35, 36, 37, 38, 39, 40, 41, 42, 43, 44, 45, 46, 47, 48, 49, 50, 51, 52, 53, 54, 55, 56, 57, 58, 59, 60, 61] rfl (by decide +kernel)
set_option maxRecDepth 20000 in
theorem gX10_comparesStep_X10_behind : GoodIn wsX10_comparesStep (wsV RX10 213 RX10 yX10_behind wsX10_behind) := goodIn_app (goodIn_of _ (by decide +kernel)) ggX10_comparesStep_X10_behind
theorem dX10_comparesStep_0 : decode cX10_comparesStep 0 = .ok (.aload_n 0, 1) := by decide +kernel
theorem dX10_comparesStep_1 : decode cX10_comparesStep 1 = .ok (.iload_n 2, 1) := by decide +kernel
theorem dX10_comparesStep_2 : decode cX10_comparesStep 2 = .ok (.invokevirtual 213, 3) := by decide +kernel
theorem dX10_comparesStep_5 : decode cX10_comparesStep 5 = .ok (.istore_n 3, 1) := by decide +kernel
theorem dX10_comparesStep_6 : decode cX10_comparesStep 6 = .ok (.iload_n 2, 1) := by decide +kernel
theorem dX10_comparesStep_7 : decode cX10_comparesStep 7 = .ok (.istore 4, 2) := by decide +kernel
theorem dX10_comparesStep_9 : decode cX10_comparesStep 9 = .ok (.iload 4, 2) := by decide +kernel
theorem dX10_comparesStep_11 : decode cX10_comparesStep 11 = .ok (.iload_n 3, 1) := by decide +kernel
theorem dX10_comparesStep_12 : decode cX10_comparesStep 12 = .ok (.if_icmp .ge 63, 3) := by decide +kernel
theorem dX10_comparesStep_15 : decode cX10_comparesStep 15 = .ok (.aload_n 0, 1) := by decide +kernel
theorem dX10_comparesStep_16 : decode cX10_comparesStep 16 = .ok (.getfield 82, 3) := by decide +kernel
theorem dX10_comparesStep_19 : decode cX10_comparesStep 19 = .ok (.bipush 21, 2) := by decide +kernel
theorem dX10_comparesStep_21 : decode cX10_comparesStep 21 = .ok (.iload_n 1, 1) := by decide +kernel
theorem dX10_comparesStep_22 : decode cX10_comparesStep 22 = .ok (.imul, 1) := by decide +kernel
theorem dX10_comparesStep_23 : decode cX10_comparesStep 23 = .ok (.iload 4, 2) := by decide +kernel
theorem dX10_comparesStep_25 : decode cX10_comparesStep 25 = .ok (.iadd, 1) := by decide +kernel
theorem dX10_comparesStep_26 : decode cX10_comparesStep 26 = .ok (.iload_n 2, 1) := by decide +kernel
theorem dX10_comparesStep_27 : decode cX10_comparesStep 27 = .ok (.isub, 1) := by decide +kernel
theorem dX10_comparesStep_28 : decode cX10_comparesStep 28 = .ok (.iaload, 1) := by decide +kernel
theorem dX10_comparesStep_29 : decode cX10_comparesStep 29 = .ok (.aload_n 0, 1) := by decide +kernel
theorem dX10_comparesStep_30 : decode cX10_comparesStep 30 = .ok (.getfield 52, 3) := by decide +kernel
theorem dX10_comparesStep_33 : decode cX10_comparesStep 33 = .ok (.iload 4, 2) := by decide +kernel
theorem dX10_comparesStep_35 : decode cX10_comparesStep 35 = .ok (.iaload, 1) := by decide +kernel
theorem dX10_comparesStep_36 : decode cX10_comparesStep 36 = .ok (.if_icmp .eq 33, 3) := by decide +kernel
theorem dX10_comparesStep_39 : decode cX10_comparesStep 39 = .ok (.aload_n 0, 1) := by decide +kernel
theorem dX10_comparesStep_40 : decode cX10_comparesStep 40 = .ok (.getfield 82, 3) := by decide +kernel
theorem dX10_comparesStep_43 : decode cX10_comparesStep 43 = .ok (.bipush 21, 2) := by decide +kernel
theorem dX10_comparesStep_45 : decode cX10_comparesStep 45 = .ok (.iload_n 1, 1) := by decide +kernel
theorem dX10_comparesStep_46 : decode cX10_comparesStep 46 = .ok (.imul, 1) := by decide +kernel
theorem dX10_comparesStep_47 : decode cX10_comparesStep 47 = .ok (.iload 4, 2) := by decide +kernel
theorem dX10_comparesStep_49 : decode cX10_comparesStep 49 = .ok (.iadd, 1) := by decide +kernel
theorem dX10_comparesStep_50 : decode cX10_comparesStep 50 = .ok (.iload_n 2, 1) := by decide +kernel
theorem dX10_comparesStep_51 : decode cX10_comparesStep 51 = .ok (.isub, 1) := by decide +kernel
theorem dX10_comparesStep_52 : decode cX10_comparesStep 52 = .ok (.iaload, 1) := by decide +kernel
theorem dX10_comparesStep_53 : decode cX10_comparesStep 53 = .ok (.aload_n 0, 1) := by decide +kernel
theorem dX10_comparesStep_54 : decode cX10_comparesStep 54 = .ok (.getfield 52, 3) := by decide +kernel
theorem dX10_comparesStep_57 : decode cX10_comparesStep 57 = .ok (.iload 4, 2) := by decide +kernel
theorem dX10_comparesStep_59 : decode cX10_comparesStep 59 = .ok (.iaload, 1) := by decide +kernel
theorem dX10_comparesStep_60 : decode cX10_comparesStep 60 = .ok (.if_icmp .ge 7, 3) := by decide +kernel
theorem dX10_comparesStep_63 : decode cX10_comparesStep 63 = .ok (.iconst (-1), 1) := by decide +kernel
theorem dX10_comparesStep_64 : decode cX10_comparesStep 64 = .ok (.goto 4, 3) := by decide +kernel
theorem dX10_comparesStep_67 : decode cX10_comparesStep 67 = .ok (.iconst 1, 1) := by decide +kernel
theorem dX10_comparesStep_68 : decode cX10_comparesStep 68 = .ok (.ireturn, 1) := by decide +kernel
theorem dX10_comparesStep_69 : decode cX10_comparesStep 69 = .ok (.iinc 4 1, 3) := by decide +kernel
theorem dX10_comparesStep_72 : decode cX10_comparesStep 72 = .ok (.goto (-63), 3) := by decide +kernel
theorem dX10_comparesStep_75 : decode cX10_comparesStep 75 = .ok (.iconst 0, 1) := by decide +kernel
theorem dX10_comparesStep_76 : decode cX10_comparesStep 76 = .ok (.ireturn, 1) := by decide +kernel
set_option maxRecDepth 20000 in
theorem ggX10_addsStep_X10_isGreat : GoodIn wsX10_addsStep wsX10_isGreat := goodIn_r _ [11, 6, 12, 13, 14, 15, 10, 16, 17, 18, 19, 20, 21, 22, 23, 24, 37, 38, 39, 40, 41, 42, 43, 44, 45, 46, 47, 48, 49, 50, 51, 52, 53, 54, 55, 56, 57, 58, 59, 60, 61, 62, 63, 64, 65, 66, 67, 68, 69, 70, 71, 72, 73, 74, 75, 76, 77, 78, 79, 80, 81, 82, 83, 84, 85, 86] rfl (by decide +kernel)
set_option maxRecDepth 20000 in
theorem gX10_addsStep_X10_isGreat : GoodIn wsX10_addsStep (wsV RX10 258 RX10 yX10_isGreat wsX10_isGreat) := goodIn_app (goodIn_of _ (by decide +kernel)) ggX10_addsStep_X10_isGreat
set_option maxRecDepth 20000 in
theorem ggX10_addsStep_X10_areAlike : GoodIn wsX10_addsStep wsX10_areAlike := goodIn_r _ [28, 29, 30, 31, 10, 32, 6, 13, 14, 15, 16, 17, 18, 19, 20, 37, 38, 39, 40, 41, 42, 43, 44, 45, 46, 47, 48, 49, 50, 51, 52, 53, 54, 55, 56, 57, 58, 59, 60, 61, 62, 63, 64, 65, 66, 67, 68, 69, 70, 71, 72, 73, 74, 75, 76, 77, 78, 79, 80, 81, 82, 83, 84, 85, 86] rfl (by decide +kernel)
set_option maxRecDepth 20000 in
theorem gX10_addsStep_X10_areAlike : GoodIn wsX10_addsStep (wsV RX10 248 RX10 yX10_areAlike wsX10_areAlike) := goodIn_app (goodIn_of _ (by decide +kernel)) ggX10_addsStep_X10_areAlike
set_option maxRecDepth 20000 in
theorem ggX10_addsStep_X10_comparesStep : GoodIn wsX10_addsStep wsX10_comparesStep := goodIn_r _ [36, 5, 6, 13, 14, 15, 10, 16, 17, 18, 19, 20, 37, 38, 39, 40, 41, 42, 43, 44, 45, 46, 47, 48, 49, 50, 51, 52, 53, 54, 55, 56, 57, 58, 59, 60, 61, 62, 63, 64, 65, 66, 67, 68, 69, 70, 71, 72, 73, 74, 75, 76, 77, 78, 79, 80, 81, 82, 83, 84, 85, 86] rfl (by decide +kernel)
set_option maxRecDepth 20000 in
theorem gX10_addsStep_X10_comparesStep : GoodIn wsX10_addsStep (wsV RX10 345 RX10 yX10_comparesStep wsX10_comparesStep) := goodIn_app (goodIn_of _ (by decide +kernel)) ggX10_addsStep_X10_comparesStep
set_option maxRecDepth 20000 in
theorem ggX10_addsStep_X10_behind : GoodIn wsX10_addsStep wsX10_behind := goodIn_r _ [16, 17, 18, 19, 10, 20, 6, 37, 38, 39, 40, 41, 42, 43, 44, 45, 46, 47, 48, 49, 50, 51, 52, 53, 54, 55, 56, 57, 58, 59, 60, 61, 62, 63, 64, 65, 66, 67, 68, 69, 70, 71, 72, 73, 74, 75, 76, 77, 78, 79, 80, 81, 82, 83, 84, 85, 86] rfl (by decide +kernel)
set_option maxRecDepth 20000 in
theorem gX10_addsStep_X10_behind : GoodIn wsX10_addsStep (wsV RX10 213 RX10 yX10_behind wsX10_behind) := goodIn_app (goodIn_of _ (by decide +kernel)) ggX10_addsStep_X10_behind
theorem dX10_addsStep_0 : decode cX10_addsStep 0 = .ok (.aload_n 0, 1) := by decide +kernel
theorem dX10_addsStep_1 : decode cX10_addsStep 1 = .ok (.iload_n 3, 1) := by decide +kernel
theorem dX10_addsStep_2 : decode cX10_addsStep 2 = .ok (.invokevirtual 258, 3) := by decide +kernel
theorem dX10_addsStep_5 : decode cX10_addsStep 5 = .ok (.ifCond .ne 13, 3) := by decide +kernel
theorem dX10_addsStep_8 : decode cX10_addsStep 8 = .ok (.aload_n 0, 1) := by decide +kernel
theorem dX10_addsStep_9 : decode cX10_addsStep 9 = .ok (.iload_n 3, 1) := by decide +kernel
theorem dX10_addsStep_10 : decode cX10_addsStep 10 = .ok (.iload 4, 2) := by decide +kernel
theorem dX10_addsStep_12 : decode cX10_addsStep 12 = .ok (.invokevirtual 248, 3) := by decide +kernel
theorem dX10_addsStep_15 : decode cX10_addsStep 15 = .ok (.ifCond .eq 4, 3) := by decide +kernel
theorem dX10_addsStep_18 : decode cX10_addsStep 18 = .ok (.return_, 1) := by decide +kernel
theorem dX10_addsStep_19 : decode cX10_addsStep 19 = .ok (.aload_n 0, 1) := by decide +kernel
theorem dX10_addsStep_20 : decode cX10_addsStep 20 = .ok (.getfield 342, 3) := by decide +kernel
theorem dX10_addsStep_23 : decode cX10_addsStep 23 = .ok (.istore 5, 2) := by decide +kernel
theorem dX10_addsStep_25 : decode cX10_addsStep 25 = .ok (.iload 5, 2) := by decide +kernel
theorem dX10_addsStep_27 : decode cX10_addsStep 27 = .ok (.ifCond .le 47, 3) := by decide +kernel
theorem dX10_addsStep_30 : decode cX10_addsStep 30 = .ok (.aload_n 0, 1) := by decide +kernel
theorem dX10_addsStep_31 : decode cX10_addsStep 31 = .ok (.getfield 76, 3) := by decide +kernel
theorem dX10_addsStep_34 : decode cX10_addsStep 34 = .ok (.iload 5, 2) := by decide +kernel
theorem dX10_addsStep_36 : decode cX10_addsStep 36 = .ok (.iconst 1, 1) := by decide +kernel
theorem dX10_addsStep_37 : decode cX10_addsStep 37 = .ok (.isub, 1) := by decide +kernel
theorem dX10_addsStep_38 : decode cX10_addsStep 38 = .ok (.iaload, 1) := by decide +kernel
theorem dX10_addsStep_39 : decode cX10_addsStep 39 = .ok (.iload_n 1, 1) := by decide +kernel
theorem dX10_addsStep_40 : decode cX10_addsStep 40 = .ok (.if_icmp .ne 34, 3) := by decide +kernel
theorem dX10_addsStep_43 : decode cX10_addsStep 43 = .ok (.aload_n 0, 1) := by decide +kernel
theorem dX10_addsStep_44 : decode cX10_addsStep 44 = .ok (.getfield 79, 3) := by decide +kernel
theorem dX10_addsStep_47 : decode cX10_addsStep 47 = .ok (.iload 5, 2) := by decide +kernel
theorem dX10_addsStep_49 : decode cX10_addsStep 49 = .ok (.iconst 1, 1) := by decide +kernel
theorem dX10_addsStep_50 : decode cX10_addsStep 50 = .ok (.isub, 1) := by decide +kernel
theorem dX10_addsStep_51 : decode cX10_addsStep 51 = .ok (.iaload, 1) := by decide +kernel
theorem dX10_addsStep_52 : decode cX10_addsStep 52 = .ok (.iload_n 2, 1) := by decide +kernel
theorem dX10_addsStep_53 : decode cX10_addsStep 53 = .ok (.if_icmp .ne 21, 3) := by decide +kernel
theorem dX10_addsStep_56 : decode cX10_addsStep 56 = .ok (.aload_n 0, 1) := by decide +kernel
theorem dX10_addsStep_57 : decode cX10_addsStep 57 = .ok (.iload 5, 2) := by decide +kernel
theorem dX10_addsStep_59 : decode cX10_addsStep 59 = .ok (.iconst 1, 1) := by decide +kernel
theorem dX10_addsStep_60 : decode cX10_addsStep 60 = .ok (.isub, 1) := by decide +kernel
theorem dX10_addsStep_61 : decode cX10_addsStep 61 = .ok (.iload_n 3, 1) := by decide +kernel
theorem dX10_addsStep_62 : decode cX10_addsStep 62 = .ok (.invokevirtual 345, 3) := by decide +kernel
theorem dX10_addsStep_65 : decode cX10_addsStep 65 = .ok (.ifCond .le 9, 3) := by decide +kernel
theorem dX10_addsStep_68 : decode cX10_addsStep 68 = .ok (.iinc 5 (-1), 3) := by decide +kernel
theorem dX10_addsStep_71 : decode cX10_addsStep 71 = .ok (.goto (-46), 3) := by decide +kernel
theorem dX10_addsStep_74 : decode cX10_addsStep 74 = .ok (.iload 5, 2) := by decide +kernel
theorem dX10_addsStep_76 : decode cX10_addsStep 76 = .ok (.ifCond .le 42, 3) := by decide +kernel
theorem dX10_addsStep_79 : decode cX10_addsStep 79 = .ok (.aload_n 0, 1) := by decide +kernel
theorem dX10_addsStep_80 : decode cX10_addsStep 80 = .ok (.getfield 76, 3) := by decide +kernel
theorem dX10_addsStep_83 : decode cX10_addsStep 83 = .ok (.iload 5, 2) := by decide +kernel
theorem dX10_addsStep_85 : decode cX10_addsStep 85 = .ok (.iconst 1, 1) := by decide +kernel
theorem dX10_addsStep_86 : decode cX10_addsStep 86 = .ok (.isub, 1) := by decide +kernel
theorem dX10_addsStep_87 : decode cX10_addsStep 87 = .ok (.iaload, 1) := by decide +kernel
theorem dX10_addsStep_88 : decode cX10_addsStep 88 = .ok (.iload_n 1, 1) := by decide +kernel
theorem dX10_addsStep_89 : decode cX10_addsStep 89 = .ok (.if_icmp .ne 29, 3) := by decide +kernel
theorem dX10_addsStep_92 : decode cX10_addsStep 92 = .ok (.aload_n 0, 1) := by decide +kernel
theorem dX10_addsStep_93 : decode cX10_addsStep 93 = .ok (.getfield 79, 3) := by decide +kernel
theorem dX10_addsStep_96 : decode cX10_addsStep 96 = .ok (.iload 5, 2) := by decide +kernel
theorem dX10_addsStep_98 : decode cX10_addsStep 98 = .ok (.iconst 1, 1) := by decide +kernel
theorem dX10_addsStep_99 : decode cX10_addsStep 99 = .ok (.isub, 1) := by decide +kernel
theorem dX10_addsStep_100 : decode cX10_addsStep 100 = .ok (.iaload, 1) := by decide +kernel
theorem dX10_addsStep_101 : decode cX10_addsStep 101 = .ok (.iload_n 2, 1) := by decide +kernel
theorem dX10_addsStep_102 : decode cX10_addsStep 102 = .ok (.if_icmp .ne 16, 3) := by decide +kernel
theorem dX10_addsStep_105 : decode cX10_addsStep 105 = .ok (.aload_n 0, 1) := by decide +kernel
theorem dX10_addsStep_106 : decode cX10_addsStep 106 = .ok (.iload 5, 2) := by decide +kernel
theorem dX10_addsStep_108 : decode cX10_addsStep 108 = .ok (.iconst 1, 1) := by decide +kernel
theorem dX10_addsStep_109 : decode cX10_addsStep 109 = .ok (.isub, 1) := by decide +kernel
theorem dX10_addsStep_110 : decode cX10_addsStep 110 = .ok (.iload_n 3, 1) := by decide +kernel
theorem dX10_addsStep_111 : decode cX10_addsStep 111 = .ok (.invokevirtual 345, 3) := by decide +kernel
theorem dX10_addsStep_114 : decode cX10_addsStep 114 = .ok (.ifCond .ne 4, 3) := by decide +kernel
theorem dX10_addsStep_117 : decode cX10_addsStep 117 = .ok (.return_, 1) := by decide +kernel
theorem dX10_addsStep_118 : decode cX10_addsStep 118 = .ok (.aload_n 0, 1) := by decide +kernel
theorem dX10_addsStep_119 : decode cX10_addsStep 119 = .ok (.getfield 342, 3) := by decide +kernel
theorem dX10_addsStep_122 : decode cX10_addsStep 122 = .ok (.sipush 200, 3) := by decide +kernel
theorem dX10_addsStep_125 : decode cX10_addsStep 125 = .ok (.if_icmp .ne 9, 3) := by decide +kernel
theorem dX10_addsStep_128 : decode cX10_addsStep 128 = .ok (.aload_n 0, 1) := by decide +kernel
theorem dX10_addsStep_129 : decode cX10_addsStep 129 = .ok (.iconst 1, 1) := by decide +kernel
theorem dX10_addsStep_130 : decode cX10_addsStep 130 = .ok (.putfield 296, 3) := by decide +kernel
theorem dX10_addsStep_133 : decode cX10_addsStep 133 = .ok (.return_, 1) := by decide +kernel
theorem dX10_addsStep_134 : decode cX10_addsStep 134 = .ok (.aload_n 0, 1) := by decide +kernel
theorem dX10_addsStep_135 : decode cX10_addsStep 135 = .ok (.getfield 342, 3) := by decide +kernel
theorem dX10_addsStep_138 : decode cX10_addsStep 138 = .ok (.istore 6, 2) := by decide +kernel
theorem dX10_addsStep_140 : decode cX10_addsStep 140 = .ok (.iload 6, 2) := by decide +kernel
theorem dX10_addsStep_142 : decode cX10_addsStep 142 = .ok (.iload 5, 2) := by decide +kernel
theorem dX10_addsStep_144 : decode cX10_addsStep 144 = .ok (.if_icmp .le 41, 3) := by decide +kernel
theorem dX10_addsStep_147 : decode cX10_addsStep 147 = .ok (.aload_n 0, 1) := by decide +kernel
theorem dX10_addsStep_148 : decode cX10_addsStep 148 = .ok (.getfield 76, 3) := by decide +kernel
theorem dX10_addsStep_151 : decode cX10_addsStep 151 = .ok (.iload 6, 2) := by decide +kernel
theorem dX10_addsStep_153 : decode cX10_addsStep 153 = .ok (.aload_n 0, 1) := by decide +kernel
theorem dX10_addsStep_154 : decode cX10_addsStep 154 = .ok (.getfield 76, 3) := by decide +kernel
theorem dX10_addsStep_157 : decode cX10_addsStep 157 = .ok (.iload 6, 2) := by decide +kernel
theorem dX10_addsStep_159 : decode cX10_addsStep 159 = .ok (.iconst 1, 1) := by decide +kernel
theorem dX10_addsStep_160 : decode cX10_addsStep 160 = .ok (.isub, 1) := by decide +kernel
theorem dX10_addsStep_161 : decode cX10_addsStep 161 = .ok (.iaload, 1) := by decide +kernel
theorem dX10_addsStep_162 : decode cX10_addsStep 162 = .ok (.iastore, 1) := by decide +kernel
theorem dX10_addsStep_163 : decode cX10_addsStep 163 = .ok (.aload_n 0, 1) := by decide +kernel
theorem dX10_addsStep_164 : decode cX10_addsStep 164 = .ok (.getfield 79, 3) := by decide +kernel
theorem dX10_addsStep_167 : decode cX10_addsStep 167 = .ok (.iload 6, 2) := by decide +kernel
theorem dX10_addsStep_169 : decode cX10_addsStep 169 = .ok (.aload_n 0, 1) := by decide +kernel
theorem dX10_addsStep_170 : decode cX10_addsStep 170 = .ok (.getfield 79, 3) := by decide +kernel
theorem dX10_addsStep_173 : decode cX10_addsStep 173 = .ok (.iload 6, 2) := by decide +kernel
theorem dX10_addsStep_175 : decode cX10_addsStep 175 = .ok (.iconst 1, 1) := by decide +kernel
theorem dX10_addsStep_176 : decode cX10_addsStep 176 = .ok (.isub, 1) := by decide +kernel
theorem dX10_addsStep_177 : decode cX10_addsStep 177 = .ok (.iaload, 1) := by decide +kernel
theorem dX10_addsStep_178 : decode cX10_addsStep 178 = .ok (.iastore, 1) := by decide +kernel
theorem dX10_addsStep_179 : decode cX10_addsStep 179 = .ok (.iinc 6 (-1), 3) := by decide +kernel
theorem dX10_addsStep_182 : decode cX10_addsStep 182 = .ok (.goto (-42), 3) := by decide +kernel
theorem dX10_addsStep_185 : decode cX10_addsStep 185 = .ok (.bipush 21, 2) := by decide +kernel
theorem dX10_addsStep_187 : decode cX10_addsStep 187 = .ok (.aload_n 0, 1) := by decide +kernel
theorem dX10_addsStep_188 : decode cX10_addsStep 188 = .ok (.getfield 342, 3) := by decide +kernel
theorem dX10_addsStep_191 : decode cX10_addsStep 191 = .ok (.imul, 1) := by decide +kernel
theorem dX10_addsStep_192 : decode cX10_addsStep 192 = .ok (.iconst 1, 1) := by decide +kernel
theorem dX10_addsStep_193 : decode cX10_addsStep 193 = .ok (.isub, 1) := by decide +kernel
theorem dX10_addsStep_194 : decode cX10_addsStep 194 = .ok (.istore 6, 2) := by decide +kernel
theorem dX10_addsStep_196 : decode cX10_addsStep 196 = .ok (.iload 6, 2) := by decide +kernel
theorem dX10_addsStep_198 : decode cX10_addsStep 198 = .ok (.bipush 21, 2) := by decide +kernel
theorem dX10_addsStep_200 : decode cX10_addsStep 200 = .ok (.iload 5, 2) := by decide +kernel
theorem dX10_addsStep_202 : decode cX10_addsStep 202 = .ok (.imul, 1) := by decide +kernel
theorem dX10_addsStep_203 : decode cX10_addsStep 203 = .ok (.if_icmp .lt 26, 3) := by decide +kernel
theorem dX10_addsStep_206 : decode cX10_addsStep 206 = .ok (.aload_n 0, 1) := by decide +kernel
theorem dX10_addsStep_207 : decode cX10_addsStep 207 = .ok (.getfield 82, 3) := by decide +kernel
theorem dX10_addsStep_210 : decode cX10_addsStep 210 = .ok (.iload 6, 2) := by decide +kernel
theorem dX10_addsStep_212 : decode cX10_addsStep 212 = .ok (.bipush 21, 2) := by decide +kernel
theorem dX10_addsStep_214 : decode cX10_addsStep 214 = .ok (.iadd, 1) := by decide +kernel
theorem dX10_addsStep_215 : decode cX10_addsStep 215 = .ok (.aload_n 0, 1) := by decide +kernel
theorem dX10_addsStep_216 : decode cX10_addsStep 216 = .ok (.getfield 82, 3) := by decide +kernel
theorem dX10_addsStep_219 : decode cX10_addsStep 219 = .ok (.iload 6, 2) := by decide +kernel
theorem dX10_addsStep_221 : decode cX10_addsStep 221 = .ok (.iaload, 1) := by decide +kernel
theorem dX10_addsStep_222 : decode cX10_addsStep 222 = .ok (.iastore, 1) := by decide +kernel
theorem dX10_addsStep_223 : decode cX10_addsStep 223 = .ok (.iinc 6 (-1), 3) := by decide +kernel
theorem dX10_addsStep_226 : decode cX10_addsStep 226 = .ok (.goto (-30), 3) := by decide +kernel
theorem dX10_addsStep_229 : decode cX10_addsStep 229 = .ok (.aload_n 0, 1) := by decide +kernel
theorem dX10_addsStep_230 : decode cX10_addsStep 230 = .ok (.getfield 76, 3) := by decide +kernel
theorem dX10_addsStep_233 : decode cX10_addsStep 233 = .ok (.iload 5, 2) := by decide +kernel
theorem dX10_addsStep_235 : decode cX10_addsStep 235 = .ok (.iload_n 1, 1) := by decide +kernel
theorem dX10_addsStep_236 : decode cX10_addsStep 236 = .ok (.iastore, 1) := by decide +kernel
theorem dX10_addsStep_237 : decode cX10_addsStep 237 = .ok (.aload_n 0, 1) := by decide +kernel
theorem dX10_addsStep_238 : decode cX10_addsStep 238 = .ok (.getfield 79, 3) := by decide +kernel
theorem dX10_addsStep_241 : decode cX10_addsStep 241 = .ok (.iload 5, 2) := by decide +kernel
theorem dX10_addsStep_243 : decode cX10_addsStep 243 = .ok (.iload_n 2, 1) := by decide +kernel
theorem dX10_addsStep_244 : decode cX10_addsStep 244 = .ok (.iastore, 1) := by decide +kernel
theorem dX10_addsStep_245 : decode cX10_addsStep 245 = .ok (.aload_n 0, 1) := by decide +kernel
theorem dX10_addsStep_246 : decode cX10_addsStep 246 = .ok (.iload_n 3, 1) := by decide +kernel
theorem dX10_addsStep_247 : decode cX10_addsStep 247 = .ok (.invokevirtual 213, 3) := by decide +kernel
theorem dX10_addsStep_250 : decode cX10_addsStep 250 = .ok (.istore 6, 2) := by decide +kernel
theorem dX10_addsStep_252 : decode cX10_addsStep 252 = .ok (.iload_n 3, 1) := by decide +kernel
theorem dX10_addsStep_253 : decode cX10_addsStep 253 = .ok (.istore 7, 2) := by decide +kernel
theorem dX10_addsStep_255 : decode cX10_addsStep 255 = .ok (.iload 7, 2) := by decide +kernel
theorem dX10_addsStep_257 : decode cX10_addsStep 257 = .ok (.iload 6, 2) := by decide +kernel
theorem dX10_addsStep_259 : decode cX10_addsStep 259 = .ok (.if_icmp .ge 31, 3) := by decide +kernel
theorem dX10_addsStep_262 : decode cX10_addsStep 262 = .ok (.aload_n 0, 1) := by decide +kernel
theorem dX10_addsStep_263 : decode cX10_addsStep 263 = .ok (.getfield 82, 3) := by decide +kernel
theorem dX10_addsStep_266 : decode cX10_addsStep 266 = .ok (.bipush 21, 2) := by decide +kernel
theorem dX10_addsStep_268 : decode cX10_addsStep 268 = .ok (.iload 5, 2) := by decide +kernel
theorem dX10_addsStep_270 : decode cX10_addsStep 270 = .ok (.imul, 1) := by decide +kernel
theorem dX10_addsStep_271 : decode cX10_addsStep 271 = .ok (.iload 7, 2) := by decide +kernel
theorem dX10_addsStep_273 : decode cX10_addsStep 273 = .ok (.iadd, 1) := by decide +kernel
theorem dX10_addsStep_274 : decode cX10_addsStep 274 = .ok (.iload_n 3, 1) := by decide +kernel
theorem dX10_addsStep_275 : decode cX10_addsStep 275 = .ok (.isub, 1) := by decide +kernel
theorem dX10_addsStep_276 : decode cX10_addsStep 276 = .ok (.aload_n 0, 1) := by decide +kernel
theorem dX10_addsStep_277 : decode cX10_addsStep 277 = .ok (.getfield 52, 3) := by decide +kernel
theorem dX10_addsStep_280 : decode cX10_addsStep 280 = .ok (.iload 7, 2) := by decide +kernel
theorem dX10_addsStep_282 : decode cX10_addsStep 282 = .ok (.iaload, 1) := by decide +kernel
theorem dX10_addsStep_283 : decode cX10_addsStep 283 = .ok (.iastore, 1) := by decide +kernel
theorem dX10_addsStep_284 : decode cX10_addsStep 284 = .ok (.iinc 7 1, 3) := by decide +kernel
theorem dX10_addsStep_287 : decode cX10_addsStep 287 = .ok (.goto (-32), 3) := by decide +kernel
theorem dX10_addsStep_290 : decode cX10_addsStep 290 = .ok (.aload_n 0, 1) := by decide +kernel
theorem dX10_addsStep_291 : decode cX10_addsStep 291 = .ok (.dup, 1) := by decide +kernel
theorem dX10_addsStep_292 : decode cX10_addsStep 292 = .ok (.getfield 342, 3) := by decide +kernel
theorem dX10_addsStep_295 : decode cX10_addsStep 295 = .ok (.iconst 1, 1) := by decide +kernel
theorem dX10_addsStep_296 : decode cX10_addsStep 296 = .ok (.iadd, 1) := by decide +kernel
theorem dX10_addsStep_297 : decode cX10_addsStep 297 = .ok (.putfield 342, 3) := by decide +kernel
theorem dX10_addsStep_300 : decode cX10_addsStep 300 = .ok (.return_, 1) := by decide +kernel
set_option maxRecDepth 20000 in
theorem ggX10_goesAll_X10_fills : GoodIn wsX10_goesAll wsX10_fills := goodIn_r _ [8, 1, 9, 10, 11, 12, 13, 7, 14, 15, 16, 17, 18, 4, 5, 6, 19, 20, 21, 22, 23, 24, 25, 26, 27, 28, 29, 30, 31, 32, 33, 34, 35, 36, 37, 38, 39, 40, 41, 42, 43, 44, 45, 46, 47, 48, 73, 74, 75, 76, 77, 78, 79, 80, 81, 82, 83, 84, 85, 86, 87, 88, 89, 90, 91, 92, 93, 94, 95, 96, 97, 98, 99, 100, 101, 102, 103, 104, 105, 106, 107, 108, 109, 110, 111, 112, 113, 114, 115, 116, 117, 118, 119, 120, 121, 122] rfl (by decide +kernel)
set_option maxRecDepth 20000 in
theorem gX10_goesAll_X10_fills : GoodIn wsX10_goesAll (wsV RX10 336 RX10 yX10_fills wsX10_fills) := goodIn_app (goodIn_of _ (by decide +kernel)) ggX10_goesAll_X10_fills
set_option maxRecDepth 20000 in
theorem ggX10_goesAll_X10_rebuilds : GoodIn wsX10_goesAll wsX10_rebuilds := goodIn_r _ [52, 1, 45, 46, 47, 7, 48, 9, 19, 20, 21, 22, 15, 16, 17, 18, 49, 50, 51, 23, 24, 25, 26, 27, 28, 29, 30, 31, 32, 33, 34, 35, 36, 37, 38, 39, 40, 41, 42, 43, 44, 73, 74, 75, 76, 77, 78, 79, 80, 81, 82, 83, 84, 85, 86, 87, 88, 89, 90, 91, 92, 93, 94, 95, 96, 97, 98, 99, 100, 101, 102, 103, 104, 105, 106, 107, 108, 109, 110, 111, 112, 113, 114, 115, 116, 117, 118, 119, 120, 121, 122] rfl (by decide +kernel)
set_option maxRecDepth 20000 in
theorem gX10_goesAll_X10_rebuilds : GoodIn wsX10_goesAll (wsV RX10 339 RX10 yX10_rebuilds wsX10_rebuilds) := goodIn_app (goodIn_of _ (by decide +kernel)) ggX10_goesAll_X10_rebuilds
set_option maxRecDepth 20000 in
theorem ggX10_goesAll_X10_addsStep : GoodIn wsX10_goesAll wsX10_addsStep := goodIn_r _ [56, 57, 58, 59, 3, 60, 9, 61, 62, 63, 7, 64, 31, 19, 20, 21, 22, 15, 16, 17, 18, 23, 24, 25, 26, 65, 66, 67, 68, 41, 42, 43, 44, 69, 70, 71, 72, 73, 74, 75, 76, 77, 78, 79, 80, 81, 82, 83, 84, 85, 86, 87, 88, 89, 90, 91, 92, 93, 94, 95, 96, 97, 98, 99, 100, 101, 102, 103, 104, 105, 106, 107, 108, 109, 110, 111, 112, 113, 114, 115, 116, 117, 118, 119, 120, 121, 122] rfl (by decide +kernel)
set_option maxRecDepth 20000 in
theorem gX10_goesAll_X10_addsStep : GoodIn wsX10_goesAll (wsV RX10 348 RX10 yX10_addsStep wsX10_addsStep) := goodIn_app (goodIn_of _ (by decide +kernel)) ggX10_goesAll_X10_addsStep
theorem dX10_goesAll_0 : decode cX10_goesAll 0 = .ok (.aload_n 0, 1) := by decide +kernel
theorem dX10_goesAll_1 : decode cX10_goesAll 1 = .ok (.getfield 178, 3) := by decide +kernel
theorem dX10_goesAll_4 : decode cX10_goesAll 4 = .ok (.istore 5, 2) := by decide +kernel
theorem dX10_goesAll_6 : decode cX10_goesAll 6 = .ok (.iconst 0, 1) := by decide +kernel
theorem dX10_goesAll_7 : decode cX10_goesAll 7 = .ok (.istore 6, 2) := by decide +kernel
theorem dX10_goesAll_9 : decode cX10_goesAll 9 = .ok (.iload 6, 2) := by decide +kernel
theorem dX10_goesAll_11 : decode cX10_goesAll 11 = .ok (.aload_n 0, 1) := by decide +kernel
theorem dX10_goesAll_12 : decode cX10_goesAll 12 = .ok (.getfield 287, 3) := by decide +kernel
theorem dX10_goesAll_15 : decode cX10_goesAll 15 = .ok (.if_icmp .ge 49, 3) := by decide +kernel
theorem dX10_goesAll_18 : decode cX10_goesAll 18 = .ok (.aload_n 0, 1) := by decide +kernel
theorem dX10_goesAll_19 : decode cX10_goesAll 19 = .ok (.getfield 296, 3) := by decide +kernel
theorem dX10_goesAll_22 : decode cX10_goesAll 22 = .ok (.ifCond .ne 42, 3) := by decide +kernel
theorem dX10_goesAll_25 : decode cX10_goesAll 25 = .ok (.aload_n 0, 1) := by decide +kernel
theorem dX10_goesAll_26 : decode cX10_goesAll 26 = .ok (.iload 4, 2) := by decide +kernel
theorem dX10_goesAll_28 : decode cX10_goesAll 28 = .ok (.iload 6, 2) := by decide +kernel
theorem dX10_goesAll_30 : decode cX10_goesAll 30 = .ok (.invokevirtual 336, 3) := by decide +kernel
theorem dX10_goesAll_33 : decode cX10_goesAll 33 = .ok (.istore 7, 2) := by decide +kernel
theorem dX10_goesAll_35 : decode cX10_goesAll 35 = .ok (.aload_n 0, 1) := by decide +kernel
theorem dX10_goesAll_36 : decode cX10_goesAll 36 = .ok (.iload_n 2, 1) := by decide +kernel
theorem dX10_goesAll_37 : decode cX10_goesAll 37 = .ok (.iload_n 3, 1) := by decide +kernel
theorem dX10_goesAll_38 : decode cX10_goesAll 38 = .ok (.aload_n 0, 1) := by decide +kernel
theorem dX10_goesAll_39 : decode cX10_goesAll 39 = .ok (.iload_n 1, 1) := by decide +kernel
theorem dX10_goesAll_40 : decode cX10_goesAll 40 = .ok (.iload_n 1, 1) := by decide +kernel
theorem dX10_goesAll_41 : decode cX10_goesAll 41 = .ok (.iload_n 2, 1) := by decide +kernel
theorem dX10_goesAll_42 : decode cX10_goesAll 42 = .ok (.iadd, 1) := by decide +kernel
theorem dX10_goesAll_43 : decode cX10_goesAll 43 = .ok (.iload 7, 2) := by decide +kernel
theorem dX10_goesAll_45 : decode cX10_goesAll 45 = .ok (.invokevirtual 339, 3) := by decide +kernel
theorem dX10_goesAll_48 : decode cX10_goesAll 48 = .ok (.iload_n 1, 1) := by decide +kernel
theorem dX10_goesAll_49 : decode cX10_goesAll 49 = .ok (.invokevirtual 348, 3) := by decide +kernel
theorem dX10_goesAll_52 : decode cX10_goesAll 52 = .ok (.aload_n 0, 1) := by decide +kernel
theorem dX10_goesAll_53 : decode cX10_goesAll 53 = .ok (.iload 5, 2) := by decide +kernel
theorem dX10_goesAll_55 : decode cX10_goesAll 55 = .ok (.putfield 178, 3) := by decide +kernel
theorem dX10_goesAll_58 : decode cX10_goesAll 58 = .ok (.iinc 6 1, 3) := by decide +kernel
theorem dX10_goesAll_61 : decode cX10_goesAll 61 = .ok (.goto (-52), 3) := by decide +kernel
theorem dX10_goesAll_64 : decode cX10_goesAll 64 = .ok (.return_, 1) := by decide +kernel
set_option maxRecDepth 20000 in
theorem ggX10_goesSome_X10_operatorAt : GoodIn wsX10_goesSome wsX10_operatorAt := goodIn_r _ [8, 9, 138, 139, 140, 141, 142, 143, 144, 145, 146, 147, 148, 149, 150, 151, 152, 153, 154, 155, 156, 157, 158, 159, 160, 161, 162, 163, 164, 165, 166, 167, 168, 169, 170, 171, 172, 173, 174, 175, 176, 177, 178, 179, 180, 181, 182, 183, 184, 185, 186, 187] rfl (by decide +kernel)
set_option maxRecDepth 20000 in
theorem gX10_goesSome_X10_operatorAt : GoodIn wsX10_goesSome (wsV RX10 220 RX10 yX10_operatorAt wsX10_operatorAt) := goodIn_app (goodIn_of _ (by decide +kernel)) ggX10_goesSome_X10_operatorAt
set_option maxRecDepth 20000 in
theorem ggX10_goesSome_X10_sumOf : GoodIn wsX10_goesSome wsX10_sumOf := goodIn_r _ [13, 14, 15, 16, 7, 17, 9, 18, 19, 20, 21, 22, 23, 24, 25, 26, 27, 28, 1, 138, 139, 140, 141, 142, 143, 144, 145, 146, 147, 148, 149, 150, 151, 152, 153, 154, 155, 156, 157, 158, 159, 160, 161, 162, 163, 164, 165, 166, 167, 168, 169, 170, 171, 172, 173, 174, 175, 176, 177, 178, 179, 180, 181, 182, 183, 184, 185, 186, 187] rfl (by decide +kernel)
set_option maxRecDepth 20000 in
theorem gX10_goesSome_X10_sumOf : GoodIn wsX10_goesSome (wsV RX10 352 RX10 yX10_sumOf wsX10_sumOf) := goodIn_app (goodIn_of _ (by decide +kernel)) ggX10_goesSome_X10_sumOf
set_option maxRecDepth 20000 in
theorem ggX10_goesSome_X10_stands : GoodIn wsX10_goesSome wsX10_stands := goodIn_r _ [32, 1, 33, 34, 35, 9, 4, 5, 6, 7, 8, 18, 19, 20, 21, 14, 15, 16, 17, 36, 37, 38, 39, 40, 41, 42, 43, 44, 45, 46, 25, 26, 27, 28, 138, 139, 140, 141, 142, 143, 144, 145, 146, 147, 148, 149, 150, 151, 152, 153, 154, 155, 156, 157, 158, 159, 160, 161, 162, 163, 164, 165, 166, 167, 168, 169, 170, 171, 172, 173, 174, 175, 176, 177, 178, 179, 180, 181, 182, 183, 184, 185, 186, 187] rfl (by decide +kernel)
set_option maxRecDepth 20000 in
theorem gX10_goesSome_X10_stands : GoodIn wsX10_goesSome (wsV RX10 239 RX10 yX10_stands wsX10_stands) := goodIn_app (goodIn_of _ (by decide +kernel)) ggX10_goesSome_X10_stands
set_option maxRecDepth 20000 in
theorem ggX10_goesSome_X10_laysMatches : GoodIn wsX10_goesSome wsX10_laysMatches := goodIn_r _ [50, 2, 51, 52, 53, 54, 55, 56, 7, 57, 9, 18, 19, 20, 21, 14, 15, 16, 17, 58, 59, 60, 61, 62, 63, 64, 65, 66, 67, 3, 33, 68, 69, 70, 71, 72, 73, 74, 75, 76, 22, 23, 24, 77, 78, 79, 80, 81, 82, 83, 4, 5, 6, 8, 84, 85, 86, 87, 88, 89, 90, 91, 92, 35, 36, 37, 38, 93, 94, 95, 96, 97, 98, 99, 100, 43, 44, 45, 46, 101, 1, 102, 103, 104, 105, 106, 107, 108, 109, 25, 26, 27, 28, 110, 111, 112, 113, 138, 139, 140, 141, 142, 143, 144, 145, 146, 147, 148, 149, 150, 151, 152, 153, 154, 155, 156, 157, 158, 159, 160, 161, 162, 163, 164, 165, 166, 167, 168, 169, 170, 171, 172, 173, 174, 175, 176, 177, 178, 179, 180, 181, 182, 183, 184, 185, 186, 187] rfl (by decide +kernel)
set_option maxRecDepth 20000 in
theorem gX10_goesSome_X10_laysMatches : GoodIn wsX10_goesSome (wsV RX10 356 RX10 yX10_laysMatches wsX10_laysMatches) := goodIn_app (goodIn_of _ (by decide +kernel)) ggX10_goesSome_X10_laysMatches
set_option maxRecDepth 20000 in
theorem ggX10_goesSome_X10_fills : GoodIn wsX10_goesSome wsX10_fills := goodIn_r _ [117, 1, 9, 72, 73, 74, 75, 7, 76, 14, 15, 16, 17, 114, 115, 116, 18, 19, 20, 21, 4, 5, 6, 8, 29, 30, 31, 32, 33, 34, 35, 36, 37, 38, 39, 40, 41, 42, 43, 44, 45, 46, 25, 26, 27, 28, 138, 139, 140, 141, 142, 143, 144, 145, 146, 147, 148, 149, 150, 151, 152, 153, 154, 155, 156, 157, 158, 159, 160, 161, 162, 163, 164, 165, 166, 167, 168, 169, 170, 171, 172, 173, 174, 175, 176, 177, 178, 179, 180, 181, 182, 183, 184, 185, 186, 187] rfl (by decide +kernel)
set_option maxRecDepth 20000 in
theorem gX10_goesSome_X10_fills : GoodIn wsX10_goesSome (wsV RX10 336 RX10 yX10_fills wsX10_fills) := goodIn_app (goodIn_of _ (by decide +kernel)) ggX10_goesSome_X10_fills
set_option maxRecDepth 20000 in
theorem ggX10_goesSome_X10_rebuilds : GoodIn wsX10_goesSome wsX10_rebuilds := goodIn_r _ [121, 1, 25, 26, 27, 7, 28, 9, 18, 19, 20, 21, 14, 15, 16, 17, 118, 119, 120, 4, 5, 6, 8, 29, 30, 31, 32, 33, 34, 35, 36, 37, 38, 39, 40, 41, 42, 43, 44, 45, 46, 138, 139, 140, 141, 142, 143, 144, 145, 146, 147, 148, 149, 150, 151, 152, 153, 154, 155, 156, 157, 158, 159, 160, 161, 162, 163, 164, 165, 166, 167, 168, 169, 170, 171, 172, 173, 174, 175, 176, 177, 178, 179, 180, 181, 182, 183, 184, 185, 186, 187] rfl (by decide +kernel)
set_option maxRecDepth 20000 in
theorem gX10_goesSome_X10_rebuilds : GoodIn wsX10_goesSome (wsV RX10 339 RX10 yX10_rebuilds wsX10_rebuilds) := goodIn_app (goodIn_of _ (by decide +kernel)) ggX10_goesSome_X10_rebuilds
set_option maxRecDepth 20000 in
theorem ggX10_goesSome_X10_addsStep : GoodIn wsX10_goesSome wsX10_addsStep := goodIn_r _ [125, 126, 127, 128, 3, 129, 9, 130, 131, 132, 7, 133, 33, 18, 19, 20, 21, 14, 15, 16, 17, 4, 5, 6, 8, 97, 98, 99, 100, 43, 44, 45, 46, 134, 135, 136, 137, 138, 139, 140, 141, 142, 143, 144, 145, 146, 147, 148, 149, 150, 151, 152, 153, 154, 155, 156, 157, 158, 159, 160, 161, 162, 163, 164, 165, 166, 167, 168, 169, 170, 171, 172, 173, 174, 175, 176, 177, 178, 179, 180, 181, 182, 183, 184, 185, 186, 187] rfl (by decide +kernel)
set_option maxRecDepth 20000 in
theorem gX10_goesSome_X10_addsStep : GoodIn wsX10_goesSome (wsV RX10 348 RX10 yX10_addsStep wsX10_addsStep) := goodIn_app (goodIn_of _ (by decide +kernel)) ggX10_goesSome_X10_addsStep
theorem dX10_goesSome_0 : decode cX10_goesSome 0 = .ok (.iload_n 1, 1) := by decide +kernel
theorem dX10_goesSome_1 : decode cX10_goesSome 1 = .ok (.iload_n 2, 1) := by decide +kernel
theorem dX10_goesSome_2 : decode cX10_goesSome 2 = .ok (.iadd, 1) := by decide +kernel
theorem dX10_goesSome_3 : decode cX10_goesSome 3 = .ok (.istore 7, 2) := by decide +kernel
theorem dX10_goesSome_5 : decode cX10_goesSome 5 = .ok (.aload_n 0, 1) := by decide +kernel
theorem dX10_goesSome_6 : decode cX10_goesSome 6 = .ok (.iload 7, 2) := by decide +kernel
theorem dX10_goesSome_8 : decode cX10_goesSome 8 = .ok (.invokevirtual 220, 3) := by decide +kernel
theorem dX10_goesSome_11 : decode cX10_goesSome 11 = .ok (.istore 8, 2) := by decide +kernel
theorem dX10_goesSome_13 : decode cX10_goesSome 13 = .ok (.aload_n 0, 1) := by decide +kernel
theorem dX10_goesSome_14 : decode cX10_goesSome 14 = .ok (.getfield 178, 3) := by decide +kernel
theorem dX10_goesSome_17 : decode cX10_goesSome 17 = .ok (.istore 9, 2) := by decide +kernel
theorem dX10_goesSome_19 : decode cX10_goesSome 19 = .ok (.aload_n 0, 1) := by decide +kernel
theorem dX10_goesSome_20 : decode cX10_goesSome 20 = .ok (.getfield 178, 3) := by decide +kernel
theorem dX10_goesSome_23 : decode cX10_goesSome 23 = .ok (.istore 10, 2) := by decide +kernel
theorem dX10_goesSome_25 : decode cX10_goesSome 25 = .ok (.aload_n 0, 1) := by decide +kernel
theorem dX10_goesSome_26 : decode cX10_goesSome 26 = .ok (.iload 7, 2) := by decide +kernel
theorem dX10_goesSome_28 : decode cX10_goesSome 28 = .ok (.iload 6, 2) := by decide +kernel
theorem dX10_goesSome_30 : decode cX10_goesSome 30 = .ok (.iconst 0, 1) := by decide +kernel
theorem dX10_goesSome_31 : decode cX10_goesSome 31 = .ok (.invokevirtual 352, 3) := by decide +kernel
theorem dX10_goesSome_34 : decode cX10_goesSome 34 = .ok (.aload_n 0, 1) := by decide +kernel
theorem dX10_goesSome_35 : decode cX10_goesSome 35 = .ok (.iload 8, 2) := by decide +kernel
theorem dX10_goesSome_37 : decode cX10_goesSome 37 = .ok (.iload 10, 2) := by decide +kernel
theorem dX10_goesSome_39 : decode cX10_goesSome 39 = .ok (.invokevirtual 239, 3) := by decide +kernel
theorem dX10_goesSome_42 : decode cX10_goesSome 42 = .ok (.istore 10, 2) := by decide +kernel
theorem dX10_goesSome_44 : decode cX10_goesSome 44 = .ok (.aload_n 0, 1) := by decide +kernel
theorem dX10_goesSome_45 : decode cX10_goesSome 45 = .ok (.iload 4, 2) := by decide +kernel
theorem dX10_goesSome_47 : decode cX10_goesSome 47 = .ok (.iload 10, 2) := by decide +kernel
theorem dX10_goesSome_49 : decode cX10_goesSome 49 = .ok (.invokevirtual 356, 3) := by decide +kernel
theorem dX10_goesSome_52 : decode cX10_goesSome 52 = .ok (.aload_n 0, 1) := by decide +kernel
theorem dX10_goesSome_53 : decode cX10_goesSome 53 = .ok (.getfield 178, 3) := by decide +kernel
theorem dX10_goesSome_56 : decode cX10_goesSome 56 = .ok (.istore 11, 2) := by decide +kernel
theorem dX10_goesSome_58 : decode cX10_goesSome 58 = .ok (.iconst 0, 1) := by decide +kernel
theorem dX10_goesSome_59 : decode cX10_goesSome 59 = .ok (.istore 12, 2) := by decide +kernel
theorem dX10_goesSome_61 : decode cX10_goesSome 61 = .ok (.iload 12, 2) := by decide +kernel
theorem dX10_goesSome_63 : decode cX10_goesSome 63 = .ok (.aload_n 0, 1) := by decide +kernel
theorem dX10_goesSome_64 : decode cX10_goesSome 64 = .ok (.getfield 287, 3) := by decide +kernel
theorem dX10_goesSome_67 : decode cX10_goesSome 67 = .ok (.if_icmp .ge 73, 3) := by decide +kernel
theorem dX10_goesSome_70 : decode cX10_goesSome 70 = .ok (.aload_n 0, 1) := by decide +kernel
theorem dX10_goesSome_71 : decode cX10_goesSome 71 = .ok (.getfield 296, 3) := by decide +kernel
theorem dX10_goesSome_74 : decode cX10_goesSome 74 = .ok (.ifCond .ne 66, 3) := by decide +kernel
theorem dX10_goesSome_77 : decode cX10_goesSome 77 = .ok (.aload_n 0, 1) := by decide +kernel
theorem dX10_goesSome_78 : decode cX10_goesSome 78 = .ok (.getfield 178, 3) := by decide +kernel
theorem dX10_goesSome_81 : decode cX10_goesSome 81 = .ok (.istore 13, 2) := by decide +kernel
theorem dX10_goesSome_83 : decode cX10_goesSome 83 = .ok (.aload_n 0, 1) := by decide +kernel
theorem dX10_goesSome_84 : decode cX10_goesSome 84 = .ok (.iload 5, 2) := by decide +kernel
theorem dX10_goesSome_86 : decode cX10_goesSome 86 = .ok (.iload 12, 2) := by decide +kernel
theorem dX10_goesSome_88 : decode cX10_goesSome 88 = .ok (.invokevirtual 336, 3) := by decide +kernel
theorem dX10_goesSome_91 : decode cX10_goesSome 91 = .ok (.istore 14, 2) := by decide +kernel
theorem dX10_goesSome_93 : decode cX10_goesSome 93 = .ok (.aload_n 0, 1) := by decide +kernel
theorem dX10_goesSome_94 : decode cX10_goesSome 94 = .ok (.iload 7, 2) := by decide +kernel
theorem dX10_goesSome_96 : decode cX10_goesSome 96 = .ok (.iload 6, 2) := by decide +kernel
theorem dX10_goesSome_98 : decode cX10_goesSome 98 = .ok (.iconst 1, 1) := by decide +kernel
theorem dX10_goesSome_99 : decode cX10_goesSome 99 = .ok (.invokevirtual 352, 3) := by decide +kernel
theorem dX10_goesSome_102 : decode cX10_goesSome 102 = .ok (.aload_n 0, 1) := by decide +kernel
theorem dX10_goesSome_103 : decode cX10_goesSome 103 = .ok (.iload 8, 2) := by decide +kernel
theorem dX10_goesSome_105 : decode cX10_goesSome 105 = .ok (.iload 13, 2) := by decide +kernel
theorem dX10_goesSome_107 : decode cX10_goesSome 107 = .ok (.invokevirtual 239, 3) := by decide +kernel
theorem dX10_goesSome_110 : decode cX10_goesSome 110 = .ok (.istore 14, 2) := by decide +kernel
theorem dX10_goesSome_112 : decode cX10_goesSome 112 = .ok (.aload_n 0, 1) := by decide +kernel
theorem dX10_goesSome_113 : decode cX10_goesSome 113 = .ok (.iload_n 2, 1) := by decide +kernel
theorem dX10_goesSome_114 : decode cX10_goesSome 114 = .ok (.iload_n 3, 1) := by decide +kernel
theorem dX10_goesSome_115 : decode cX10_goesSome 115 = .ok (.aload_n 0, 1) := by decide +kernel
theorem dX10_goesSome_116 : decode cX10_goesSome 116 = .ok (.iload_n 1, 1) := by decide +kernel
theorem dX10_goesSome_117 : decode cX10_goesSome 117 = .ok (.iload 7, 2) := by decide +kernel
theorem dX10_goesSome_119 : decode cX10_goesSome 119 = .ok (.iload 14, 2) := by decide +kernel
theorem dX10_goesSome_121 : decode cX10_goesSome 121 = .ok (.invokevirtual 339, 3) := by decide +kernel
theorem dX10_goesSome_124 : decode cX10_goesSome 124 = .ok (.iload_n 1, 1) := by decide +kernel
theorem dX10_goesSome_125 : decode cX10_goesSome 125 = .ok (.invokevirtual 348, 3) := by decide +kernel
theorem dX10_goesSome_128 : decode cX10_goesSome 128 = .ok (.aload_n 0, 1) := by decide +kernel
theorem dX10_goesSome_129 : decode cX10_goesSome 129 = .ok (.iload 11, 2) := by decide +kernel
theorem dX10_goesSome_131 : decode cX10_goesSome 131 = .ok (.putfield 178, 3) := by decide +kernel
theorem dX10_goesSome_134 : decode cX10_goesSome 134 = .ok (.iinc 12 1, 3) := by decide +kernel
theorem dX10_goesSome_137 : decode cX10_goesSome 137 = .ok (.goto (-76), 3) := by decide +kernel
theorem dX10_goesSome_140 : decode cX10_goesSome 140 = .ok (.aload_n 0, 1) := by decide +kernel
theorem dX10_goesSome_141 : decode cX10_goesSome 141 = .ok (.iload 9, 2) := by decide +kernel
theorem dX10_goesSome_143 : decode cX10_goesSome 143 = .ok (.putfield 178, 3) := by decide +kernel
theorem dX10_goesSome_146 : decode cX10_goesSome 146 = .ok (.return_, 1) := by decide +kernel
set_option maxRecDepth 20000 in
theorem ggX10_sumOf_X10_partsAt : GoodIn wsX10_sumOf wsX10_partsAt := goodIn_r _ [5, 6, 19, 20, 21, 22, 23, 24, 25, 26, 27, 28, 29, 30, 31, 32, 33, 34, 35, 36, 37, 38, 39, 40, 41, 42, 43, 44, 45, 46, 47, 48, 49, 50, 51, 52, 53, 54, 55, 56, 57, 58, 59, 60, 61, 62, 63, 64, 65, 66, 67, 68] rfl (by decide +kernel)
set_option maxRecDepth 20000 in
theorem gX10_sumOf_X10_partsAt : GoodIn wsX10_sumOf (wsV RX10 209 RX10 yX10_partsAt wsX10_partsAt) := goodIn_app (goodIn_of _ (by decide +kernel)) ggX10_sumOf_X10_partsAt
set_option maxRecDepth 20000 in
theorem ggX10_sumOf_X10_behind : GoodIn wsX10_sumOf wsX10_behind := goodIn_r _ [10, 1, 2, 3, 4, 5, 6, 19, 20, 21, 22, 23, 24, 25, 26, 27, 28, 29, 30, 31, 32, 33, 34, 35, 36, 37, 38, 39, 40, 41, 42, 43, 44, 45, 46, 47, 48, 49, 50, 51, 52, 53, 54, 55, 56, 57, 58, 59, 60, 61, 62, 63, 64, 65, 66, 67, 68] rfl (by decide +kernel)
set_option maxRecDepth 20000 in
theorem gX10_sumOf_X10_behind : GoodIn wsX10_sumOf (wsV RX10 213 RX10 yX10_behind wsX10_behind) := goodIn_app (goodIn_of _ (by decide +kernel)) ggX10_sumOf_X10_behind
set_option maxRecDepth 20000 in
theorem ggX10_sumOf_X10_holds : GoodIn wsX10_sumOf wsX10_holds := goodIn_r _ [13] rfl (by decide +kernel)
set_option maxRecDepth 20000 in
theorem gX10_sumOf_X10_holds : GoodIn wsX10_sumOf (va_wsS RX10 281 yX10_holds wsX10_holds) := goodIn_app (goodIn_of _ (by decide +kernel)) ggX10_sumOf_X10_holds
set_option maxRecDepth 20000 in
theorem ggX10_sumOf_X10_copies : GoodIn wsX10_sumOf wsX10_copies := goodIn_r _ [17, 18, 6, 7, 8, 9, 4, 10, 1, 2, 3, 5, 19, 20, 21, 22, 23, 24, 25, 26, 27, 28, 29, 30, 31, 32, 33, 34, 35, 36, 37, 38, 39, 40, 41, 42, 43, 44, 45, 46, 47, 48, 49, 50, 51, 52, 53, 54, 55, 56, 57, 58, 59, 60, 61, 62, 63, 64, 65, 66, 67, 68] rfl (by decide +kernel)
set_option maxRecDepth 20000 in
theorem gX10_sumOf_X10_copies : GoodIn wsX10_sumOf (wsV RX10 230 RX10 yX10_copies wsX10_copies) := goodIn_app (goodIn_of _ (by decide +kernel)) ggX10_sumOf_X10_copies
theorem dX10_sumOf_0 : decode cX10_sumOf 0 = .ok (.aload_n 0, 1) := by decide +kernel
theorem dX10_sumOf_1 : decode cX10_sumOf 1 = .ok (.iload_n 1, 1) := by decide +kernel
theorem dX10_sumOf_2 : decode cX10_sumOf 2 = .ok (.invokevirtual 209, 3) := by decide +kernel
theorem dX10_sumOf_5 : decode cX10_sumOf 5 = .ok (.istore 4, 2) := by decide +kernel
theorem dX10_sumOf_7 : decode cX10_sumOf 7 = .ok (.iload_n 1, 1) := by decide +kernel
theorem dX10_sumOf_8 : decode cX10_sumOf 8 = .ok (.iconst 1, 1) := by decide +kernel
theorem dX10_sumOf_9 : decode cX10_sumOf 9 = .ok (.iadd, 1) := by decide +kernel
theorem dX10_sumOf_10 : decode cX10_sumOf 10 = .ok (.istore 5, 2) := by decide +kernel
theorem dX10_sumOf_12 : decode cX10_sumOf 12 = .ok (.iconst 0, 1) := by decide +kernel
theorem dX10_sumOf_13 : decode cX10_sumOf 13 = .ok (.istore 6, 2) := by decide +kernel
theorem dX10_sumOf_15 : decode cX10_sumOf 15 = .ok (.iload 6, 2) := by decide +kernel
theorem dX10_sumOf_17 : decode cX10_sumOf 17 = .ok (.iload 4, 2) := by decide +kernel
theorem dX10_sumOf_19 : decode cX10_sumOf 19 = .ok (.if_icmp .ge 39, 3) := by decide +kernel
theorem dX10_sumOf_22 : decode cX10_sumOf 22 = .ok (.aload_n 0, 1) := by decide +kernel
theorem dX10_sumOf_23 : decode cX10_sumOf 23 = .ok (.iload 5, 2) := by decide +kernel
theorem dX10_sumOf_25 : decode cX10_sumOf 25 = .ok (.invokevirtual 213, 3) := by decide +kernel
theorem dX10_sumOf_28 : decode cX10_sumOf 28 = .ok (.istore 7, 2) := by decide +kernel
theorem dX10_sumOf_30 : decode cX10_sumOf 30 = .ok (.iload_n 2, 1) := by decide +kernel
theorem dX10_sumOf_31 : decode cX10_sumOf 31 = .ok (.iload 6, 2) := by decide +kernel
theorem dX10_sumOf_33 : decode cX10_sumOf 33 = .ok (.invokestatic 281, 3) := by decide +kernel
theorem dX10_sumOf_36 : decode cX10_sumOf 36 = .ok (.iload_n 3, 1) := by decide +kernel
theorem dX10_sumOf_37 : decode cX10_sumOf 37 = .ok (.if_icmp .eq 11, 3) := by decide +kernel
theorem dX10_sumOf_40 : decode cX10_sumOf 40 = .ok (.aload_n 0, 1) := by decide +kernel
theorem dX10_sumOf_41 : decode cX10_sumOf 41 = .ok (.iload 5, 2) := by decide +kernel
theorem dX10_sumOf_43 : decode cX10_sumOf 43 = .ok (.invokevirtual 230, 3) := by decide +kernel
theorem dX10_sumOf_46 : decode cX10_sumOf 46 = .ok (.istore 8, 2) := by decide +kernel
theorem dX10_sumOf_48 : decode cX10_sumOf 48 = .ok (.iload 7, 2) := by decide +kernel
theorem dX10_sumOf_50 : decode cX10_sumOf 50 = .ok (.istore 5, 2) := by decide +kernel
theorem dX10_sumOf_52 : decode cX10_sumOf 52 = .ok (.iinc 6 1, 3) := by decide +kernel
theorem dX10_sumOf_55 : decode cX10_sumOf 55 = .ok (.goto (-40), 3) := by decide +kernel
theorem dX10_sumOf_58 : decode cX10_sumOf 58 = .ok (.return_, 1) := by decide +kernel
set_option maxRecDepth 20000 in
theorem ggX10_laysSteps_X10_behind : GoodIn wsX10_laysSteps wsX10_behind := goodIn_r _ [11, 12, 13, 14, 10, 15, 16, 156, 157, 158, 159, 160, 161, 162, 163, 164, 165, 166, 167, 168, 169, 170, 171, 172, 173, 174, 175, 176, 177, 178, 179, 180, 181, 182, 183, 184, 185, 186, 187, 188, 189, 190, 191, 192, 193, 194, 195, 196, 197, 198, 199, 200, 201, 202, 203, 204, 205] rfl (by decide +kernel)
set_option maxRecDepth 20000 in
theorem gX10_laysSteps_X10_behind : GoodIn wsX10_laysSteps (wsV RX10 213 RX10 yX10_behind wsX10_behind) := goodIn_app (goodIn_of _ (by decide +kernel)) ggX10_laysSteps_X10_behind
set_option maxRecDepth 20000 in
theorem ggX10_laysSteps_X10_holds : GoodIn wsX10_laysSteps wsX10_holds := goodIn_r _ [19] rfl (by decide +kernel)
set_option maxRecDepth 20000 in
theorem gX10_laysSteps_X10_holds : GoodIn wsX10_laysSteps (va_wsS RX10 281 yX10_holds wsX10_holds) := goodIn_app (goodIn_of _ (by decide +kernel)) ggX10_laysSteps_X10_holds
set_option maxRecDepth 20000 in
theorem ggX10_laysSteps_X10_rowOfRule : GoodIn wsX10_laysSteps wsX10_rowOfRule := goodIn_r _ [23] rfl (by decide +kernel)
set_option maxRecDepth 20000 in
theorem gX10_laysSteps_X10_rowOfRule : GoodIn wsX10_laysSteps (wsV RX10 271 RX10 yX10_rowOfRule wsX10_rowOfRule) := goodIn_app (goodIn_of _ (by decide +kernel)) ggX10_laysSteps_X10_rowOfRule
set_option maxRecDepth 20000 in
theorem ggX10_laysSteps_X10_comes : GoodIn wsX10_laysSteps wsX10_comes := goodIn_r _ [27, 4, 16, 28, 12, 13, 14, 10, 15, 156, 157, 158, 159, 160, 161, 162, 163, 164, 165, 166, 167, 168, 169, 170, 171, 172, 173, 174, 175, 176, 177, 178, 179, 180, 181, 182, 183, 184, 185, 186, 187, 188, 189, 190, 191, 192, 193, 194, 195, 196, 197, 198, 199, 200, 201, 202, 203, 204, 205] rfl (by decide +kernel)
set_option maxRecDepth 20000 in
theorem gX10_laysSteps_X10_comes : GoodIn wsX10_laysSteps (wsV RX10 245 RX10 yX10_comes wsX10_comes) := goodIn_app (goodIn_of _ (by decide +kernel)) ggX10_laysSteps_X10_comes
set_option maxRecDepth 20000 in
theorem ggX10_laysSteps_X10_laysMatches : GoodIn wsX10_laysSteps wsX10_laysMatches := goodIn_r _ [32, 33, 34, 35, 36, 37, 38, 39, 10, 40, 16, 7, 8, 9, 11, 12, 13, 14, 15, 41, 42, 43, 44, 45, 46, 47, 48, 49, 50, 3, 5, 51, 52, 53, 54, 55, 56, 57, 58, 59, 17, 18, 19, 60, 61, 62, 63, 64, 65, 66, 67, 68, 69, 70, 71, 72, 73, 74, 75, 76, 77, 78, 79, 6, 80, 81, 82, 83, 84, 85, 86, 87, 88, 89, 90, 91, 92, 93, 94, 95, 4, 96, 97, 98, 99, 100, 101, 102, 103, 104, 105, 106, 107, 108, 109, 110, 111, 156, 157, 158, 159, 160, 161, 162, 163, 164, 165, 166, 167, 168, 169, 170, 171, 172, 173, 174, 175, 176, 177, 178, 179, 180, 181, 182, 183, 184, 185, 186, 187, 188, 189, 190, 191, 192, 193, 194, 195, 196, 197, 198, 199, 200, 201, 202, 203, 204, 205] rfl (by decide +kernel)
set_option maxRecDepth 20000 in
theorem gX10_laysSteps_X10_laysMatches : GoodIn wsX10_laysSteps (wsV RX10 356 RX10 yX10_laysMatches wsX10_laysMatches) := goodIn_app (goodIn_of _ (by decide +kernel)) ggX10_laysSteps_X10_laysMatches
set_option maxRecDepth 20000 in
theorem ggX10_laysSteps_X10_goesAll : GoodIn wsX10_laysSteps wsX10_goesAll := goodIn_r _ [115, 4, 33, 3, 116, 117, 118, 10, 119, 16, 55, 56, 57, 58, 59, 12, 13, 14, 15, 7, 8, 9, 11, 67, 68, 69, 70, 120, 121, 122, 123, 5, 124, 6, 80, 81, 82, 125, 126, 127, 128, 91, 92, 93, 94, 104, 105, 106, 107, 129, 130, 131, 132, 133, 134, 135, 136, 1, 137, 138, 139, 140, 141, 142, 143, 87, 88, 89, 90, 144, 145, 146, 147, 156, 157, 158, 159, 160, 161, 162, 163, 164, 165, 166, 167, 168, 169, 170, 171, 172, 173, 174, 175, 176, 177, 178, 179, 180, 181, 182, 183, 184, 185, 186, 187, 188, 189, 190, 191, 192, 193, 194, 195, 196, 197, 198, 199, 200, 201, 202, 203, 204, 205] rfl (by decide +kernel)
set_option maxRecDepth 20000 in
theorem gX10_laysSteps_X10_goesAll : GoodIn wsX10_laysSteps (wsV RX10 359 RX10 yX10_goesAll wsX10_goesAll) := goodIn_app (goodIn_of _ (by decide +kernel)) ggX10_laysSteps_X10_goesAll
set_option maxRecDepth 20000 in
theorem ggX10_laysSteps_X10_operatorAt : GoodIn wsX10_laysSteps wsX10_operatorAt := goodIn_r _ [70, 16, 156, 157, 158, 159, 160, 161, 162, 163, 164, 165, 166, 167, 168, 169, 170, 171, 172, 173, 174, 175, 176, 177, 178, 179, 180, 181, 182, 183, 184, 185, 186, 187, 188, 189, 190, 191, 192, 193, 194, 195, 196, 197, 198, 199, 200, 201, 202, 203, 204, 205] rfl (by decide +kernel)
set_option maxRecDepth 20000 in
theorem gX10_laysSteps_X10_operatorAt : GoodIn wsX10_laysSteps (wsV RX10 220 RX10 yX10_operatorAt wsX10_operatorAt) := goodIn_app (goodIn_of _ (by decide +kernel)) ggX10_laysSteps_X10_operatorAt
set_option maxRecDepth 20000 in
theorem ggX10_laysSteps_X10_partsAt : GoodIn wsX10_laysSteps wsX10_partsAt := goodIn_r _ [15, 16, 156, 157, 158, 159, 160, 161, 162, 163, 164, 165, 166, 167, 168, 169, 170, 171, 172, 173, 174, 175, 176, 177, 178, 179, 180, 181, 182, 183, 184, 185, 186, 187, 188, 189, 190, 191, 192, 193, 194, 195, 196, 197, 198, 199, 200, 201, 202, 203, 204, 205] rfl (by decide +kernel)
set_option maxRecDepth 20000 in
theorem gX10_laysSteps_X10_partsAt : GoodIn wsX10_laysSteps (wsV RX10 209 RX10 yX10_partsAt wsX10_partsAt) := goodIn_app (goodIn_of _ (by decide +kernel)) ggX10_laysSteps_X10_partsAt
set_option maxRecDepth 20000 in
theorem ggX10_laysSteps_X10_goesSome : GoodIn wsX10_laysSteps wsX10_goesSome := goodIn_r _ [151, 4, 33, 3, 67, 68, 69, 10, 70, 16, 152, 153, 154, 155, 12, 13, 14, 15, 7, 8, 9, 11, 17, 18, 19, 104, 105, 106, 107, 120, 121, 122, 123, 5, 124, 6, 80, 81, 82, 125, 126, 127, 128, 91, 92, 93, 94, 29, 30, 31, 32, 34, 35, 36, 37, 38, 39, 40, 41, 42, 43, 44, 45, 46, 47, 48, 49, 50, 51, 52, 53, 54, 55, 56, 57, 58, 59, 60, 61, 62, 63, 64, 65, 66, 71, 72, 73, 74, 75, 76, 77, 78, 79, 83, 84, 85, 86, 87, 88, 89, 90, 95, 96, 97, 98, 99, 100, 101, 102, 103, 108, 109, 110, 111, 116, 117, 118, 119, 129, 130, 131, 132, 133, 134, 135, 136, 1, 137, 138, 139, 140, 141, 142, 143, 144, 145, 146, 147, 156, 157, 158, 159, 160, 161, 162, 163, 164, 165, 166, 167, 168, 169, 170, 171, 172, 173, 174, 175, 176, 177, 178, 179, 180, 181, 182, 183, 184, 185, 186, 187, 188, 189, 190, 191, 192, 193, 194, 195, 196, 197, 198, 199, 200, 201, 202, 203, 204, 205] rfl (by decide +kernel)
set_option maxRecDepth 20000 in
theorem gX10_laysSteps_X10_goesSome : GoodIn wsX10_laysSteps (wsV RX10 362 RX10 yX10_goesSome wsX10_goesSome) := goodIn_app (goodIn_of _ (by decide +kernel)) ggX10_laysSteps_X10_goesSome
theorem dX10_laysSteps_0 : decode cX10_laysSteps 0 = .ok (.aload_n 0, 1) := by decide +kernel
theorem dX10_laysSteps_1 : decode cX10_laysSteps 1 = .ok (.iconst 0, 1) := by decide +kernel
theorem dX10_laysSteps_2 : decode cX10_laysSteps 2 = .ok (.putfield 342, 3) := by decide +kernel
theorem dX10_laysSteps_5 : decode cX10_laysSteps 5 = .ok (.iload_n 3, 1) := by decide +kernel
theorem dX10_laysSteps_6 : decode cX10_laysSteps 6 = .ok (.ifCond .eq 7, 3) := by decide +kernel
theorem dX10_laysSteps_9 : decode cX10_laysSteps 9 = .ok (.iconst 1, 1) := by decide +kernel
theorem dX10_laysSteps_10 : decode cX10_laysSteps 10 = .ok (.goto 10, 3) := by decide +kernel
theorem dX10_laysSteps_13 : decode cX10_laysSteps 13 = .ok (.aload_n 0, 1) := by decide +kernel
theorem dX10_laysSteps_14 : decode cX10_laysSteps 14 = .ok (.iload_n 1, 1) := by decide +kernel
theorem dX10_laysSteps_15 : decode cX10_laysSteps 15 = .ok (.invokevirtual 213, 3) := by decide +kernel
theorem dX10_laysSteps_18 : decode cX10_laysSteps 18 = .ok (.iload_n 1, 1) := by decide +kernel
theorem dX10_laysSteps_19 : decode cX10_laysSteps 19 = .ok (.isub, 1) := by decide +kernel
theorem dX10_laysSteps_20 : decode cX10_laysSteps 20 = .ok (.istore 4, 2) := by decide +kernel
theorem dX10_laysSteps_22 : decode cX10_laysSteps 22 = .ok (.iconst 0, 1) := by decide +kernel
theorem dX10_laysSteps_23 : decode cX10_laysSteps 23 = .ok (.istore 5, 2) := by decide +kernel
theorem dX10_laysSteps_25 : decode cX10_laysSteps 25 = .ok (.iload 5, 2) := by decide +kernel
theorem dX10_laysSteps_27 : decode cX10_laysSteps 27 = .ok (.iload 4, 2) := by decide +kernel
theorem dX10_laysSteps_29 : decode cX10_laysSteps 29 = .ok (.if_icmp .ge 200, 3) := by decide +kernel
theorem dX10_laysSteps_32 : decode cX10_laysSteps 32 = .ok (.iconst 0, 1) := by decide +kernel
theorem dX10_laysSteps_33 : decode cX10_laysSteps 33 = .ok (.istore 6, 2) := by decide +kernel
theorem dX10_laysSteps_35 : decode cX10_laysSteps 35 = .ok (.iload 6, 2) := by decide +kernel
theorem dX10_laysSteps_37 : decode cX10_laysSteps 37 = .ok (.aload_n 0, 1) := by decide +kernel
theorem dX10_laysSteps_38 : decode cX10_laysSteps 38 = .ok (.getfield 199, 3) := by decide +kernel
theorem dX10_laysSteps_41 : decode cX10_laysSteps 41 = .ok (.if_icmp .ge 182, 3) := by decide +kernel
theorem dX10_laysSteps_44 : decode cX10_laysSteps 44 = .ok (.aload_n 0, 1) := by decide +kernel
theorem dX10_laysSteps_45 : decode cX10_laysSteps 45 = .ok (.getfield 296, 3) := by decide +kernel
theorem dX10_laysSteps_48 : decode cX10_laysSteps 48 = .ok (.ifCond .ne 175, 3) := by decide +kernel
theorem dX10_laysSteps_51 : decode cX10_laysSteps 51 = .ok (.iload_n 2, 1) := by decide +kernel
theorem dX10_laysSteps_52 : decode cX10_laysSteps 52 = .ok (.iload 6, 2) := by decide +kernel
theorem dX10_laysSteps_54 : decode cX10_laysSteps 54 = .ok (.invokestatic 281, 3) := by decide +kernel
theorem dX10_laysSteps_57 : decode cX10_laysSteps 57 = .ok (.ifCond .ne 6, 3) := by decide +kernel
theorem dX10_laysSteps_60 : decode cX10_laysSteps 60 = .ok (.goto 157, 3) := by decide +kernel
theorem dX10_laysSteps_63 : decode cX10_laysSteps 63 = .ok (.aload_n 0, 1) := by decide +kernel
theorem dX10_laysSteps_64 : decode cX10_laysSteps 64 = .ok (.getfield 178, 3) := by decide +kernel
theorem dX10_laysSteps_67 : decode cX10_laysSteps 67 = .ok (.istore 7, 2) := by decide +kernel
theorem dX10_laysSteps_69 : decode cX10_laysSteps 69 = .ok (.aload_n 0, 1) := by decide +kernel
theorem dX10_laysSteps_70 : decode cX10_laysSteps 70 = .ok (.aload_n 0, 1) := by decide +kernel
theorem dX10_laysSteps_71 : decode cX10_laysSteps 71 = .ok (.iload 6, 2) := by decide +kernel
theorem dX10_laysSteps_73 : decode cX10_laysSteps 73 = .ok (.iconst 0, 1) := by decide +kernel
theorem dX10_laysSteps_74 : decode cX10_laysSteps 74 = .ok (.invokevirtual 271, 3) := by decide +kernel
theorem dX10_laysSteps_77 : decode cX10_laysSteps 77 = .ok (.invokevirtual 245, 3) := by decide +kernel
theorem dX10_laysSteps_80 : decode cX10_laysSteps 80 = .ok (.istore 8, 2) := by decide +kernel
theorem dX10_laysSteps_82 : decode cX10_laysSteps 82 = .ok (.aload_n 0, 1) := by decide +kernel
theorem dX10_laysSteps_83 : decode cX10_laysSteps 83 = .ok (.aload_n 0, 1) := by decide +kernel
theorem dX10_laysSteps_84 : decode cX10_laysSteps 84 = .ok (.iload 6, 2) := by decide +kernel
theorem dX10_laysSteps_86 : decode cX10_laysSteps 86 = .ok (.iconst 1, 1) := by decide +kernel
theorem dX10_laysSteps_87 : decode cX10_laysSteps 87 = .ok (.invokevirtual 271, 3) := by decide +kernel
theorem dX10_laysSteps_90 : decode cX10_laysSteps 90 = .ok (.invokevirtual 245, 3) := by decide +kernel
theorem dX10_laysSteps_93 : decode cX10_laysSteps 93 = .ok (.istore 9, 2) := by decide +kernel
theorem dX10_laysSteps_95 : decode cX10_laysSteps 95 = .ok (.aload_n 0, 1) := by decide +kernel
theorem dX10_laysSteps_96 : decode cX10_laysSteps 96 = .ok (.iload 8, 2) := by decide +kernel
theorem dX10_laysSteps_98 : decode cX10_laysSteps 98 = .ok (.iload_n 1, 1) := by decide +kernel
theorem dX10_laysSteps_99 : decode cX10_laysSteps 99 = .ok (.iload 5, 2) := by decide +kernel
theorem dX10_laysSteps_101 : decode cX10_laysSteps 101 = .ok (.iadd, 1) := by decide +kernel
theorem dX10_laysSteps_102 : decode cX10_laysSteps 102 = .ok (.invokevirtual 356, 3) := by decide +kernel
theorem dX10_laysSteps_105 : decode cX10_laysSteps 105 = .ok (.aload_n 0, 1) := by decide +kernel
theorem dX10_laysSteps_106 : decode cX10_laysSteps 106 = .ok (.iload_n 1, 1) := by decide +kernel
theorem dX10_laysSteps_107 : decode cX10_laysSteps 107 = .ok (.iload 5, 2) := by decide +kernel
theorem dX10_laysSteps_109 : decode cX10_laysSteps 109 = .ok (.iload 6, 2) := by decide +kernel
theorem dX10_laysSteps_111 : decode cX10_laysSteps 111 = .ok (.iload 9, 2) := by decide +kernel
theorem dX10_laysSteps_113 : decode cX10_laysSteps 113 = .ok (.invokevirtual 359, 3) := by decide +kernel
theorem dX10_laysSteps_116 : decode cX10_laysSteps 116 = .ok (.aload_n 0, 1) := by decide +kernel
theorem dX10_laysSteps_117 : decode cX10_laysSteps 117 = .ok (.iload 8, 2) := by decide +kernel
theorem dX10_laysSteps_119 : decode cX10_laysSteps 119 = .ok (.invokevirtual 220, 3) := by decide +kernel
theorem dX10_laysSteps_122 : decode cX10_laysSteps 122 = .ok (.istore 10, 2) := by decide +kernel
theorem dX10_laysSteps_124 : decode cX10_laysSteps 124 = .ok (.aload_n 0, 1) := by decide +kernel
theorem dX10_laysSteps_125 : decode cX10_laysSteps 125 = .ok (.getfield 33, 3) := by decide +kernel
theorem dX10_laysSteps_128 : decode cX10_laysSteps 128 = .ok (.iload 10, 2) := by decide +kernel
theorem dX10_laysSteps_130 : decode cX10_laysSteps 130 = .ok (.iaload, 1) := by decide +kernel
theorem dX10_laysSteps_131 : decode cX10_laysSteps 131 = .ok (.iconst 2, 1) := by decide +kernel
theorem dX10_laysSteps_132 : decode cX10_laysSteps 132 = .ok (.if_icmp .ne 79, 3) := by decide +kernel
theorem dX10_laysSteps_135 : decode cX10_laysSteps 135 = .ok (.aload_n 0, 1) := by decide +kernel
theorem dX10_laysSteps_136 : decode cX10_laysSteps 136 = .ok (.iload_n 1, 1) := by decide +kernel
theorem dX10_laysSteps_137 : decode cX10_laysSteps 137 = .ok (.iload 5, 2) := by decide +kernel
theorem dX10_laysSteps_139 : decode cX10_laysSteps 139 = .ok (.iadd, 1) := by decide +kernel
theorem dX10_laysSteps_140 : decode cX10_laysSteps 140 = .ok (.invokevirtual 220, 3) := by decide +kernel
theorem dX10_laysSteps_143 : decode cX10_laysSteps 143 = .ok (.iload 10, 2) := by decide +kernel
theorem dX10_laysSteps_145 : decode cX10_laysSteps 145 = .ok (.if_icmp .ne 66, 3) := by decide +kernel
theorem dX10_laysSteps_148 : decode cX10_laysSteps 148 = .ok (.aload_n 0, 1) := by decide +kernel
theorem dX10_laysSteps_149 : decode cX10_laysSteps 149 = .ok (.getfield 39, 3) := by decide +kernel
theorem dX10_laysSteps_152 : decode cX10_laysSteps 152 = .ok (.iload 10, 2) := by decide +kernel
theorem dX10_laysSteps_154 : decode cX10_laysSteps 154 = .ok (.iaload, 1) := by decide +kernel
theorem dX10_laysSteps_155 : decode cX10_laysSteps 155 = .ok (.iconst (-1), 1) := by decide +kernel
theorem dX10_laysSteps_156 : decode cX10_laysSteps 156 = .ok (.if_icmp .ne 7, 3) := by decide +kernel
theorem dX10_laysSteps_159 : decode cX10_laysSteps 159 = .ok (.iconst 1, 1) := by decide +kernel
theorem dX10_laysSteps_160 : decode cX10_laysSteps 160 = .ok (.goto 4, 3) := by decide +kernel
theorem dX10_laysSteps_163 : decode cX10_laysSteps 163 = .ok (.iconst 0, 1) := by decide +kernel
theorem dX10_laysSteps_164 : decode cX10_laysSteps 164 = .ok (.istore 11, 2) := by decide +kernel
theorem dX10_laysSteps_166 : decode cX10_laysSteps 166 = .ok (.iload 11, 2) := by decide +kernel
theorem dX10_laysSteps_168 : decode cX10_laysSteps 168 = .ok (.iconst 1, 1) := by decide +kernel
theorem dX10_laysSteps_169 : decode cX10_laysSteps 169 = .ok (.aload_n 0, 1) := by decide +kernel
theorem dX10_laysSteps_170 : decode cX10_laysSteps 170 = .ok (.iload_n 1, 1) := by decide +kernel
theorem dX10_laysSteps_171 : decode cX10_laysSteps 171 = .ok (.iload 5, 2) := by decide +kernel
theorem dX10_laysSteps_173 : decode cX10_laysSteps 173 = .ok (.iadd, 1) := by decide +kernel
theorem dX10_laysSteps_174 : decode cX10_laysSteps 174 = .ok (.invokevirtual 209, 3) := by decide +kernel
theorem dX10_laysSteps_177 : decode cX10_laysSteps 177 = .ok (.ishl, 1) := by decide +kernel
theorem dX10_laysSteps_178 : decode cX10_laysSteps 178 = .ok (.iconst 1, 1) := by decide +kernel
theorem dX10_laysSteps_179 : decode cX10_laysSteps 179 = .ok (.isub, 1) := by decide +kernel
theorem dX10_laysSteps_180 : decode cX10_laysSteps 180 = .ok (.if_icmp .ge 31, 3) := by decide +kernel
theorem dX10_laysSteps_183 : decode cX10_laysSteps 183 = .ok (.aload_n 0, 1) := by decide +kernel
theorem dX10_laysSteps_184 : decode cX10_laysSteps 184 = .ok (.getfield 296, 3) := by decide +kernel
theorem dX10_laysSteps_187 : decode cX10_laysSteps 187 = .ok (.ifCond .ne 24, 3) := by decide +kernel
theorem dX10_laysSteps_190 : decode cX10_laysSteps 190 = .ok (.aload_n 0, 1) := by decide +kernel
theorem dX10_laysSteps_191 : decode cX10_laysSteps 191 = .ok (.iload_n 1, 1) := by decide +kernel
theorem dX10_laysSteps_192 : decode cX10_laysSteps 192 = .ok (.iload 5, 2) := by decide +kernel
theorem dX10_laysSteps_194 : decode cX10_laysSteps 194 = .ok (.iload 6, 2) := by decide +kernel
theorem dX10_laysSteps_196 : decode cX10_laysSteps 196 = .ok (.iload 8, 2) := by decide +kernel
theorem dX10_laysSteps_198 : decode cX10_laysSteps 198 = .ok (.iload 9, 2) := by decide +kernel
theorem dX10_laysSteps_200 : decode cX10_laysSteps 200 = .ok (.iload 11, 2) := by decide +kernel
theorem dX10_laysSteps_202 : decode cX10_laysSteps 202 = .ok (.invokevirtual 362, 3) := by decide +kernel
theorem dX10_laysSteps_205 : decode cX10_laysSteps 205 = .ok (.iinc 11 1, 3) := by decide +kernel
theorem dX10_laysSteps_208 : decode cX10_laysSteps 208 = .ok (.goto (-42), 3) := by decide +kernel
theorem dX10_laysSteps_211 : decode cX10_laysSteps 211 = .ok (.aload_n 0, 1) := by decide +kernel
theorem dX10_laysSteps_212 : decode cX10_laysSteps 212 = .ok (.iload 7, 2) := by decide +kernel
theorem dX10_laysSteps_214 : decode cX10_laysSteps 214 = .ok (.putfield 178, 3) := by decide +kernel
theorem dX10_laysSteps_217 : decode cX10_laysSteps 217 = .ok (.iinc 6 1, 3) := by decide +kernel
theorem dX10_laysSteps_220 : decode cX10_laysSteps 220 = .ok (.goto (-185), 3) := by decide +kernel
theorem dX10_laysSteps_223 : decode cX10_laysSteps 223 = .ok (.iinc 5 1, 3) := by decide +kernel
theorem dX10_laysSteps_226 : decode cX10_laysSteps 226 = .ok (.goto (-201), 3) := by decide +kernel
theorem dX10_laysSteps_229 : decode cX10_laysSteps 229 = .ok (.return_, 1) := by decide +kernel
set_option maxRecDepth 20000 in
theorem ggX10_tooMuch_X10_throwsIf : GoodIn wsX10_tooMuch wsX10_throwsIf := goodIn_r _ [6, 7, 8, 9, 10, 11, 12, 13, 14, 15, 16, 17, 18, 19, 20, 21, 22, 23, 24, 25, 26, 27, 28, 29, 30, 31, 32, 33, 34, 35, 36, 37, 38, 39, 40, 41, 42, 43, 44, 45, 46, 47, 48, 49, 50, 51, 52, 53, 54, 55, 56, 57] rfl (by decide +kernel)
set_option maxRecDepth 20000 in
theorem gX10_tooMuch_X10_throwsIf : GoodIn wsX10_tooMuch (wsV RX10 264 RX10 yX10_throwsIf wsX10_throwsIf) := goodIn_app (goodIn_of _ (by decide +kernel)) ggX10_tooMuch_X10_throwsIf
theorem dX10_tooMuch_0 : decode cX10_tooMuch 0 = .ok (.aload_n 0, 1) := by decide +kernel
theorem dX10_tooMuch_1 : decode cX10_tooMuch 1 = .ok (.aload_n 0, 1) := by decide +kernel
theorem dX10_tooMuch_2 : decode cX10_tooMuch 2 = .ok (.getfield 296, 3) := by decide +kernel
theorem dX10_tooMuch_5 : decode cX10_tooMuch 5 = .ok (.iload_n 1, 1) := by decide +kernel
theorem dX10_tooMuch_6 : decode cX10_tooMuch 6 = .ok (.invokevirtual 264, 3) := by decide +kernel
theorem dX10_tooMuch_9 : decode cX10_tooMuch 9 = .ok (.ireturn, 1) := by decide +kernel
set_option maxRecDepth 20000 in
theorem ggX10_termAt_X10_rowOfTerm : GoodIn wsX10_termAt wsX10_rowOfTerm := goodIn_r _ [7] rfl (by decide +kernel)
set_option maxRecDepth 20000 in
theorem gX10_termAt_X10_rowOfTerm : GoodIn wsX10_termAt (wsV RX10 242 RX10 yX10_rowOfTerm wsX10_rowOfTerm) := goodIn_app (goodIn_of _ (by decide +kernel)) ggX10_termAt_X10_rowOfTerm
set_option maxRecDepth 20000 in
theorem ggX10_termAt_X10_comes : GoodIn wsX10_termAt wsX10_comes := goodIn_r _ [11, 1, 12, 13, 14, 15, 16, 6, 17, 18, 19, 20, 21, 22, 23, 24, 25, 26, 27, 28, 29, 30, 31, 32, 33, 34, 35, 36, 37, 38, 39, 40, 41, 42, 43, 44, 45, 46, 47, 48, 49, 50, 51, 52, 53, 54, 55, 56, 57, 58, 59, 60, 61, 62, 63, 64, 65, 66, 67] rfl (by decide +kernel)
set_option maxRecDepth 20000 in
theorem gX10_termAt_X10_comes : GoodIn wsX10_termAt (wsV RX10 245 RX10 yX10_comes wsX10_comes) := goodIn_app (goodIn_of _ (by decide +kernel)) ggX10_termAt_X10_comes
theorem dX10_termAt_0 : decode cX10_termAt 0 = .ok (.aload_n 0, 1) := by decide +kernel
theorem dX10_termAt_1 : decode cX10_termAt 1 = .ok (.iconst 0, 1) := by decide +kernel
theorem dX10_termAt_2 : decode cX10_termAt 2 = .ok (.putfield 178, 3) := by decide +kernel
theorem dX10_termAt_5 : decode cX10_termAt 5 = .ok (.aload_n 0, 1) := by decide +kernel
theorem dX10_termAt_6 : decode cX10_termAt 6 = .ok (.iconst 0, 1) := by decide +kernel
theorem dX10_termAt_7 : decode cX10_termAt 7 = .ok (.putfield 296, 3) := by decide +kernel
theorem dX10_termAt_10 : decode cX10_termAt 10 = .ok (.aload_n 0, 1) := by decide +kernel
theorem dX10_termAt_11 : decode cX10_termAt 11 = .ok (.aload_n 0, 1) := by decide +kernel
theorem dX10_termAt_12 : decode cX10_termAt 12 = .ok (.iload_n 1, 1) := by decide +kernel
theorem dX10_termAt_13 : decode cX10_termAt 13 = .ok (.invokevirtual 242, 3) := by decide +kernel
theorem dX10_termAt_16 : decode cX10_termAt 16 = .ok (.invokevirtual 245, 3) := by decide +kernel
theorem dX10_termAt_19 : decode cX10_termAt 19 = .ok (.ireturn, 1) := by decide +kernel
theorem dX10_says_0 : decode cX10_says 0 = .ok (.aload_n 0, 1) := by decide +kernel
theorem dX10_says_1 : decode cX10_says 1 = .ok (.getfield 88, 3) := by decide +kernel
theorem dX10_says_4 : decode cX10_says 4 = .ok (.aload_n 0, 1) := by decide +kernel
theorem dX10_says_5 : decode cX10_says 5 = .ok (.getfield 206, 3) := by decide +kernel
theorem dX10_says_8 : decode cX10_says 8 = .ok (.iload_n 1, 1) := by decide +kernel
theorem dX10_says_9 : decode cX10_says 9 = .ok (.i2b, 1) := by decide +kernel
theorem dX10_says_10 : decode cX10_says 10 = .ok (.bastore, 1) := by decide +kernel
theorem dX10_says_11 : decode cX10_says 11 = .ok (.aload_n 0, 1) := by decide +kernel
theorem dX10_says_12 : decode cX10_says 12 = .ok (.dup, 1) := by decide +kernel
theorem dX10_says_13 : decode cX10_says 13 = .ok (.getfield 206, 3) := by decide +kernel
theorem dX10_says_16 : decode cX10_says 16 = .ok (.iconst 1, 1) := by decide +kernel
theorem dX10_says_17 : decode cX10_says 17 = .ok (.iadd, 1) := by decide +kernel
theorem dX10_says_18 : decode cX10_says 18 = .ok (.putfield 206, 3) := by decide +kernel
theorem dX10_says_21 : decode cX10_says 21 = .ok (.return_, 1) := by decide +kernel
set_option maxRecDepth 20000 in
theorem ggX10_saysAt_X10_operatorAt : GoodIn wsX10_saysAt wsX10_operatorAt := goodIn_r _ [8, 1, 22, 23, 24, 25, 26, 27, 28, 29, 30, 31, 32, 33, 34, 35, 36, 37, 38, 39, 40, 41, 42, 43, 44, 45, 46, 47, 48, 49, 50, 51, 52, 53, 54, 55, 56, 57, 58, 59, 60, 61, 62, 63, 64, 65, 66, 67, 68, 69, 70, 71] rfl (by decide +kernel)
set_option maxRecDepth 20000 in
theorem gX10_saysAt_X10_operatorAt : GoodIn wsX10_saysAt (wsV RX10 220 RX10 yX10_operatorAt wsX10_operatorAt) := goodIn_app (goodIn_of _ (by decide +kernel)) ggX10_saysAt_X10_operatorAt
set_option maxRecDepth 20000 in
theorem ggX10_saysAt_X10_says : GoodIn wsX10_saysAt wsX10_says := goodIn_r _ [12, 13, 14, 22, 23, 24, 25, 26, 27, 28, 29, 30, 31, 32, 33, 34, 35, 36, 37, 38, 39, 40, 41, 42, 43, 44, 45, 46, 47, 48, 49, 50, 51, 52, 53, 54, 55, 56, 57, 58, 59, 60, 61, 62, 63, 64, 65, 66, 67, 68, 69, 70, 71] rfl (by decide +kernel)
set_option maxRecDepth 20000 in
theorem gX10_saysAt_X10_says : GoodIn wsX10_saysAt (wsV RX10 365 RX10 yX10_says wsX10_says) := goodIn_app (goodIn_of _ (by decide +kernel)) ggX10_saysAt_X10_says
set_option maxRecDepth 20000 in
theorem ggX10_saysAt_X10_partsAt : GoodIn wsX10_saysAt wsX10_partsAt := goodIn_r _ [18, 1, 22, 23, 24, 25, 26, 27, 28, 29, 30, 31, 32, 33, 34, 35, 36, 37, 38, 39, 40, 41, 42, 43, 44, 45, 46, 47, 48, 49, 50, 51, 52, 53, 54, 55, 56, 57, 58, 59, 60, 61, 62, 63, 64, 65, 66, 67, 68, 69, 70, 71] rfl (by decide +kernel)
set_option maxRecDepth 20000 in
theorem gX10_saysAt_X10_partsAt : GoodIn wsX10_saysAt (wsV RX10 209 RX10 yX10_partsAt wsX10_partsAt) := goodIn_app (goodIn_of _ (by decide +kernel)) ggX10_saysAt_X10_partsAt
set_option maxRecDepth 20000 in
theorem ggX10_saysAt_X10_saysAt : GoodIn wsX10_saysAt wsX10_saysAt := goodIn_r _ [0, 1, 2, 3, 4, 5, 6, 7, 8, 9, 10, 11, 12, 13, 14, 15, 16, 17, 18, 19, 20, 21, 22, 23, 24, 25, 26, 27, 28, 29, 30, 31, 32, 33, 34, 35, 36, 37, 38, 39, 40, 41, 42, 43, 44, 45, 46, 47, 48, 49, 50, 51, 52, 53, 54, 55, 56, 57, 58, 59, 60, 61, 62, 63, 64, 65, 66, 67, 68, 69, 70, 71] rfl (by decide +kernel)
set_option maxRecDepth 20000 in
theorem gX10_saysAt_X10_saysAt : GoodIn wsX10_saysAt (wsV RX10 368 RX10 yX10_saysAt wsX10_saysAt) := goodIn_app (goodIn_of _ (by decide +kernel)) ggX10_saysAt_X10_saysAt
theorem dX10_saysAt_0 : decode cX10_saysAt 0 = .ok (.aload_n 0, 1) := by decide +kernel
theorem dX10_saysAt_1 : decode cX10_saysAt 1 = .ok (.getfield 52, 3) := by decide +kernel
theorem dX10_saysAt_4 : decode cX10_saysAt 4 = .ok (.iload_n 1, 1) := by decide +kernel
theorem dX10_saysAt_5 : decode cX10_saysAt 5 = .ok (.iaload, 1) := by decide +kernel
theorem dX10_saysAt_6 : decode cX10_saysAt 6 = .ok (.sipush 512, 3) := by decide +kernel
theorem dX10_saysAt_9 : decode cX10_saysAt 9 = .ok (.if_icmp .ge 15, 3) := by decide +kernel
theorem dX10_saysAt_12 : decode cX10_saysAt 12 = .ok (.bipush 10, 2) := by decide +kernel
theorem dX10_saysAt_14 : decode cX10_saysAt 14 = .ok (.aload_n 0, 1) := by decide +kernel
theorem dX10_saysAt_15 : decode cX10_saysAt 15 = .ok (.getfield 52, 3) := by decide +kernel
theorem dX10_saysAt_18 : decode cX10_saysAt 18 = .ok (.iload_n 1, 1) := by decide +kernel
theorem dX10_saysAt_19 : decode cX10_saysAt 19 = .ok (.iaload, 1) := by decide +kernel
theorem dX10_saysAt_20 : decode cX10_saysAt 20 = .ok (.iadd, 1) := by decide +kernel
theorem dX10_saysAt_21 : decode cX10_saysAt 21 = .ok (.goto 8, 3) := by decide +kernel
theorem dX10_saysAt_24 : decode cX10_saysAt 24 = .ok (.aload_n 0, 1) := by decide +kernel
theorem dX10_saysAt_25 : decode cX10_saysAt 25 = .ok (.iload_n 1, 1) := by decide +kernel
theorem dX10_saysAt_26 : decode cX10_saysAt 26 = .ok (.invokevirtual 220, 3) := by decide +kernel
theorem dX10_saysAt_29 : decode cX10_saysAt 29 = .ok (.istore_n 2, 1) := by decide +kernel
theorem dX10_saysAt_30 : decode cX10_saysAt 30 = .ok (.iconst 0, 1) := by decide +kernel
theorem dX10_saysAt_31 : decode cX10_saysAt 31 = .ok (.istore_n 3, 1) := by decide +kernel
theorem dX10_saysAt_32 : decode cX10_saysAt 32 = .ok (.iload_n 3, 1) := by decide +kernel
theorem dX10_saysAt_33 : decode cX10_saysAt 33 = .ok (.aload_n 0, 1) := by decide +kernel
theorem dX10_saysAt_34 : decode cX10_saysAt 34 = .ok (.getfield 27, 3) := by decide +kernel
theorem dX10_saysAt_37 : decode cX10_saysAt 37 = .ok (.iload_n 2, 1) := by decide +kernel
theorem dX10_saysAt_38 : decode cX10_saysAt 38 = .ok (.iaload, 1) := by decide +kernel
theorem dX10_saysAt_39 : decode cX10_saysAt 39 = .ok (.if_icmp .ge 24, 3) := by decide +kernel
theorem dX10_saysAt_42 : decode cX10_saysAt 42 = .ok (.aload_n 0, 1) := by decide +kernel
theorem dX10_saysAt_43 : decode cX10_saysAt 43 = .ok (.aload_n 0, 1) := by decide +kernel
theorem dX10_saysAt_44 : decode cX10_saysAt 44 = .ok (.getfield 21, 3) := by decide +kernel
theorem dX10_saysAt_47 : decode cX10_saysAt 47 = .ok (.bipush 6, 2) := by decide +kernel
theorem dX10_saysAt_49 : decode cX10_saysAt 49 = .ok (.iload_n 2, 1) := by decide +kernel
theorem dX10_saysAt_50 : decode cX10_saysAt 50 = .ok (.imul, 1) := by decide +kernel
theorem dX10_saysAt_51 : decode cX10_saysAt 51 = .ok (.iload_n 3, 1) := by decide +kernel
theorem dX10_saysAt_52 : decode cX10_saysAt 52 = .ok (.iadd, 1) := by decide +kernel
theorem dX10_saysAt_53 : decode cX10_saysAt 53 = .ok (.baload, 1) := by decide +kernel
theorem dX10_saysAt_54 : decode cX10_saysAt 54 = .ok (.invokevirtual 365, 3) := by decide +kernel
theorem dX10_saysAt_57 : decode cX10_saysAt 57 = .ok (.iinc 3 1, 3) := by decide +kernel
theorem dX10_saysAt_60 : decode cX10_saysAt 60 = .ok (.goto (-28), 3) := by decide +kernel
theorem dX10_saysAt_63 : decode cX10_saysAt 63 = .ok (.aload_n 0, 1) := by decide +kernel
theorem dX10_saysAt_64 : decode cX10_saysAt 64 = .ok (.iload_n 1, 1) := by decide +kernel
theorem dX10_saysAt_65 : decode cX10_saysAt 65 = .ok (.invokevirtual 209, 3) := by decide +kernel
theorem dX10_saysAt_68 : decode cX10_saysAt 68 = .ok (.istore_n 3, 1) := by decide +kernel
theorem dX10_saysAt_69 : decode cX10_saysAt 69 = .ok (.iload_n 1, 1) := by decide +kernel
theorem dX10_saysAt_70 : decode cX10_saysAt 70 = .ok (.iconst 1, 1) := by decide +kernel
theorem dX10_saysAt_71 : decode cX10_saysAt 71 = .ok (.iadd, 1) := by decide +kernel
theorem dX10_saysAt_72 : decode cX10_saysAt 72 = .ok (.istore 4, 2) := by decide +kernel
theorem dX10_saysAt_74 : decode cX10_saysAt 74 = .ok (.iconst 0, 1) := by decide +kernel
theorem dX10_saysAt_75 : decode cX10_saysAt 75 = .ok (.istore 5, 2) := by decide +kernel
theorem dX10_saysAt_77 : decode cX10_saysAt 77 = .ok (.iload 5, 2) := by decide +kernel
theorem dX10_saysAt_79 : decode cX10_saysAt 79 = .ok (.iload_n 3, 1) := by decide +kernel
theorem dX10_saysAt_80 : decode cX10_saysAt 80 = .ok (.if_icmp .ge 33, 3) := by decide +kernel
theorem dX10_saysAt_83 : decode cX10_saysAt 83 = .ok (.aload_n 0, 1) := by decide +kernel
theorem dX10_saysAt_84 : decode cX10_saysAt 84 = .ok (.iload 5, 2) := by decide +kernel
theorem dX10_saysAt_86 : decode cX10_saysAt 86 = .ok (.ifCond .ne 8, 3) := by decide +kernel
theorem dX10_saysAt_89 : decode cX10_saysAt 89 = .ok (.bipush 40, 2) := by decide +kernel
theorem dX10_saysAt_91 : decode cX10_saysAt 91 = .ok (.goto 5, 3) := by decide +kernel
theorem dX10_saysAt_94 : decode cX10_saysAt 94 = .ok (.bipush 44, 2) := by decide +kernel
theorem dX10_saysAt_96 : decode cX10_saysAt 96 = .ok (.invokevirtual 365, 3) := by decide +kernel
theorem dX10_saysAt_99 : decode cX10_saysAt 99 = .ok (.aload_n 0, 1) := by decide +kernel
theorem dX10_saysAt_100 : decode cX10_saysAt 100 = .ok (.iload 4, 2) := by decide +kernel
theorem dX10_saysAt_102 : decode cX10_saysAt 102 = .ok (.invokevirtual 368, 3) := by decide +kernel
theorem dX10_saysAt_105 : decode cX10_saysAt 105 = .ok (.istore 4, 2) := by decide +kernel
theorem dX10_saysAt_107 : decode cX10_saysAt 107 = .ok (.iinc 5 1, 3) := by decide +kernel
theorem dX10_saysAt_110 : decode cX10_saysAt 110 = .ok (.goto (-33), 3) := by decide +kernel
theorem dX10_saysAt_113 : decode cX10_saysAt 113 = .ok (.iload_n 3, 1) := by decide +kernel
theorem dX10_saysAt_114 : decode cX10_saysAt 114 = .ok (.ifCond .le 9, 3) := by decide +kernel
theorem dX10_saysAt_117 : decode cX10_saysAt 117 = .ok (.aload_n 0, 1) := by decide +kernel
theorem dX10_saysAt_118 : decode cX10_saysAt 118 = .ok (.bipush 41, 2) := by decide +kernel
theorem dX10_saysAt_120 : decode cX10_saysAt 120 = .ok (.invokevirtual 365, 3) := by decide +kernel
theorem dX10_saysAt_123 : decode cX10_saysAt 123 = .ok (.iload 4, 2) := by decide +kernel
theorem dX10_saysAt_125 : decode cX10_saysAt 125 = .ok (.ireturn, 1) := by decide +kernel
set_option maxRecDepth 20000 in
theorem ggX10_shows_X10_saysAt : GoodIn wsX10_shows wsX10_saysAt := goodIn_r _ [9, 4, 10, 11, 12, 13, 14, 8, 15, 16, 17, 18, 19, 20, 1, 21, 22, 23, 24, 5, 6, 7, 25, 26, 27, 28, 29, 30, 31, 32, 33, 34, 35, 36, 37, 38, 39, 40, 41, 42, 43, 44, 45, 46, 47, 48, 49, 50, 51, 52, 53, 54, 55, 56, 57, 58, 59, 60, 61, 62, 63, 64, 65, 66, 67, 68, 69, 70, 71, 72, 73, 74] rfl (by decide +kernel)
set_option maxRecDepth 20000 in
theorem gX10_shows_X10_saysAt : GoodIn wsX10_shows (wsV RX10 368 RX10 yX10_saysAt wsX10_saysAt) := goodIn_app (goodIn_of _ (by decide +kernel)) ggX10_shows_X10_saysAt
theorem dX10_shows_0 : decode cX10_shows 0 = .ok (.aload_n 0, 1) := by decide +kernel
theorem dX10_shows_1 : decode cX10_shows 1 = .ok (.iconst 0, 1) := by decide +kernel
theorem dX10_shows_2 : decode cX10_shows 2 = .ok (.putfield 206, 3) := by decide +kernel
theorem dX10_shows_5 : decode cX10_shows 5 = .ok (.aload_n 0, 1) := by decide +kernel
theorem dX10_shows_6 : decode cX10_shows 6 = .ok (.iconst 1, 1) := by decide +kernel
theorem dX10_shows_7 : decode cX10_shows 7 = .ok (.putfield 202, 3) := by decide +kernel
theorem dX10_shows_10 : decode cX10_shows 10 = .ok (.aload_n 0, 1) := by decide +kernel
theorem dX10_shows_11 : decode cX10_shows 11 = .ok (.iload_n 1, 1) := by decide +kernel
theorem dX10_shows_12 : decode cX10_shows 12 = .ok (.invokevirtual 368, 3) := by decide +kernel
theorem dX10_shows_15 : decode cX10_shows 15 = .ok (.istore_n 2, 1) := by decide +kernel
theorem dX10_shows_16 : decode cX10_shows 16 = .ok (.iload_n 1, 1) := by decide +kernel
theorem dX10_shows_17 : decode cX10_shows 17 = .ok (.istore_n 3, 1) := by decide +kernel
theorem dX10_shows_18 : decode cX10_shows 18 = .ok (.iload_n 3, 1) := by decide +kernel
theorem dX10_shows_19 : decode cX10_shows 19 = .ok (.iload_n 2, 1) := by decide +kernel
theorem dX10_shows_20 : decode cX10_shows 20 = .ok (.if_icmp .ge 23, 3) := by decide +kernel
theorem dX10_shows_23 : decode cX10_shows 23 = .ok (.aload_n 0, 1) := by decide +kernel
theorem dX10_shows_24 : decode cX10_shows 24 = .ok (.getfield 85, 3) := by decide +kernel
theorem dX10_shows_27 : decode cX10_shows 27 = .ok (.iload_n 3, 1) := by decide +kernel
theorem dX10_shows_28 : decode cX10_shows 28 = .ok (.iload_n 1, 1) := by decide +kernel
theorem dX10_shows_29 : decode cX10_shows 29 = .ok (.isub, 1) := by decide +kernel
theorem dX10_shows_30 : decode cX10_shows 30 = .ok (.aload_n 0, 1) := by decide +kernel
theorem dX10_shows_31 : decode cX10_shows 31 = .ok (.getfield 52, 3) := by decide +kernel
theorem dX10_shows_34 : decode cX10_shows 34 = .ok (.iload_n 3, 1) := by decide +kernel
theorem dX10_shows_35 : decode cX10_shows 35 = .ok (.iaload, 1) := by decide +kernel
theorem dX10_shows_36 : decode cX10_shows 36 = .ok (.iastore, 1) := by decide +kernel
theorem dX10_shows_37 : decode cX10_shows 37 = .ok (.iinc 3 1, 3) := by decide +kernel
theorem dX10_shows_40 : decode cX10_shows 40 = .ok (.goto (-22), 3) := by decide +kernel
theorem dX10_shows_43 : decode cX10_shows 43 = .ok (.aload_n 0, 1) := by decide +kernel
theorem dX10_shows_44 : decode cX10_shows 44 = .ok (.getfield 206, 3) := by decide +kernel
theorem dX10_shows_47 : decode cX10_shows 47 = .ok (.ireturn, 1) := by decide +kernel
set_option maxRecDepth 20000 in
theorem ggX10_show_X10_noTerm : GoodIn wsX10_show wsX10_noTerm := goodIn_r _ [6, 7, 8, 9, 5, 10, 11, 12, 13, 14, 1, 57, 58, 59, 60, 61, 62, 63, 64, 65, 66, 67, 68, 69, 70, 71, 72, 73, 74, 75, 76, 77, 78, 79, 80, 81, 82, 83, 84, 85, 86, 87, 88, 89, 90, 91, 92, 93, 94, 95, 96, 97, 98, 99, 100, 101, 102, 103, 104, 105, 106] rfl (by decide +kernel)
set_option maxRecDepth 20000 in
theorem gX10_show_X10_noTerm : GoodIn wsX10_show (wsV RX10 371 RX10 yX10_noTerm wsX10_noTerm) := goodIn_app (goodIn_of _ (by decide +kernel)) ggX10_show_X10_noTerm
set_option maxRecDepth 20000 in
theorem ggX10_show_X10_termAt : GoodIn wsX10_show wsX10_termAt := goodIn_r _ [18, 19, 20, 21, 22, 23, 5, 24, 25, 26, 27, 28, 29, 30, 31, 32, 33, 34, 57, 58, 59, 60, 61, 62, 63, 64, 65, 66, 67, 68, 69, 70, 71, 72, 73, 74, 75, 76, 77, 78, 79, 80, 81, 82, 83, 84, 85, 86, 87, 88, 89, 90, 91, 92, 93, 94, 95, 96, 97, 98, 99, 100, 101, 102, 103, 104, 105, 106] rfl (by decide +kernel)
set_option maxRecDepth 20000 in
theorem gX10_show_X10_termAt : GoodIn wsX10_show (wsV RX10 374 RX10 yX10_termAt wsX10_termAt) := goodIn_app (goodIn_of _ (by decide +kernel)) ggX10_show_X10_termAt
set_option maxRecDepth 20000 in
theorem ggX10_show_X10_shows : GoodIn wsX10_show wsX10_shows := goodIn_r _ [38, 39, 40, 41, 29, 42, 43, 44, 5, 45, 46, 47, 48, 49, 50, 51, 52, 53, 54, 55, 56, 31, 32, 33, 34, 57, 58, 59, 60, 61, 62, 63, 64, 65, 66, 67, 68, 69, 70, 71, 72, 73, 74, 75, 76, 77, 78, 79, 80, 81, 82, 83, 84, 85, 86, 87, 88, 89, 90, 91, 92, 93, 94, 95, 96, 97, 98, 99, 100, 101, 102, 103, 104, 105, 106] rfl (by decide +kernel)
set_option maxRecDepth 20000 in
theorem gX10_show_X10_shows : GoodIn wsX10_show (wsV RX10 377 RX10 yX10_shows wsX10_shows) := goodIn_app (goodIn_of _ (by decide +kernel)) ggX10_show_X10_shows
theorem dX10_show_0 : decode cX10_show 0 = .ok (.aload_n 0, 1) := by decide +kernel
theorem dX10_show_1 : decode cX10_show 1 = .ok (.iconst 0, 1) := by decide +kernel
theorem dX10_show_2 : decode cX10_show 2 = .ok (.putfield 100, 3) := by decide +kernel
theorem dX10_show_5 : decode cX10_show 5 = .ok (.aload_n 0, 1) := by decide +kernel
theorem dX10_show_6 : decode cX10_show 6 = .ok (.iload_n 1, 1) := by decide +kernel
theorem dX10_show_7 : decode cX10_show 7 = .ok (.invokevirtual 371, 3) := by decide +kernel
theorem dX10_show_10 : decode cX10_show 10 = .ok (.ifCond .eq 7, 3) := by decide +kernel
theorem dX10_show_13 : decode cX10_show 13 = .ok (.iconst 0, 1) := by decide +kernel
theorem dX10_show_14 : decode cX10_show 14 = .ok (.goto 12, 3) := by decide +kernel
theorem dX10_show_17 : decode cX10_show 17 = .ok (.aload_n 0, 1) := by decide +kernel
theorem dX10_show_18 : decode cX10_show 18 = .ok (.aload_n 0, 1) := by decide +kernel
theorem dX10_show_19 : decode cX10_show 19 = .ok (.iload_n 1, 1) := by decide +kernel
theorem dX10_show_20 : decode cX10_show 20 = .ok (.invokevirtual 374, 3) := by decide +kernel
theorem dX10_show_23 : decode cX10_show 23 = .ok (.invokevirtual 377, 3) := by decide +kernel
theorem dX10_show_26 : decode cX10_show 26 = .ok (.ireturn, 1) := by decide +kernel
set_option maxRecDepth 20000 in
theorem ggX10_place_X10_noTerm : GoodIn wsX10_place wsX10_noTerm := goodIn_r _ [6, 7, 8, 9, 5, 10, 11, 12, 13, 14, 1, 61, 62, 63, 64, 65, 66, 67, 68, 69, 70, 71, 72, 73, 74, 75, 76, 77, 78, 79, 80, 81, 82, 83, 84, 85, 86, 87, 88, 89, 90, 91, 92, 93, 94, 95, 96, 97, 98, 99, 100, 101, 102, 103, 104, 105, 106, 107, 108, 109, 110] rfl (by decide +kernel)
set_option maxRecDepth 20000 in
theorem gX10_place_X10_noTerm : GoodIn wsX10_place (wsV RX10 371 RX10 yX10_noTerm wsX10_noTerm) := goodIn_app (goodIn_of _ (by decide +kernel)) ggX10_place_X10_noTerm
set_option maxRecDepth 20000 in
theorem ggX10_place_X10_termAt : GoodIn wsX10_place wsX10_termAt := goodIn_r _ [18, 19, 20, 21, 22, 23, 5, 24, 25, 26, 27, 28, 29, 30, 31, 32, 33, 34, 61, 62, 63, 64, 65, 66, 67, 68, 69, 70, 71, 72, 73, 74, 75, 76, 77, 78, 79, 80, 81, 82, 83, 84, 85, 86, 87, 88, 89, 90, 91, 92, 93, 94, 95, 96, 97, 98, 99, 100, 101, 102, 103, 104, 105, 106, 107, 108, 109, 110] rfl (by decide +kernel)
set_option maxRecDepth 20000 in
theorem gX10_place_X10_termAt : GoodIn wsX10_place (wsV RX10 374 RX10 yX10_termAt wsX10_termAt) := goodIn_app (goodIn_of _ (by decide +kernel)) ggX10_place_X10_termAt
set_option maxRecDepth 20000 in
theorem ggX10_place_X10_behind : GoodIn wsX10_place wsX10_behind := goodIn_r _ [38, 31, 32, 33, 5, 34, 29, 61, 62, 63, 64, 65, 66, 67, 68, 69, 70, 71, 72, 73, 74, 75, 76, 77, 78, 79, 80, 81, 82, 83, 84, 85, 86, 87, 88, 89, 90, 91, 92, 93, 94, 95, 96, 97, 98, 99, 100, 101, 102, 103, 104, 105, 106, 107, 108, 109, 110] rfl (by decide +kernel)
set_option maxRecDepth 20000 in
theorem gX10_place_X10_behind : GoodIn wsX10_place (wsV RX10 213 RX10 yX10_behind wsX10_behind) := goodIn_app (goodIn_of _ (by decide +kernel)) ggX10_place_X10_behind
set_option maxRecDepth 20000 in
theorem ggX10_place_X10_in : GoodIn wsX10_place wsX10_in := goodIn_r _ [10] rfl (by decide +kernel)
set_option maxRecDepth 20000 in
theorem gX10_place_X10_in : GoodIn wsX10_place (va_wsS RX10 132 yX10_in wsX10_in) := goodIn_app (goodIn_of _ (by decide +kernel)) ggX10_place_X10_in
set_option maxRecDepth 20000 in
theorem ggX10_place_X10_throwsIf : GoodIn wsX10_place wsX10_throwsIf := goodIn_r _ [14, 1, 61, 62, 63, 64, 65, 66, 67, 68, 69, 70, 71, 72, 73, 74, 75, 76, 77, 78, 79, 80, 81, 82, 83, 84, 85, 86, 87, 88, 89, 90, 91, 92, 93, 94, 95, 96, 97, 98, 99, 100, 101, 102, 103, 104, 105, 106, 107, 108, 109, 110] rfl (by decide +kernel)
set_option maxRecDepth 20000 in
theorem gX10_place_X10_throwsIf : GoodIn wsX10_place (wsV RX10 264 RX10 yX10_throwsIf wsX10_throwsIf) := goodIn_app (goodIn_of _ (by decide +kernel)) ggX10_place_X10_throwsIf
set_option maxRecDepth 20000 in
theorem ggX10_place_X10_shows : GoodIn wsX10_place wsX10_shows := goodIn_r _ [42, 43, 44, 45, 29, 46, 47, 48, 5, 49, 50, 51, 52, 53, 54, 55, 56, 57, 58, 59, 60, 31, 32, 33, 34, 61, 62, 63, 64, 65, 66, 67, 68, 69, 70, 71, 72, 73, 74, 75, 76, 77, 78, 79, 80, 81, 82, 83, 84, 85, 86, 87, 88, 89, 90, 91, 92, 93, 94, 95, 96, 97, 98, 99, 100, 101, 102, 103, 104, 105, 106, 107, 108, 109, 110] rfl (by decide +kernel)
set_option maxRecDepth 20000 in
theorem gX10_place_X10_shows : GoodIn wsX10_place (wsV RX10 377 RX10 yX10_shows wsX10_shows) := goodIn_app (goodIn_of _ (by decide +kernel)) ggX10_place_X10_shows
theorem dX10_place_0 : decode cX10_place 0 = .ok (.aload_n 0, 1) := by decide +kernel
theorem dX10_place_1 : decode cX10_place 1 = .ok (.iconst 0, 1) := by decide +kernel
theorem dX10_place_2 : decode cX10_place 2 = .ok (.putfield 100, 3) := by decide +kernel
theorem dX10_place_5 : decode cX10_place 5 = .ok (.aload_n 0, 1) := by decide +kernel
theorem dX10_place_6 : decode cX10_place 6 = .ok (.iload_n 1, 1) := by decide +kernel
theorem dX10_place_7 : decode cX10_place 7 = .ok (.invokevirtual 371, 3) := by decide +kernel
theorem dX10_place_10 : decode cX10_place 10 = .ok (.ifCond .eq 5, 3) := by decide +kernel
theorem dX10_place_13 : decode cX10_place 13 = .ok (.iconst 0, 1) := by decide +kernel
theorem dX10_place_14 : decode cX10_place 14 = .ok (.ireturn, 1) := by decide +kernel
theorem dX10_place_15 : decode cX10_place 15 = .ok (.aload_n 0, 1) := by decide +kernel
theorem dX10_place_16 : decode cX10_place 16 = .ok (.iload_n 1, 1) := by decide +kernel
theorem dX10_place_17 : decode cX10_place 17 = .ok (.invokevirtual 374, 3) := by decide +kernel
theorem dX10_place_20 : decode cX10_place 20 = .ok (.istore_n 3, 1) := by decide +kernel
theorem dX10_place_21 : decode cX10_place 21 = .ok (.aload_n 0, 1) := by decide +kernel
theorem dX10_place_22 : decode cX10_place 22 = .ok (.iload_n 2, 1) := by decide +kernel
theorem dX10_place_23 : decode cX10_place 23 = .ok (.iconst 0, 1) := by decide +kernel
theorem dX10_place_24 : decode cX10_place 24 = .ok (.aload_n 0, 1) := by decide +kernel
theorem dX10_place_25 : decode cX10_place 25 = .ok (.iload_n 3, 1) := by decide +kernel
theorem dX10_place_26 : decode cX10_place 26 = .ok (.invokevirtual 213, 3) := by decide +kernel
theorem dX10_place_29 : decode cX10_place 29 = .ok (.iconst 1, 1) := by decide +kernel
theorem dX10_place_30 : decode cX10_place 30 = .ok (.isub, 1) := by decide +kernel
theorem dX10_place_31 : decode cX10_place 31 = .ok (.invokestatic 132, 3) := by decide +kernel
theorem dX10_place_34 : decode cX10_place 34 = .ok (.ifCond .ne 7, 3) := by decide +kernel
theorem dX10_place_37 : decode cX10_place 37 = .ok (.iconst 1, 1) := by decide +kernel
theorem dX10_place_38 : decode cX10_place 38 = .ok (.goto 4, 3) := by decide +kernel
theorem dX10_place_41 : decode cX10_place 41 = .ok (.iconst 0, 1) := by decide +kernel
theorem dX10_place_42 : decode cX10_place 42 = .ok (.iconst 2, 1) := by decide +kernel
theorem dX10_place_43 : decode cX10_place 43 = .ok (.invokevirtual 264, 3) := by decide +kernel
theorem dX10_place_46 : decode cX10_place 46 = .ok (.ifCond .eq 7, 3) := by decide +kernel
theorem dX10_place_49 : decode cX10_place 49 = .ok (.iconst 0, 1) := by decide +kernel
theorem dX10_place_50 : decode cX10_place 50 = .ok (.goto 10, 3) := by decide +kernel
theorem dX10_place_53 : decode cX10_place 53 = .ok (.aload_n 0, 1) := by decide +kernel
theorem dX10_place_54 : decode cX10_place 54 = .ok (.iload_n 3, 1) := by decide +kernel
theorem dX10_place_55 : decode cX10_place 55 = .ok (.iload_n 2, 1) := by decide +kernel
theorem dX10_place_56 : decode cX10_place 56 = .ok (.iadd, 1) := by decide +kernel
theorem dX10_place_57 : decode cX10_place 57 = .ok (.invokevirtual 377, 3) := by decide +kernel
theorem dX10_place_60 : decode cX10_place 60 = .ok (.ireturn, 1) := by decide +kernel
set_option maxRecDepth 20000 in
theorem ggX10_side_X10_noRule : GoodIn wsX10_side wsX10_noRule := goodIn_r _ [7, 8, 9, 10, 6, 11, 12, 13, 14, 15, 1, 52, 53, 54, 55, 56, 57, 58, 59, 60, 61, 62, 63, 64, 65, 66, 67, 68, 69, 70, 71, 72, 73, 74, 75, 76, 77, 78, 79, 80, 81, 82, 83, 84, 85, 86, 87, 88, 89, 90, 91, 92, 93, 94, 95, 96, 97, 98, 99, 100, 101] rfl (by decide +kernel)
set_option maxRecDepth 20000 in
theorem gX10_side_X10_noRule : GoodIn wsX10_side (wsV RX10 278 RX10 yX10_noRule wsX10_noRule) := goodIn_app (goodIn_of _ (by decide +kernel)) ggX10_side_X10_noRule
set_option maxRecDepth 20000 in
theorem ggX10_side_X10_rowOfRule : GoodIn wsX10_side wsX10_rowOfRule := goodIn_r _ [19] rfl (by decide +kernel)
set_option maxRecDepth 20000 in
theorem gX10_side_X10_rowOfRule : GoodIn wsX10_side (wsV RX10 271 RX10 yX10_rowOfRule wsX10_rowOfRule) := goodIn_app (goodIn_of _ (by decide +kernel)) ggX10_side_X10_rowOfRule
set_option maxRecDepth 20000 in
theorem ggX10_side_X10_comes : GoodIn wsX10_side wsX10_comes := goodIn_r _ [23, 2, 24, 25, 26, 27, 28, 6, 29, 52, 53, 54, 55, 56, 57, 58, 59, 60, 61, 62, 63, 64, 65, 66, 67, 68, 69, 70, 71, 72, 73, 74, 75, 76, 77, 78, 79, 80, 81, 82, 83, 84, 85, 86, 87, 88, 89, 90, 91, 92, 93, 94, 95, 96, 97, 98, 99, 100, 101] rfl (by decide +kernel)
set_option maxRecDepth 20000 in
theorem gX10_side_X10_comes : GoodIn wsX10_side (wsV RX10 245 RX10 yX10_comes wsX10_comes) := goodIn_app (goodIn_of _ (by decide +kernel)) ggX10_side_X10_comes
set_option maxRecDepth 20000 in
theorem ggX10_side_X10_shows : GoodIn wsX10_side wsX10_shows := goodIn_r _ [33, 34, 35, 36, 24, 37, 38, 39, 6, 40, 41, 42, 43, 44, 45, 46, 47, 48, 49, 50, 51, 26, 27, 28, 29, 52, 53, 54, 55, 56, 57, 58, 59, 60, 61, 62, 63, 64, 65, 66, 67, 68, 69, 70, 71, 72, 73, 74, 75, 76, 77, 78, 79, 80, 81, 82, 83, 84, 85, 86, 87, 88, 89, 90, 91, 92, 93, 94, 95, 96, 97, 98, 99, 100, 101] rfl (by decide +kernel)
set_option maxRecDepth 20000 in
theorem gX10_side_X10_shows : GoodIn wsX10_side (wsV RX10 377 RX10 yX10_shows wsX10_shows) := goodIn_app (goodIn_of _ (by decide +kernel)) ggX10_side_X10_shows
theorem dX10_side_0 : decode cX10_side 0 = .ok (.aload_n 0, 1) := by decide +kernel
theorem dX10_side_1 : decode cX10_side 1 = .ok (.iconst 0, 1) := by decide +kernel
theorem dX10_side_2 : decode cX10_side 2 = .ok (.putfield 100, 3) := by decide +kernel
theorem dX10_side_5 : decode cX10_side 5 = .ok (.aload_n 0, 1) := by decide +kernel
theorem dX10_side_6 : decode cX10_side 6 = .ok (.iload_n 1, 1) := by decide +kernel
theorem dX10_side_7 : decode cX10_side 7 = .ok (.invokevirtual 278, 3) := by decide +kernel
theorem dX10_side_10 : decode cX10_side 10 = .ok (.ifCond .eq 5, 3) := by decide +kernel
theorem dX10_side_13 : decode cX10_side 13 = .ok (.iconst 0, 1) := by decide +kernel
theorem dX10_side_14 : decode cX10_side 14 = .ok (.ireturn, 1) := by decide +kernel
theorem dX10_side_15 : decode cX10_side 15 = .ok (.aload_n 0, 1) := by decide +kernel
theorem dX10_side_16 : decode cX10_side 16 = .ok (.iconst 0, 1) := by decide +kernel
theorem dX10_side_17 : decode cX10_side 17 = .ok (.putfield 178, 3) := by decide +kernel
theorem dX10_side_20 : decode cX10_side 20 = .ok (.aload_n 0, 1) := by decide +kernel
theorem dX10_side_21 : decode cX10_side 21 = .ok (.aload_n 0, 1) := by decide +kernel
theorem dX10_side_22 : decode cX10_side 22 = .ok (.aload_n 0, 1) := by decide +kernel
theorem dX10_side_23 : decode cX10_side 23 = .ok (.iload_n 1, 1) := by decide +kernel
theorem dX10_side_24 : decode cX10_side 24 = .ok (.iload_n 2, 1) := by decide +kernel
theorem dX10_side_25 : decode cX10_side 25 = .ok (.invokevirtual 271, 3) := by decide +kernel
theorem dX10_side_28 : decode cX10_side 28 = .ok (.invokevirtual 245, 3) := by decide +kernel
theorem dX10_side_31 : decode cX10_side 31 = .ok (.invokevirtual 377, 3) := by decide +kernel
theorem dX10_side_34 : decode cX10_side 34 = .ok (.ireturn, 1) := by decide +kernel
set_option maxRecDepth 20000 in
theorem ggX10_octet_X10_in : GoodIn wsX10_octet wsX10_in := goodIn_r _ [7] rfl (by decide +kernel)
set_option maxRecDepth 20000 in
theorem gX10_octet_X10_in : GoodIn wsX10_octet (va_wsS RX10 132 yX10_in wsX10_in) := goodIn_app (goodIn_of _ (by decide +kernel)) ggX10_octet_X10_in
theorem dX10_octet_0 : decode cX10_octet 0 = .ok (.aload_n 0, 1) := by decide +kernel
theorem dX10_octet_1 : decode cX10_octet 1 = .ok (.iconst 0, 1) := by decide +kernel
theorem dX10_octet_2 : decode cX10_octet 2 = .ok (.putfield 100, 3) := by decide +kernel
theorem dX10_octet_5 : decode cX10_octet 5 = .ok (.iload_n 1, 1) := by decide +kernel
theorem dX10_octet_6 : decode cX10_octet 6 = .ok (.iconst 0, 1) := by decide +kernel
theorem dX10_octet_7 : decode cX10_octet 7 = .ok (.aload_n 0, 1) := by decide +kernel
theorem dX10_octet_8 : decode cX10_octet 8 = .ok (.getfield 206, 3) := by decide +kernel
theorem dX10_octet_11 : decode cX10_octet 11 = .ok (.iconst 1, 1) := by decide +kernel
theorem dX10_octet_12 : decode cX10_octet 12 = .ok (.isub, 1) := by decide +kernel
theorem dX10_octet_13 : decode cX10_octet 13 = .ok (.invokestatic 132, 3) := by decide +kernel
theorem dX10_octet_16 : decode cX10_octet 16 = .ok (.ifCond .eq 12, 3) := by decide +kernel
theorem dX10_octet_19 : decode cX10_octet 19 = .ok (.aload_n 0, 1) := by decide +kernel
theorem dX10_octet_20 : decode cX10_octet 20 = .ok (.getfield 88, 3) := by decide +kernel
theorem dX10_octet_23 : decode cX10_octet 23 = .ok (.iload_n 1, 1) := by decide +kernel
theorem dX10_octet_24 : decode cX10_octet 24 = .ok (.baload, 1) := by decide +kernel
theorem dX10_octet_25 : decode cX10_octet 25 = .ok (.goto 4, 3) := by decide +kernel
theorem dX10_octet_28 : decode cX10_octet 28 = .ok (.iconst (-1), 1) := by decide +kernel
theorem dX10_octet_29 : decode cX10_octet 29 = .ok (.ireturn, 1) := by decide +kernel
set_option maxRecDepth 20000 in
theorem ggX10_keep_X10_throwsIf : GoodIn wsX10_keep wsX10_throwsIf := goodIn_r _ [10, 1, 45, 46, 47, 48, 49, 50, 51, 52, 53, 54, 55, 56, 57, 58, 59, 60, 61, 62, 63, 64, 65, 66, 67, 68, 69, 70, 71, 72, 73, 74, 75, 76, 77, 78, 79, 80, 81, 82, 83, 84, 85, 86, 87, 88, 89, 90, 91, 92, 93, 94] rfl (by decide +kernel)
set_option maxRecDepth 20000 in
theorem gX10_keep_X10_throwsIf : GoodIn wsX10_keep (wsV RX10 264 RX10 yX10_throwsIf wsX10_throwsIf) := goodIn_app (goodIn_of _ (by decide +kernel)) ggX10_keep_X10_throwsIf
set_option maxRecDepth 20000 in
theorem ggX10_keep_X10_partsAt : GoodIn wsX10_keep wsX10_partsAt := goodIn_r _ [14, 4, 45, 46, 47, 48, 49, 50, 51, 52, 53, 54, 55, 56, 57, 58, 59, 60, 61, 62, 63, 64, 65, 66, 67, 68, 69, 70, 71, 72, 73, 74, 75, 76, 77, 78, 79, 80, 81, 82, 83, 84, 85, 86, 87, 88, 89, 90, 91, 92, 93, 94] rfl (by decide +kernel)
set_option maxRecDepth 20000 in
theorem gX10_keep_X10_partsAt : GoodIn wsX10_keep (wsV RX10 209 RX10 yX10_partsAt wsX10_partsAt) := goodIn_app (goodIn_of _ (by decide +kernel)) ggX10_keep_X10_partsAt
set_option maxRecDepth 20000 in
theorem ggX10_keep_X10_told : GoodIn wsX10_keep wsX10_told := goodIn_r _ [18, 3, 19, 20, 21, 22, 9, 23, 24, 25, 26, 27, 4, 28, 11, 12, 13, 14, 29, 30, 31, 32, 33, 34, 35, 36, 37, 38, 39, 40, 41, 42, 43, 44, 45, 46, 47, 48, 49, 50, 51, 52, 53, 54, 55, 56, 57, 58, 59, 60, 61, 62, 63, 64, 65, 66, 67, 68, 69, 70, 71, 72, 73, 74, 75, 76, 77, 78, 79, 80, 81, 82, 83, 84, 85, 86, 87, 88, 89, 90, 91, 92, 93, 94] rfl (by decide +kernel)
set_option maxRecDepth 20000 in
theorem gX10_keep_X10_told : GoodIn wsX10_keep (wsV RX10 261 RX10 yX10_told wsX10_told) := goodIn_app (goodIn_of _ (by decide +kernel)) ggX10_keep_X10_told
theorem dX10_keep_0 : decode cX10_keep 0 = .ok (.aload_n 0, 1) := by decide +kernel
theorem dX10_keep_1 : decode cX10_keep 1 = .ok (.iconst 0, 1) := by decide +kernel
theorem dX10_keep_2 : decode cX10_keep 2 = .ok (.putfield 100, 3) := by decide +kernel
theorem dX10_keep_5 : decode cX10_keep 5 = .ok (.aload_n 0, 1) := by decide +kernel
theorem dX10_keep_6 : decode cX10_keep 6 = .ok (.aload_n 0, 1) := by decide +kernel
theorem dX10_keep_7 : decode cX10_keep 7 = .ok (.getfield 202, 3) := by decide +kernel
theorem dX10_keep_10 : decode cX10_keep 10 = .ok (.ifCond .ne 7, 3) := by decide +kernel
theorem dX10_keep_13 : decode cX10_keep 13 = .ok (.iconst 1, 1) := by decide +kernel
theorem dX10_keep_14 : decode cX10_keep 14 = .ok (.goto 4, 3) := by decide +kernel
theorem dX10_keep_17 : decode cX10_keep 17 = .ok (.iconst 0, 1) := by decide +kernel
theorem dX10_keep_18 : decode cX10_keep 18 = .ok (.iconst 1, 1) := by decide +kernel
theorem dX10_keep_19 : decode cX10_keep 19 = .ok (.invokevirtual 264, 3) := by decide +kernel
theorem dX10_keep_22 : decode cX10_keep 22 = .ok (.ifCond .eq 5, 3) := by decide +kernel
theorem dX10_keep_25 : decode cX10_keep 25 = .ok (.iconst 0, 1) := by decide +kernel
theorem dX10_keep_26 : decode cX10_keep 26 = .ok (.ireturn, 1) := by decide +kernel
theorem dX10_keep_27 : decode cX10_keep 27 = .ok (.iconst 1, 1) := by decide +kernel
theorem dX10_keep_28 : decode cX10_keep 28 = .ok (.istore_n 1, 1) := by decide +kernel
theorem dX10_keep_29 : decode cX10_keep 29 = .ok (.aload_n 0, 1) := by decide +kernel
theorem dX10_keep_30 : decode cX10_keep 30 = .ok (.iconst 0, 1) := by decide +kernel
theorem dX10_keep_31 : decode cX10_keep 31 = .ok (.putfield 178, 3) := by decide +kernel
theorem dX10_keep_34 : decode cX10_keep 34 = .ok (.iconst 0, 1) := by decide +kernel
theorem dX10_keep_35 : decode cX10_keep 35 = .ok (.istore_n 2, 1) := by decide +kernel
theorem dX10_keep_36 : decode cX10_keep 36 = .ok (.iload_n 1, 1) := by decide +kernel
theorem dX10_keep_37 : decode cX10_keep 37 = .ok (.ifCond .le 47, 3) := by decide +kernel
theorem dX10_keep_40 : decode cX10_keep 40 = .ok (.aload_n 0, 1) := by decide +kernel
theorem dX10_keep_41 : decode cX10_keep 41 = .ok (.getfield 52, 3) := by decide +kernel
theorem dX10_keep_44 : decode cX10_keep 44 = .ok (.aload_n 0, 1) := by decide +kernel
theorem dX10_keep_45 : decode cX10_keep 45 = .ok (.getfield 178, 3) := by decide +kernel
theorem dX10_keep_48 : decode cX10_keep 48 = .ok (.aload_n 0, 1) := by decide +kernel
theorem dX10_keep_49 : decode cX10_keep 49 = .ok (.getfield 85, 3) := by decide +kernel
theorem dX10_keep_52 : decode cX10_keep 52 = .ok (.iload_n 2, 1) := by decide +kernel
theorem dX10_keep_53 : decode cX10_keep 53 = .ok (.iaload, 1) := by decide +kernel
theorem dX10_keep_54 : decode cX10_keep 54 = .ok (.iastore, 1) := by decide +kernel
theorem dX10_keep_55 : decode cX10_keep 55 = .ok (.iload_n 1, 1) := by decide +kernel
theorem dX10_keep_56 : decode cX10_keep 56 = .ok (.aload_n 0, 1) := by decide +kernel
theorem dX10_keep_57 : decode cX10_keep 57 = .ok (.aload_n 0, 1) := by decide +kernel
theorem dX10_keep_58 : decode cX10_keep 58 = .ok (.getfield 178, 3) := by decide +kernel
theorem dX10_keep_61 : decode cX10_keep 61 = .ok (.invokevirtual 209, 3) := by decide +kernel
theorem dX10_keep_64 : decode cX10_keep 64 = .ok (.iconst 1, 1) := by decide +kernel
theorem dX10_keep_65 : decode cX10_keep 65 = .ok (.isub, 1) := by decide +kernel
theorem dX10_keep_66 : decode cX10_keep 66 = .ok (.iadd, 1) := by decide +kernel
theorem dX10_keep_67 : decode cX10_keep 67 = .ok (.istore_n 1, 1) := by decide +kernel
theorem dX10_keep_68 : decode cX10_keep 68 = .ok (.aload_n 0, 1) := by decide +kernel
theorem dX10_keep_69 : decode cX10_keep 69 = .ok (.dup, 1) := by decide +kernel
theorem dX10_keep_70 : decode cX10_keep 70 = .ok (.getfield 178, 3) := by decide +kernel
theorem dX10_keep_73 : decode cX10_keep 73 = .ok (.iconst 1, 1) := by decide +kernel
theorem dX10_keep_74 : decode cX10_keep 74 = .ok (.iadd, 1) := by decide +kernel
theorem dX10_keep_75 : decode cX10_keep 75 = .ok (.putfield 178, 3) := by decide +kernel
theorem dX10_keep_78 : decode cX10_keep 78 = .ok (.iinc 2 1, 3) := by decide +kernel
theorem dX10_keep_81 : decode cX10_keep 81 = .ok (.goto (-45), 3) := by decide +kernel
theorem dX10_keep_84 : decode cX10_keep 84 = .ok (.aload_n 0, 1) := by decide +kernel
theorem dX10_keep_85 : decode cX10_keep 85 = .ok (.iconst 0, 1) := by decide +kernel
theorem dX10_keep_86 : decode cX10_keep 86 = .ok (.invokevirtual 261, 3) := by decide +kernel
theorem dX10_keep_89 : decode cX10_keep 89 = .ok (.istore_n 2, 1) := by decide +kernel
theorem dX10_keep_90 : decode cX10_keep 90 = .ok (.aload_n 0, 1) := by decide +kernel
theorem dX10_keep_91 : decode cX10_keep 91 = .ok (.iload_n 2, 1) := by decide +kernel
theorem dX10_keep_92 : decode cX10_keep 92 = .ok (.iconst (-1), 1) := by decide +kernel
theorem dX10_keep_93 : decode cX10_keep 93 = .ok (.if_icmp .ne 7, 3) := by decide +kernel
theorem dX10_keep_96 : decode cX10_keep 96 = .ok (.iconst 1, 1) := by decide +kernel
theorem dX10_keep_97 : decode cX10_keep 97 = .ok (.goto 4, 3) := by decide +kernel
theorem dX10_keep_100 : decode cX10_keep 100 = .ok (.iconst 0, 1) := by decide +kernel
theorem dX10_keep_101 : decode cX10_keep 101 = .ok (.iconst 1, 1) := by decide +kernel
theorem dX10_keep_102 : decode cX10_keep 102 = .ok (.invokevirtual 264, 3) := by decide +kernel
theorem dX10_keep_105 : decode cX10_keep 105 = .ok (.ifCond .eq 7, 3) := by decide +kernel
theorem dX10_keep_108 : decode cX10_keep 108 = .ok (.iconst 0, 1) := by decide +kernel
theorem dX10_keep_109 : decode cX10_keep 109 = .ok (.goto 4, 3) := by decide +kernel
theorem dX10_keep_112 : decode cX10_keep 112 = .ok (.iload_n 2, 1) := by decide +kernel
theorem dX10_keep_113 : decode cX10_keep 113 = .ok (.ireturn, 1) := by decide +kernel
set_option maxRecDepth 20000 in
theorem ggX10_matches_X10_noTerm : GoodIn wsX10_matches wsX10_noTerm := goodIn_r _ [7, 8, 9, 10, 6, 11, 12, 13, 14, 15, 1, 131, 132, 133, 134, 135, 136, 137, 138, 139, 140, 141, 142, 143, 144, 145, 146, 147, 148, 149, 150, 151, 152, 153, 154, 155, 156, 157, 158, 159, 160, 161, 162, 163, 164, 165, 166, 167, 168, 169, 170, 171, 172, 173, 174, 175, 176, 177, 178, 179, 180] rfl (by decide +kernel)
set_option maxRecDepth 20000 in
theorem gX10_matches_X10_noTerm : GoodIn wsX10_matches (wsV RX10 371 RX10 yX10_noTerm wsX10_noTerm) := goodIn_app (goodIn_of _ (by decide +kernel)) ggX10_matches_X10_noTerm
set_option maxRecDepth 20000 in
theorem ggX10_matches_X10_termAt : GoodIn wsX10_matches wsX10_termAt := goodIn_r _ [19, 20, 21, 22, 23, 24, 6, 25, 26, 27, 28, 29, 30, 31, 32, 33, 34, 35, 131, 132, 133, 134, 135, 136, 137, 138, 139, 140, 141, 142, 143, 144, 145, 146, 147, 148, 149, 150, 151, 152, 153, 154, 155, 156, 157, 158, 159, 160, 161, 162, 163, 164, 165, 166, 167, 168, 169, 170, 171, 172, 173, 174, 175, 176, 177, 178, 179, 180] rfl (by decide +kernel)
set_option maxRecDepth 20000 in
theorem gX10_matches_X10_termAt : GoodIn wsX10_matches (wsV RX10 374 RX10 yX10_termAt wsX10_termAt) := goodIn_app (goodIn_of _ (by decide +kernel)) ggX10_matches_X10_termAt
set_option maxRecDepth 20000 in
theorem ggX10_matches_X10_rowOfTerm : GoodIn wsX10_matches wsX10_rowOfTerm := goodIn_r _ [25] rfl (by decide +kernel)
set_option maxRecDepth 20000 in
theorem gX10_matches_X10_rowOfTerm : GoodIn wsX10_matches (wsV RX10 242 RX10 yX10_rowOfTerm wsX10_rowOfTerm) := goodIn_app (goodIn_of _ (by decide +kernel)) ggX10_matches_X10_rowOfTerm
set_option maxRecDepth 20000 in
theorem ggX10_matches_X10_comes : GoodIn wsX10_matches wsX10_comes := goodIn_r _ [29, 20, 30, 31, 32, 33, 34, 6, 35, 131, 132, 133, 134, 135, 136, 137, 138, 139, 140, 141, 142, 143, 144, 145, 146, 147, 148, 149, 150, 151, 152, 153, 154, 155, 156, 157, 158, 159, 160, 161, 162, 163, 164, 165, 166, 167, 168, 169, 170, 171, 172, 173, 174, 175, 176, 177, 178, 179, 180] rfl (by decide +kernel)
set_option maxRecDepth 20000 in
theorem gX10_matches_X10_comes : GoodIn wsX10_matches (wsV RX10 245 RX10 yX10_comes wsX10_comes) := goodIn_app (goodIn_of _ (by decide +kernel)) ggX10_matches_X10_comes
set_option maxRecDepth 20000 in
theorem ggX10_matches_X10_laysMatches : GoodIn wsX10_matches wsX10_laysMatches := goodIn_r _ [39, 2, 40, 41, 42, 43, 44, 45, 6, 46, 30, 47, 48, 49, 50, 32, 33, 34, 35, 51, 52, 53, 54, 55, 56, 57, 58, 59, 60, 21, 61, 62, 63, 64, 65, 66, 67, 68, 69, 70, 71, 72, 73, 74, 75, 76, 77, 78, 79, 80, 81, 82, 83, 84, 85, 86, 87, 88, 89, 90, 91, 92, 93, 94, 95, 96, 97, 98, 99, 100, 101, 102, 103, 104, 105, 106, 107, 108, 109, 110, 20, 111, 112, 113, 114, 115, 116, 117, 118, 119, 120, 121, 122, 123, 124, 125, 126, 131, 132, 133, 134, 135, 136, 137, 138, 139, 140, 141, 142, 143, 144, 145, 146, 147, 148, 149, 150, 151, 152, 153, 154, 155, 156, 157, 158, 159, 160, 161, 162, 163, 164, 165, 166, 167, 168, 169, 170, 171, 172, 173, 174, 175, 176, 177, 178, 179, 180] rfl (by decide +kernel)
set_option maxRecDepth 20000 in
theorem gX10_matches_X10_laysMatches : GoodIn wsX10_matches (wsV RX10 356 RX10 yX10_laysMatches wsX10_laysMatches) := goodIn_app (goodIn_of _ (by decide +kernel)) ggX10_matches_X10_laysMatches
set_option maxRecDepth 20000 in
theorem ggX10_matches_X10_tooMuch : GoodIn wsX10_matches wsX10_tooMuch := goodIn_r _ [130, 21, 12, 13, 14, 6, 15, 1, 131, 132, 133, 134, 135, 136, 137, 138, 139, 140, 141, 142, 143, 144, 145, 146, 147, 148, 149, 150, 151, 152, 153, 154, 155, 156, 157, 158, 159, 160, 161, 162, 163, 164, 165, 166, 167, 168, 169, 170, 171, 172, 173, 174, 175, 176, 177, 178, 179, 180] rfl (by decide +kernel)
set_option maxRecDepth 20000 in
theorem gX10_matches_X10_tooMuch : GoodIn wsX10_matches (wsV RX10 380 RX10 yX10_tooMuch wsX10_tooMuch) := goodIn_app (goodIn_of _ (by decide +kernel)) ggX10_matches_X10_tooMuch
theorem dX10_matches_0 : decode cX10_matches 0 = .ok (.aload_n 0, 1) := by decide +kernel
theorem dX10_matches_1 : decode cX10_matches 1 = .ok (.iconst 0, 1) := by decide +kernel
theorem dX10_matches_2 : decode cX10_matches 2 = .ok (.putfield 100, 3) := by decide +kernel
theorem dX10_matches_5 : decode cX10_matches 5 = .ok (.aload_n 0, 1) := by decide +kernel
theorem dX10_matches_6 : decode cX10_matches 6 = .ok (.iload_n 1, 1) := by decide +kernel
theorem dX10_matches_7 : decode cX10_matches 7 = .ok (.invokevirtual 371, 3) := by decide +kernel
theorem dX10_matches_10 : decode cX10_matches 10 = .ok (.ifCond .ne 11, 3) := by decide +kernel
theorem dX10_matches_13 : decode cX10_matches 13 = .ok (.aload_n 0, 1) := by decide +kernel
theorem dX10_matches_14 : decode cX10_matches 14 = .ok (.iload_n 2, 1) := by decide +kernel
theorem dX10_matches_15 : decode cX10_matches 15 = .ok (.invokevirtual 371, 3) := by decide +kernel
theorem dX10_matches_18 : decode cX10_matches 18 = .ok (.ifCond .eq 5, 3) := by decide +kernel
theorem dX10_matches_21 : decode cX10_matches 21 = .ok (.iconst 0, 1) := by decide +kernel
theorem dX10_matches_22 : decode cX10_matches 22 = .ok (.ireturn, 1) := by decide +kernel
theorem dX10_matches_23 : decode cX10_matches 23 = .ok (.aload_n 0, 1) := by decide +kernel
theorem dX10_matches_24 : decode cX10_matches 24 = .ok (.iload_n 1, 1) := by decide +kernel
theorem dX10_matches_25 : decode cX10_matches 25 = .ok (.invokevirtual 374, 3) := by decide +kernel
theorem dX10_matches_28 : decode cX10_matches 28 = .ok (.istore_n 3, 1) := by decide +kernel
theorem dX10_matches_29 : decode cX10_matches 29 = .ok (.aload_n 0, 1) := by decide +kernel
theorem dX10_matches_30 : decode cX10_matches 30 = .ok (.iload_n 3, 1) := by decide +kernel
theorem dX10_matches_31 : decode cX10_matches 31 = .ok (.aload_n 0, 1) := by decide +kernel
theorem dX10_matches_32 : decode cX10_matches 32 = .ok (.aload_n 0, 1) := by decide +kernel
theorem dX10_matches_33 : decode cX10_matches 33 = .ok (.iload_n 2, 1) := by decide +kernel
theorem dX10_matches_34 : decode cX10_matches 34 = .ok (.invokevirtual 242, 3) := by decide +kernel
theorem dX10_matches_37 : decode cX10_matches 37 = .ok (.invokevirtual 245, 3) := by decide +kernel
theorem dX10_matches_40 : decode cX10_matches 40 = .ok (.invokevirtual 356, 3) := by decide +kernel
theorem dX10_matches_43 : decode cX10_matches 43 = .ok (.aload_n 0, 1) := by decide +kernel
theorem dX10_matches_44 : decode cX10_matches 44 = .ok (.iconst 2, 1) := by decide +kernel
theorem dX10_matches_45 : decode cX10_matches 45 = .ok (.invokevirtual 380, 3) := by decide +kernel
theorem dX10_matches_48 : decode cX10_matches 48 = .ok (.ifCond .eq 7, 3) := by decide +kernel
theorem dX10_matches_51 : decode cX10_matches 51 = .ok (.iconst 0, 1) := by decide +kernel
theorem dX10_matches_52 : decode cX10_matches 52 = .ok (.goto 7, 3) := by decide +kernel
theorem dX10_matches_55 : decode cX10_matches 55 = .ok (.aload_n 0, 1) := by decide +kernel
theorem dX10_matches_56 : decode cX10_matches 56 = .ok (.getfield 287, 3) := by decide +kernel
theorem dX10_matches_59 : decode cX10_matches 59 = .ok (.ireturn, 1) := by decide +kernel
set_option maxRecDepth 20000 in
theorem ggX10_noVariable_X10_in : GoodIn wsX10_noVariable wsX10_in := goodIn_r _ [5] rfl (by decide +kernel)
set_option maxRecDepth 20000 in
theorem gX10_noVariable_X10_in : GoodIn wsX10_noVariable (va_wsS RX10 132 yX10_in wsX10_in) := goodIn_app (goodIn_of _ (by decide +kernel)) ggX10_noVariable_X10_in
set_option maxRecDepth 20000 in
theorem ggX10_noVariable_X10_throwsIf : GoodIn wsX10_noVariable wsX10_throwsIf := goodIn_r _ [9, 10, 11, 12, 13, 14, 15, 16, 17, 18, 19, 20, 21, 22, 23, 24, 25, 26, 27, 28, 29, 30, 31, 32, 33, 34, 35, 36, 37, 38, 39, 40, 41, 42, 43, 44, 45, 46, 47, 48, 49, 50, 51, 52, 53, 54, 55, 56, 57, 58, 59, 60] rfl (by decide +kernel)
set_option maxRecDepth 20000 in
theorem gX10_noVariable_X10_throwsIf : GoodIn wsX10_noVariable (wsV RX10 264 RX10 yX10_throwsIf wsX10_throwsIf) := goodIn_app (goodIn_of _ (by decide +kernel)) ggX10_noVariable_X10_throwsIf
theorem dX10_noVariable_0 : decode cX10_noVariable 0 = .ok (.aload_n 0, 1) := by decide +kernel
theorem dX10_noVariable_1 : decode cX10_noVariable 1 = .ok (.iload_n 1, 1) := by decide +kernel
theorem dX10_noVariable_2 : decode cX10_noVariable 2 = .ok (.iconst 0, 1) := by decide +kernel
theorem dX10_noVariable_3 : decode cX10_noVariable 3 = .ok (.aload_n 0, 1) := by decide +kernel
theorem dX10_noVariable_4 : decode cX10_noVariable 4 = .ok (.getfield 193, 3) := by decide +kernel
theorem dX10_noVariable_7 : decode cX10_noVariable 7 = .ok (.iconst 1, 1) := by decide +kernel
theorem dX10_noVariable_8 : decode cX10_noVariable 8 = .ok (.isub, 1) := by decide +kernel
theorem dX10_noVariable_9 : decode cX10_noVariable 9 = .ok (.invokestatic 132, 3) := by decide +kernel
theorem dX10_noVariable_12 : decode cX10_noVariable 12 = .ok (.ifCond .ne 7, 3) := by decide +kernel
theorem dX10_noVariable_15 : decode cX10_noVariable 15 = .ok (.iconst 1, 1) := by decide +kernel
theorem dX10_noVariable_16 : decode cX10_noVariable 16 = .ok (.goto 4, 3) := by decide +kernel
theorem dX10_noVariable_19 : decode cX10_noVariable 19 = .ok (.iconst 0, 1) := by decide +kernel
theorem dX10_noVariable_20 : decode cX10_noVariable 20 = .ok (.iconst 1, 1) := by decide +kernel
theorem dX10_noVariable_21 : decode cX10_noVariable 21 = .ok (.invokevirtual 264, 3) := by decide +kernel
theorem dX10_noVariable_24 : decode cX10_noVariable 24 = .ok (.ireturn, 1) := by decide +kernel
set_option maxRecDepth 20000 in
theorem ggX10_bound_X10_noTerm : GoodIn wsX10_bound wsX10_noTerm := goodIn_r _ [10, 11, 12, 13, 9, 14, 15, 16, 17, 18, 1, 167, 168, 169, 170, 171, 172, 173, 174, 175, 176, 177, 178, 179, 180, 181, 182, 183, 184, 185, 186, 187, 188, 189, 190, 191, 192, 193, 194, 195, 196, 197, 198, 199, 200, 201, 202, 203, 204, 205, 206, 207, 208, 209, 210, 211, 212, 213, 214, 215, 216] rfl (by decide +kernel)
set_option maxRecDepth 20000 in
theorem gX10_bound_X10_noTerm : GoodIn wsX10_bound (wsV RX10 371 RX10 yX10_noTerm wsX10_noTerm) := goodIn_app (goodIn_of _ (by decide +kernel)) ggX10_bound_X10_noTerm
set_option maxRecDepth 20000 in
theorem ggX10_bound_X10_noVariable : GoodIn wsX10_bound wsX10_noVariable := goodIn_r _ [22, 23, 12, 13, 9, 14, 15, 16, 17, 18, 1, 167, 168, 169, 170, 171, 172, 173, 174, 175, 176, 177, 178, 179, 180, 181, 182, 183, 184, 185, 186, 187, 188, 189, 190, 191, 192, 193, 194, 195, 196, 197, 198, 199, 200, 201, 202, 203, 204, 205, 206, 207, 208, 209, 210, 211, 212, 213, 214, 215, 216] rfl (by decide +kernel)
set_option maxRecDepth 20000 in
theorem gX10_bound_X10_noVariable : GoodIn wsX10_bound (wsV RX10 383 RX10 yX10_noVariable wsX10_noVariable) := goodIn_app (goodIn_of _ (by decide +kernel)) ggX10_bound_X10_noVariable
set_option maxRecDepth 20000 in
theorem ggX10_bound_X10_termAt : GoodIn wsX10_bound wsX10_termAt := goodIn_r _ [27, 4, 28, 29, 30, 31, 9, 32, 33, 34, 35, 36, 5, 37, 38, 39, 40, 41, 167, 168, 169, 170, 171, 172, 173, 174, 175, 176, 177, 178, 179, 180, 181, 182, 183, 184, 185, 186, 187, 188, 189, 190, 191, 192, 193, 194, 195, 196, 197, 198, 199, 200, 201, 202, 203, 204, 205, 206, 207, 208, 209, 210, 211, 212, 213, 214, 215, 216] rfl (by decide +kernel)
set_option maxRecDepth 20000 in
theorem gX10_bound_X10_termAt : GoodIn wsX10_bound (wsV RX10 374 RX10 yX10_termAt wsX10_termAt) := goodIn_app (goodIn_of _ (by decide +kernel)) ggX10_bound_X10_termAt
set_option maxRecDepth 20000 in
theorem ggX10_bound_X10_rowOfTerm : GoodIn wsX10_bound wsX10_rowOfTerm := goodIn_r _ [32] rfl (by decide +kernel)
set_option maxRecDepth 20000 in
theorem gX10_bound_X10_rowOfTerm : GoodIn wsX10_bound (wsV RX10 242 RX10 yX10_rowOfTerm wsX10_rowOfTerm) := goodIn_app (goodIn_of _ (by decide +kernel)) ggX10_bound_X10_rowOfTerm
set_option maxRecDepth 20000 in
theorem ggX10_bound_X10_comes : GoodIn wsX10_bound wsX10_comes := goodIn_r _ [36, 4, 5, 37, 38, 39, 40, 9, 41, 167, 168, 169, 170, 171, 172, 173, 174, 175, 176, 177, 178, 179, 180, 181, 182, 183, 184, 185, 186, 187, 188, 189, 190, 191, 192, 193, 194, 195, 196, 197, 198, 199, 200, 201, 202, 203, 204, 205, 206, 207, 208, 209, 210, 211, 212, 213, 214, 215, 216] rfl (by decide +kernel)
set_option maxRecDepth 20000 in
theorem gX10_bound_X10_comes : GoodIn wsX10_bound (wsV RX10 245 RX10 yX10_comes wsX10_comes) := goodIn_app (goodIn_of _ (by decide +kernel)) ggX10_bound_X10_comes
set_option maxRecDepth 20000 in
theorem ggX10_bound_X10_laysMatches : GoodIn wsX10_bound wsX10_laysMatches := goodIn_r _ [45, 2, 46, 3, 47, 48, 49, 50, 9, 51, 5, 52, 53, 54, 55, 38, 39, 40, 41, 56, 57, 58, 59, 60, 61, 62, 63, 64, 65, 28, 66, 67, 68, 69, 70, 71, 72, 73, 74, 75, 76, 77, 78, 79, 80, 81, 82, 83, 84, 85, 86, 87, 88, 89, 90, 91, 92, 93, 94, 95, 96, 97, 98, 99, 100, 101, 102, 103, 104, 105, 106, 107, 108, 109, 110, 111, 112, 113, 114, 115, 4, 116, 117, 118, 119, 120, 121, 122, 123, 124, 125, 126, 127, 128, 129, 130, 131, 167, 168, 169, 170, 171, 172, 173, 174, 175, 176, 177, 178, 179, 180, 181, 182, 183, 184, 185, 186, 187, 188, 189, 190, 191, 192, 193, 194, 195, 196, 197, 198, 199, 200, 201, 202, 203, 204, 205, 206, 207, 208, 209, 210, 211, 212, 213, 214, 215, 216] rfl (by decide +kernel)
set_option maxRecDepth 20000 in
theorem gX10_bound_X10_laysMatches : GoodIn wsX10_bound (wsV RX10 356 RX10 yX10_laysMatches wsX10_laysMatches) := goodIn_app (goodIn_of _ (by decide +kernel)) ggX10_bound_X10_laysMatches
set_option maxRecDepth 20000 in
theorem ggX10_bound_X10_tooMuch : GoodIn wsX10_bound wsX10_tooMuch := goodIn_r _ [135, 28, 15, 16, 17, 9, 18, 1, 167, 168, 169, 170, 171, 172, 173, 174, 175, 176, 177, 178, 179, 180, 181, 182, 183, 184, 185, 186, 187, 188, 189, 190, 191, 192, 193, 194, 195, 196, 197, 198, 199, 200, 201, 202, 203, 204, 205, 206, 207, 208, 209, 210, 211, 212, 213, 214, 215, 216] rfl (by decide +kernel)
set_option maxRecDepth 20000 in
theorem gX10_bound_X10_tooMuch : GoodIn wsX10_bound (wsV RX10 380 RX10 yX10_tooMuch wsX10_tooMuch) := goodIn_app (goodIn_of _ (by decide +kernel)) ggX10_bound_X10_tooMuch
set_option maxRecDepth 20000 in
theorem ggX10_bound_X10_in : GoodIn wsX10_bound wsX10_in := goodIn_r _ [14] rfl (by decide +kernel)
set_option maxRecDepth 20000 in
theorem gX10_bound_X10_in : GoodIn wsX10_bound (va_wsS RX10 132 yX10_in wsX10_in) := goodIn_app (goodIn_of _ (by decide +kernel)) ggX10_bound_X10_in
set_option maxRecDepth 20000 in
theorem ggX10_bound_X10_holds : GoodIn wsX10_bound wsX10_holds := goodIn_r _ [78] rfl (by decide +kernel)
set_option maxRecDepth 20000 in
theorem gX10_bound_X10_holds : GoodIn wsX10_bound (va_wsS RX10 281 yX10_holds wsX10_holds) := goodIn_app (goodIn_of _ (by decide +kernel)) ggX10_bound_X10_holds
set_option maxRecDepth 20000 in
theorem ggX10_bound_X10_throwsIf : GoodIn wsX10_bound wsX10_throwsIf := goodIn_r _ [18, 1, 167, 168, 169, 170, 171, 172, 173, 174, 175, 176, 177, 178, 179, 180, 181, 182, 183, 184, 185, 186, 187, 188, 189, 190, 191, 192, 193, 194, 195, 196, 197, 198, 199, 200, 201, 202, 203, 204, 205, 206, 207, 208, 209, 210, 211, 212, 213, 214, 215, 216] rfl (by decide +kernel)
set_option maxRecDepth 20000 in
theorem gX10_bound_X10_throwsIf : GoodIn wsX10_bound (wsV RX10 264 RX10 yX10_throwsIf wsX10_throwsIf) := goodIn_app (goodIn_of _ (by decide +kernel)) ggX10_bound_X10_throwsIf
set_option maxRecDepth 20000 in
theorem ggX10_bound_X10_fills : GoodIn wsX10_bound wsX10_fills := goodIn_r _ [139, 4, 5, 71, 72, 73, 74, 9, 75, 38, 39, 40, 41, 136, 137, 138, 52, 53, 54, 55, 86, 87, 88, 89, 140, 141, 142, 143, 66, 144, 99, 100, 101, 102, 145, 146, 147, 148, 111, 112, 113, 114, 124, 125, 126, 127, 167, 168, 169, 170, 171, 172, 173, 174, 175, 176, 177, 178, 179, 180, 181, 182, 183, 184, 185, 186, 187, 188, 189, 190, 191, 192, 193, 194, 195, 196, 197, 198, 199, 200, 201, 202, 203, 204, 205, 206, 207, 208, 209, 210, 211, 212, 213, 214, 215, 216] rfl (by decide +kernel)
set_option maxRecDepth 20000 in
theorem gX10_bound_X10_fills : GoodIn wsX10_bound (wsV RX10 336 RX10 yX10_fills wsX10_fills) := goodIn_app (goodIn_of _ (by decide +kernel)) ggX10_bound_X10_fills
set_option maxRecDepth 20000 in
theorem ggX10_bound_X10_shows : GoodIn wsX10_bound wsX10_shows := goodIn_r _ [152, 153, 154, 155, 5, 156, 157, 158, 9, 159, 160, 161, 86, 87, 88, 89, 162, 163, 164, 165, 166, 38, 39, 40, 41, 167, 168, 169, 170, 171, 172, 173, 174, 175, 176, 177, 178, 179, 180, 181, 182, 183, 184, 185, 186, 187, 188, 189, 190, 191, 192, 193, 194, 195, 196, 197, 198, 199, 200, 201, 202, 203, 204, 205, 206, 207, 208, 209, 210, 211, 212, 213, 214, 215, 216] rfl (by decide +kernel)
set_option maxRecDepth 20000 in
theorem gX10_bound_X10_shows : GoodIn wsX10_bound (wsV RX10 377 RX10 yX10_shows wsX10_shows) := goodIn_app (goodIn_of _ (by decide +kernel)) ggX10_bound_X10_shows
theorem dX10_bound_0 : decode cX10_bound 0 = .ok (.aload_n 0, 1) := by decide +kernel
theorem dX10_bound_1 : decode cX10_bound 1 = .ok (.iconst 0, 1) := by decide +kernel
theorem dX10_bound_2 : decode cX10_bound 2 = .ok (.putfield 100, 3) := by decide +kernel
theorem dX10_bound_5 : decode cX10_bound 5 = .ok (.aload_n 0, 1) := by decide +kernel
theorem dX10_bound_6 : decode cX10_bound 6 = .ok (.iload_n 1, 1) := by decide +kernel
theorem dX10_bound_7 : decode cX10_bound 7 = .ok (.invokevirtual 371, 3) := by decide +kernel
theorem dX10_bound_10 : decode cX10_bound 10 = .ok (.ifCond .ne 20, 3) := by decide +kernel
theorem dX10_bound_13 : decode cX10_bound 13 = .ok (.aload_n 0, 1) := by decide +kernel
theorem dX10_bound_14 : decode cX10_bound 14 = .ok (.iload_n 2, 1) := by decide +kernel
theorem dX10_bound_15 : decode cX10_bound 15 = .ok (.invokevirtual 371, 3) := by decide +kernel
theorem dX10_bound_18 : decode cX10_bound 18 = .ok (.ifCond .ne 12, 3) := by decide +kernel
theorem dX10_bound_21 : decode cX10_bound 21 = .ok (.aload_n 0, 1) := by decide +kernel
theorem dX10_bound_22 : decode cX10_bound 22 = .ok (.iload 4, 2) := by decide +kernel
theorem dX10_bound_24 : decode cX10_bound 24 = .ok (.invokevirtual 383, 3) := by decide +kernel
theorem dX10_bound_27 : decode cX10_bound 27 = .ok (.ifCond .eq 5, 3) := by decide +kernel
theorem dX10_bound_30 : decode cX10_bound 30 = .ok (.iconst 0, 1) := by decide +kernel
theorem dX10_bound_31 : decode cX10_bound 31 = .ok (.ireturn, 1) := by decide +kernel
theorem dX10_bound_32 : decode cX10_bound 32 = .ok (.aload_n 0, 1) := by decide +kernel
theorem dX10_bound_33 : decode cX10_bound 33 = .ok (.iload_n 1, 1) := by decide +kernel
theorem dX10_bound_34 : decode cX10_bound 34 = .ok (.invokevirtual 374, 3) := by decide +kernel
theorem dX10_bound_37 : decode cX10_bound 37 = .ok (.istore 5, 2) := by decide +kernel
theorem dX10_bound_39 : decode cX10_bound 39 = .ok (.aload_n 0, 1) := by decide +kernel
theorem dX10_bound_40 : decode cX10_bound 40 = .ok (.iload 5, 2) := by decide +kernel
theorem dX10_bound_42 : decode cX10_bound 42 = .ok (.aload_n 0, 1) := by decide +kernel
theorem dX10_bound_43 : decode cX10_bound 43 = .ok (.aload_n 0, 1) := by decide +kernel
theorem dX10_bound_44 : decode cX10_bound 44 = .ok (.iload_n 2, 1) := by decide +kernel
theorem dX10_bound_45 : decode cX10_bound 45 = .ok (.invokevirtual 242, 3) := by decide +kernel
theorem dX10_bound_48 : decode cX10_bound 48 = .ok (.invokevirtual 245, 3) := by decide +kernel
theorem dX10_bound_51 : decode cX10_bound 51 = .ok (.invokevirtual 356, 3) := by decide +kernel
theorem dX10_bound_54 : decode cX10_bound 54 = .ok (.aload_n 0, 1) := by decide +kernel
theorem dX10_bound_55 : decode cX10_bound 55 = .ok (.iconst 3, 1) := by decide +kernel
theorem dX10_bound_56 : decode cX10_bound 56 = .ok (.invokevirtual 380, 3) := by decide +kernel
theorem dX10_bound_59 : decode cX10_bound 59 = .ok (.ifCond .ne 42, 3) := by decide +kernel
theorem dX10_bound_62 : decode cX10_bound 62 = .ok (.aload_n 0, 1) := by decide +kernel
theorem dX10_bound_63 : decode cX10_bound 63 = .ok (.iload_n 3, 1) := by decide +kernel
theorem dX10_bound_64 : decode cX10_bound 64 = .ok (.iconst 0, 1) := by decide +kernel
theorem dX10_bound_65 : decode cX10_bound 65 = .ok (.aload_n 0, 1) := by decide +kernel
theorem dX10_bound_66 : decode cX10_bound 66 = .ok (.getfield 287, 3) := by decide +kernel
theorem dX10_bound_69 : decode cX10_bound 69 = .ok (.iconst 1, 1) := by decide +kernel
theorem dX10_bound_70 : decode cX10_bound 70 = .ok (.isub, 1) := by decide +kernel
theorem dX10_bound_71 : decode cX10_bound 71 = .ok (.invokestatic 132, 3) := by decide +kernel
theorem dX10_bound_74 : decode cX10_bound 74 = .ok (.ifCond .eq 15, 3) := by decide +kernel
theorem dX10_bound_77 : decode cX10_bound 77 = .ok (.aload_n 0, 1) := by decide +kernel
theorem dX10_bound_78 : decode cX10_bound 78 = .ok (.getfield 290, 3) := by decide +kernel
theorem dX10_bound_81 : decode cX10_bound 81 = .ok (.iload 4, 2) := by decide +kernel
theorem dX10_bound_83 : decode cX10_bound 83 = .ok (.invokestatic 281, 3) := by decide +kernel
theorem dX10_bound_86 : decode cX10_bound 86 = .ok (.ifCond .ne 7, 3) := by decide +kernel
theorem dX10_bound_89 : decode cX10_bound 89 = .ok (.iconst 1, 1) := by decide +kernel
theorem dX10_bound_90 : decode cX10_bound 90 = .ok (.goto 4, 3) := by decide +kernel
theorem dX10_bound_93 : decode cX10_bound 93 = .ok (.iconst 0, 1) := by decide +kernel
theorem dX10_bound_94 : decode cX10_bound 94 = .ok (.iconst 2, 1) := by decide +kernel
theorem dX10_bound_95 : decode cX10_bound 95 = .ok (.invokevirtual 264, 3) := by decide +kernel
theorem dX10_bound_98 : decode cX10_bound 98 = .ok (.ifCond .eq 5, 3) := by decide +kernel
theorem dX10_bound_101 : decode cX10_bound 101 = .ok (.iconst 0, 1) := by decide +kernel
theorem dX10_bound_102 : decode cX10_bound 102 = .ok (.ireturn, 1) := by decide +kernel
theorem dX10_bound_103 : decode cX10_bound 103 = .ok (.aload_n 0, 1) := by decide +kernel
theorem dX10_bound_104 : decode cX10_bound 104 = .ok (.iconst 0, 1) := by decide +kernel
theorem dX10_bound_105 : decode cX10_bound 105 = .ok (.putfield 178, 3) := by decide +kernel
theorem dX10_bound_108 : decode cX10_bound 108 = .ok (.aload_n 0, 1) := by decide +kernel
theorem dX10_bound_109 : decode cX10_bound 109 = .ok (.getfield 52, 3) := by decide +kernel
theorem dX10_bound_112 : decode cX10_bound 112 = .ok (.iconst 0, 1) := by decide +kernel
theorem dX10_bound_113 : decode cX10_bound 113 = .ok (.iload 4, 2) := by decide +kernel
theorem dX10_bound_115 : decode cX10_bound 115 = .ok (.iastore, 1) := by decide +kernel
theorem dX10_bound_116 : decode cX10_bound 116 = .ok (.aload_n 0, 1) := by decide +kernel
theorem dX10_bound_117 : decode cX10_bound 117 = .ok (.iconst 1, 1) := by decide +kernel
theorem dX10_bound_118 : decode cX10_bound 118 = .ok (.putfield 178, 3) := by decide +kernel
theorem dX10_bound_121 : decode cX10_bound 121 = .ok (.aload_n 0, 1) := by decide +kernel
theorem dX10_bound_122 : decode cX10_bound 122 = .ok (.aload_n 0, 1) := by decide +kernel
theorem dX10_bound_123 : decode cX10_bound 123 = .ok (.iconst 0, 1) := by decide +kernel
theorem dX10_bound_124 : decode cX10_bound 124 = .ok (.iload_n 3, 1) := by decide +kernel
theorem dX10_bound_125 : decode cX10_bound 125 = .ok (.invokevirtual 336, 3) := by decide +kernel
theorem dX10_bound_128 : decode cX10_bound 128 = .ok (.invokevirtual 377, 3) := by decide +kernel
theorem dX10_bound_131 : decode cX10_bound 131 = .ok (.ireturn, 1) := by decide +kernel
set_option maxRecDepth 20000 in
theorem ggX10_fill_X10_noTerm : GoodIn wsX10_fill wsX10_noTerm := goodIn_r _ [9, 10, 11, 12, 8, 13, 14, 15, 16, 17, 1, 102, 103, 104, 105, 106, 107, 108, 109, 110, 111, 112, 113, 114, 115, 116, 117, 118, 119, 120, 121, 122, 123, 124, 125, 126, 127, 128, 129, 130, 131, 132, 133, 134, 135, 136, 137, 138, 139, 140, 141, 142, 143, 144, 145, 146, 147, 148, 149, 150, 151] rfl (by decide +kernel)
set_option maxRecDepth 20000 in
theorem gX10_fill_X10_noTerm : GoodIn wsX10_fill (wsV RX10 371 RX10 yX10_noTerm wsX10_noTerm) := goodIn_app (goodIn_of _ (by decide +kernel)) ggX10_fill_X10_noTerm
set_option maxRecDepth 20000 in
theorem ggX10_fill_X10_noVariable : GoodIn wsX10_fill wsX10_noVariable := goodIn_r _ [21, 22, 11, 12, 8, 13, 14, 15, 16, 17, 1, 102, 103, 104, 105, 106, 107, 108, 109, 110, 111, 112, 113, 114, 115, 116, 117, 118, 119, 120, 121, 122, 123, 124, 125, 126, 127, 128, 129, 130, 131, 132, 133, 134, 135, 136, 137, 138, 139, 140, 141, 142, 143, 144, 145, 146, 147, 148, 149, 150, 151] rfl (by decide +kernel)
set_option maxRecDepth 20000 in
theorem gX10_fill_X10_noVariable : GoodIn wsX10_fill (wsV RX10 383 RX10 yX10_noVariable wsX10_noVariable) := goodIn_app (goodIn_of _ (by decide +kernel)) ggX10_fill_X10_noVariable
set_option maxRecDepth 20000 in
theorem ggX10_fill_X10_termAt : GoodIn wsX10_fill wsX10_termAt := goodIn_r _ [26, 27, 28, 29, 30, 31, 8, 32, 33, 34, 35, 36, 4, 37, 38, 39, 40, 41, 102, 103, 104, 105, 106, 107, 108, 109, 110, 111, 112, 113, 114, 115, 116, 117, 118, 119, 120, 121, 122, 123, 124, 125, 126, 127, 128, 129, 130, 131, 132, 133, 134, 135, 136, 137, 138, 139, 140, 141, 142, 143, 144, 145, 146, 147, 148, 149, 150, 151] rfl (by decide +kernel)
set_option maxRecDepth 20000 in
theorem gX10_fill_X10_termAt : GoodIn wsX10_fill (wsV RX10 374 RX10 yX10_termAt wsX10_termAt) := goodIn_app (goodIn_of _ (by decide +kernel)) ggX10_fill_X10_termAt
set_option maxRecDepth 20000 in
theorem ggX10_fill_X10_rowOfTerm : GoodIn wsX10_fill wsX10_rowOfTerm := goodIn_r _ [32] rfl (by decide +kernel)
set_option maxRecDepth 20000 in
theorem gX10_fill_X10_rowOfTerm : GoodIn wsX10_fill (wsV RX10 242 RX10 yX10_rowOfTerm wsX10_rowOfTerm) := goodIn_app (goodIn_of _ (by decide +kernel)) ggX10_fill_X10_rowOfTerm
set_option maxRecDepth 20000 in
theorem ggX10_fill_X10_comes : GoodIn wsX10_fill wsX10_comes := goodIn_r _ [36, 27, 4, 37, 38, 39, 40, 8, 41, 102, 103, 104, 105, 106, 107, 108, 109, 110, 111, 112, 113, 114, 115, 116, 117, 118, 119, 120, 121, 122, 123, 124, 125, 126, 127, 128, 129, 130, 131, 132, 133, 134, 135, 136, 137, 138, 139, 140, 141, 142, 143, 144, 145, 146, 147, 148, 149, 150, 151] rfl (by decide +kernel)
set_option maxRecDepth 20000 in
theorem gX10_fill_X10_comes : GoodIn wsX10_fill (wsV RX10 245 RX10 yX10_comes wsX10_comes) := goodIn_app (goodIn_of _ (by decide +kernel)) ggX10_fill_X10_comes
set_option maxRecDepth 20000 in
theorem ggX10_fill_X10_foundAt : GoodIn wsX10_fill wsX10_foundAt := goodIn_r _ [45] rfl (by decide +kernel)
set_option maxRecDepth 20000 in
theorem gX10_fill_X10_foundAt : GoodIn wsX10_fill (wsV RX10 284 RX10 yX10_foundAt wsX10_foundAt) := goodIn_app (goodIn_of _ (by decide +kernel)) ggX10_fill_X10_foundAt
set_option maxRecDepth 20000 in
theorem ggX10_fill_X10_behind : GoodIn wsX10_fill wsX10_behind := goodIn_r _ [49, 38, 39, 40, 8, 41, 4, 102, 103, 104, 105, 106, 107, 108, 109, 110, 111, 112, 113, 114, 115, 116, 117, 118, 119, 120, 121, 122, 123, 124, 125, 126, 127, 128, 129, 130, 131, 132, 133, 134, 135, 136, 137, 138, 139, 140, 141, 142, 143, 144, 145, 146, 147, 148, 149, 150, 151] rfl (by decide +kernel)
set_option maxRecDepth 20000 in
theorem gX10_fill_X10_behind : GoodIn wsX10_fill (wsV RX10 213 RX10 yX10_behind wsX10_behind) := goodIn_app (goodIn_of _ (by decide +kernel)) ggX10_fill_X10_behind
set_option maxRecDepth 20000 in
theorem ggX10_fill_X10_fills : GoodIn wsX10_fill wsX10_fills := goodIn_r _ [53, 27, 4, 3, 42, 43, 44, 8, 45, 38, 39, 40, 41, 50, 51, 52, 46, 47, 48, 49, 54, 55, 56, 57, 58, 59, 60, 61, 62, 63, 64, 65, 66, 67, 68, 69, 70, 71, 72, 73, 74, 75, 76, 77, 78, 79, 102, 103, 104, 105, 106, 107, 108, 109, 110, 111, 112, 113, 114, 115, 116, 117, 118, 119, 120, 121, 122, 123, 124, 125, 126, 127, 128, 129, 130, 131, 132, 133, 134, 135, 136, 137, 138, 139, 140, 141, 142, 143, 144, 145, 146, 147, 148, 149, 150, 151] rfl (by decide +kernel)
set_option maxRecDepth 20000 in
theorem gX10_fill_X10_fills : GoodIn wsX10_fill (wsV RX10 336 RX10 yX10_fills wsX10_fills) := goodIn_app (goodIn_of _ (by decide +kernel)) ggX10_fill_X10_fills
set_option maxRecDepth 20000 in
theorem ggX10_fill_X10_isGreat : GoodIn wsX10_fill wsX10_isGreat := goodIn_r _ [83, 4, 62, 46, 47, 48, 8, 49, 38, 39, 40, 41, 54, 55, 56, 57, 102, 103, 104, 105, 106, 107, 108, 109, 110, 111, 112, 113, 114, 115, 116, 117, 118, 119, 120, 121, 122, 123, 124, 125, 126, 127, 128, 129, 130, 131, 132, 133, 134, 135, 136, 137, 138, 139, 140, 141, 142, 143, 144, 145, 146, 147, 148, 149, 150, 151] rfl (by decide +kernel)
set_option maxRecDepth 20000 in
theorem gX10_fill_X10_isGreat : GoodIn wsX10_fill (wsV RX10 258 RX10 yX10_isGreat wsX10_isGreat) := goodIn_app (goodIn_of _ (by decide +kernel)) ggX10_fill_X10_isGreat
set_option maxRecDepth 20000 in
theorem ggX10_fill_X10_throwsIf : GoodIn wsX10_fill wsX10_throwsIf := goodIn_r _ [17, 1, 102, 103, 104, 105, 106, 107, 108, 109, 110, 111, 112, 113, 114, 115, 116, 117, 118, 119, 120, 121, 122, 123, 124, 125, 126, 127, 128, 129, 130, 131, 132, 133, 134, 135, 136, 137, 138, 139, 140, 141, 142, 143, 144, 145, 146, 147, 148, 149, 150, 151] rfl (by decide +kernel)
set_option maxRecDepth 20000 in
theorem gX10_fill_X10_throwsIf : GoodIn wsX10_fill (wsV RX10 264 RX10 yX10_throwsIf wsX10_throwsIf) := goodIn_app (goodIn_of _ (by decide +kernel)) ggX10_fill_X10_throwsIf
set_option maxRecDepth 20000 in
theorem ggX10_fill_X10_shows : GoodIn wsX10_fill wsX10_shows := goodIn_r _ [87, 88, 89, 90, 4, 91, 92, 93, 8, 94, 95, 96, 54, 55, 56, 57, 97, 98, 99, 100, 101, 38, 39, 40, 41, 102, 103, 104, 105, 106, 107, 108, 109, 110, 111, 112, 113, 114, 115, 116, 117, 118, 119, 120, 121, 122, 123, 124, 125, 126, 127, 128, 129, 130, 131, 132, 133, 134, 135, 136, 137, 138, 139, 140, 141, 142, 143, 144, 145, 146, 147, 148, 149, 150, 151] rfl (by decide +kernel)
set_option maxRecDepth 20000 in
theorem gX10_fill_X10_shows : GoodIn wsX10_fill (wsV RX10 377 RX10 yX10_shows wsX10_shows) := goodIn_app (goodIn_of _ (by decide +kernel)) ggX10_fill_X10_shows
theorem dX10_fill_0 : decode cX10_fill 0 = .ok (.aload_n 0, 1) := by decide +kernel
theorem dX10_fill_1 : decode cX10_fill 1 = .ok (.iconst 0, 1) := by decide +kernel
theorem dX10_fill_2 : decode cX10_fill 2 = .ok (.putfield 100, 3) := by decide +kernel
theorem dX10_fill_5 : decode cX10_fill 5 = .ok (.aload_n 0, 1) := by decide +kernel
theorem dX10_fill_6 : decode cX10_fill 6 = .ok (.iload_n 1, 1) := by decide +kernel
theorem dX10_fill_7 : decode cX10_fill 7 = .ok (.invokevirtual 371, 3) := by decide +kernel
theorem dX10_fill_10 : decode cX10_fill 10 = .ok (.ifCond .ne 19, 3) := by decide +kernel
theorem dX10_fill_13 : decode cX10_fill 13 = .ok (.aload_n 0, 1) := by decide +kernel
theorem dX10_fill_14 : decode cX10_fill 14 = .ok (.iload_n 2, 1) := by decide +kernel
theorem dX10_fill_15 : decode cX10_fill 15 = .ok (.invokevirtual 383, 3) := by decide +kernel
theorem dX10_fill_18 : decode cX10_fill 18 = .ok (.ifCond .ne 11, 3) := by decide +kernel
theorem dX10_fill_21 : decode cX10_fill 21 = .ok (.aload_n 0, 1) := by decide +kernel
theorem dX10_fill_22 : decode cX10_fill 22 = .ok (.iload_n 3, 1) := by decide +kernel
theorem dX10_fill_23 : decode cX10_fill 23 = .ok (.invokevirtual 371, 3) := by decide +kernel
theorem dX10_fill_26 : decode cX10_fill 26 = .ok (.ifCond .eq 5, 3) := by decide +kernel
theorem dX10_fill_29 : decode cX10_fill 29 = .ok (.iconst 0, 1) := by decide +kernel
theorem dX10_fill_30 : decode cX10_fill 30 = .ok (.ireturn, 1) := by decide +kernel
theorem dX10_fill_31 : decode cX10_fill 31 = .ok (.aload_n 0, 1) := by decide +kernel
theorem dX10_fill_32 : decode cX10_fill 32 = .ok (.iload_n 1, 1) := by decide +kernel
theorem dX10_fill_33 : decode cX10_fill 33 = .ok (.invokevirtual 374, 3) := by decide +kernel
theorem dX10_fill_36 : decode cX10_fill 36 = .ok (.istore 4, 2) := by decide +kernel
theorem dX10_fill_38 : decode cX10_fill 38 = .ok (.aload_n 0, 1) := by decide +kernel
theorem dX10_fill_39 : decode cX10_fill 39 = .ok (.aload_n 0, 1) := by decide +kernel
theorem dX10_fill_40 : decode cX10_fill 40 = .ok (.iload_n 3, 1) := by decide +kernel
theorem dX10_fill_41 : decode cX10_fill 41 = .ok (.invokevirtual 242, 3) := by decide +kernel
theorem dX10_fill_44 : decode cX10_fill 44 = .ok (.invokevirtual 245, 3) := by decide +kernel
theorem dX10_fill_47 : decode cX10_fill 47 = .ok (.istore 5, 2) := by decide +kernel
theorem dX10_fill_49 : decode cX10_fill 49 = .ok (.aload_n 0, 1) := by decide +kernel
theorem dX10_fill_50 : decode cX10_fill 50 = .ok (.iconst 1, 1) := by decide +kernel
theorem dX10_fill_51 : decode cX10_fill 51 = .ok (.putfield 287, 3) := by decide +kernel
theorem dX10_fill_54 : decode cX10_fill 54 = .ok (.iconst 0, 1) := by decide +kernel
theorem dX10_fill_55 : decode cX10_fill 55 = .ok (.istore 6, 2) := by decide +kernel
theorem dX10_fill_57 : decode cX10_fill 57 = .ok (.iload 6, 2) := by decide +kernel
theorem dX10_fill_59 : decode cX10_fill 59 = .ok (.iconst 5, 1) := by decide +kernel
theorem dX10_fill_60 : decode cX10_fill 60 = .ok (.if_icmp .ge 23, 3) := by decide +kernel
theorem dX10_fill_63 : decode cX10_fill 63 = .ok (.aload_n 0, 1) := by decide +kernel
theorem dX10_fill_64 : decode cX10_fill 64 = .ok (.getfield 73, 3) := by decide +kernel
theorem dX10_fill_67 : decode cX10_fill 67 = .ok (.aload_n 0, 1) := by decide +kernel
theorem dX10_fill_68 : decode cX10_fill 68 = .ok (.iconst 0, 1) := by decide +kernel
theorem dX10_fill_69 : decode cX10_fill 69 = .ok (.iload 6, 2) := by decide +kernel
theorem dX10_fill_71 : decode cX10_fill 71 = .ok (.invokevirtual 284, 3) := by decide +kernel
theorem dX10_fill_74 : decode cX10_fill 74 = .ok (.iload 6, 2) := by decide +kernel
theorem dX10_fill_76 : decode cX10_fill 76 = .ok (.iastore, 1) := by decide +kernel
theorem dX10_fill_77 : decode cX10_fill 77 = .ok (.iinc 6 1, 3) := by decide +kernel
theorem dX10_fill_80 : decode cX10_fill 80 = .ok (.goto (-23), 3) := by decide +kernel
theorem dX10_fill_83 : decode cX10_fill 83 = .ok (.aload_n 0, 1) := by decide +kernel
theorem dX10_fill_84 : decode cX10_fill 84 = .ok (.iload 5, 2) := by decide +kernel
theorem dX10_fill_86 : decode cX10_fill 86 = .ok (.invokevirtual 213, 3) := by decide +kernel
theorem dX10_fill_89 : decode cX10_fill 89 = .ok (.istore 6, 2) := by decide +kernel
theorem dX10_fill_91 : decode cX10_fill 91 = .ok (.iload 5, 2) := by decide +kernel
theorem dX10_fill_93 : decode cX10_fill 93 = .ok (.istore 7, 2) := by decide +kernel
theorem dX10_fill_95 : decode cX10_fill 95 = .ok (.iload 7, 2) := by decide +kernel
theorem dX10_fill_97 : decode cX10_fill 97 = .ok (.iload 6, 2) := by decide +kernel
theorem dX10_fill_99 : decode cX10_fill 99 = .ok (.if_icmp .ge 33, 3) := by decide +kernel
theorem dX10_fill_102 : decode cX10_fill 102 = .ok (.aload_n 0, 1) := by decide +kernel
theorem dX10_fill_103 : decode cX10_fill 103 = .ok (.getfield 73, 3) := by decide +kernel
theorem dX10_fill_106 : decode cX10_fill 106 = .ok (.aload_n 0, 1) := by decide +kernel
theorem dX10_fill_107 : decode cX10_fill 107 = .ok (.iconst 0, 1) := by decide +kernel
theorem dX10_fill_108 : decode cX10_fill 108 = .ok (.iload_n 2, 1) := by decide +kernel
theorem dX10_fill_109 : decode cX10_fill 109 = .ok (.invokevirtual 284, 3) := by decide +kernel
theorem dX10_fill_112 : decode cX10_fill 112 = .ok (.iload 7, 2) := by decide +kernel
theorem dX10_fill_114 : decode cX10_fill 114 = .ok (.iadd, 1) := by decide +kernel
theorem dX10_fill_115 : decode cX10_fill 115 = .ok (.iload 5, 2) := by decide +kernel
theorem dX10_fill_117 : decode cX10_fill 117 = .ok (.isub, 1) := by decide +kernel
theorem dX10_fill_118 : decode cX10_fill 118 = .ok (.aload_n 0, 1) := by decide +kernel
theorem dX10_fill_119 : decode cX10_fill 119 = .ok (.getfield 52, 3) := by decide +kernel
theorem dX10_fill_122 : decode cX10_fill 122 = .ok (.iload 7, 2) := by decide +kernel
theorem dX10_fill_124 : decode cX10_fill 124 = .ok (.iaload, 1) := by decide +kernel
theorem dX10_fill_125 : decode cX10_fill 125 = .ok (.iastore, 1) := by decide +kernel
theorem dX10_fill_126 : decode cX10_fill 126 = .ok (.iinc 7 1, 3) := by decide +kernel
theorem dX10_fill_129 : decode cX10_fill 129 = .ok (.goto (-34), 3) := by decide +kernel
theorem dX10_fill_132 : decode cX10_fill 132 = .ok (.aload_n 0, 1) := by decide +kernel
theorem dX10_fill_133 : decode cX10_fill 133 = .ok (.iload 4, 2) := by decide +kernel
theorem dX10_fill_135 : decode cX10_fill 135 = .ok (.iconst 0, 1) := by decide +kernel
theorem dX10_fill_136 : decode cX10_fill 136 = .ok (.invokevirtual 336, 3) := by decide +kernel
theorem dX10_fill_139 : decode cX10_fill 139 = .ok (.istore 7, 2) := by decide +kernel
theorem dX10_fill_141 : decode cX10_fill 141 = .ok (.aload_n 0, 1) := by decide +kernel
theorem dX10_fill_142 : decode cX10_fill 142 = .ok (.aload_n 0, 1) := by decide +kernel
theorem dX10_fill_143 : decode cX10_fill 143 = .ok (.iload 7, 2) := by decide +kernel
theorem dX10_fill_145 : decode cX10_fill 145 = .ok (.invokevirtual 258, 3) := by decide +kernel
theorem dX10_fill_148 : decode cX10_fill 148 = .ok (.iconst 2, 1) := by decide +kernel
theorem dX10_fill_149 : decode cX10_fill 149 = .ok (.invokevirtual 264, 3) := by decide +kernel
theorem dX10_fill_152 : decode cX10_fill 152 = .ok (.ifCond .eq 7, 3) := by decide +kernel
theorem dX10_fill_155 : decode cX10_fill 155 = .ok (.iconst 0, 1) := by decide +kernel
theorem dX10_fill_156 : decode cX10_fill 156 = .ok (.goto 9, 3) := by decide +kernel
theorem dX10_fill_159 : decode cX10_fill 159 = .ok (.aload_n 0, 1) := by decide +kernel
theorem dX10_fill_160 : decode cX10_fill 160 = .ok (.iload 7, 2) := by decide +kernel
theorem dX10_fill_162 : decode cX10_fill 162 = .ok (.invokevirtual 377, 3) := by decide +kernel
theorem dX10_fill_165 : decode cX10_fill 165 = .ok (.ireturn, 1) := by decide +kernel
set_option maxRecDepth 20000 in
theorem ggX10_noOperator_X10_in : GoodIn wsX10_noOperator wsX10_in := goodIn_r _ [5] rfl (by decide +kernel)
set_option maxRecDepth 20000 in
theorem gX10_noOperator_X10_in : GoodIn wsX10_noOperator (va_wsS RX10 132 yX10_in wsX10_in) := goodIn_app (goodIn_of _ (by decide +kernel)) ggX10_noOperator_X10_in
set_option maxRecDepth 20000 in
theorem ggX10_noOperator_X10_throwsIf : GoodIn wsX10_noOperator wsX10_throwsIf := goodIn_r _ [9, 10, 11, 12, 13, 14, 15, 16, 17, 18, 19, 20, 21, 22, 23, 24, 25, 26, 27, 28, 29, 30, 31, 32, 33, 34, 35, 36, 37, 38, 39, 40, 41, 42, 43, 44, 45, 46, 47, 48, 49, 50, 51, 52, 53, 54, 55, 56, 57, 58, 59, 60] rfl (by decide +kernel)
set_option maxRecDepth 20000 in
theorem gX10_noOperator_X10_throwsIf : GoodIn wsX10_noOperator (wsV RX10 264 RX10 yX10_throwsIf wsX10_throwsIf) := goodIn_app (goodIn_of _ (by decide +kernel)) ggX10_noOperator_X10_throwsIf
theorem dX10_noOperator_0 : decode cX10_noOperator 0 = .ok (.aload_n 0, 1) := by decide +kernel
theorem dX10_noOperator_1 : decode cX10_noOperator 1 = .ok (.iload_n 1, 1) := by decide +kernel
theorem dX10_noOperator_2 : decode cX10_noOperator 2 = .ok (.iconst 0, 1) := by decide +kernel
theorem dX10_noOperator_3 : decode cX10_noOperator 3 = .ok (.aload_n 0, 1) := by decide +kernel
theorem dX10_noOperator_4 : decode cX10_noOperator 4 = .ok (.getfield 190, 3) := by decide +kernel
theorem dX10_noOperator_7 : decode cX10_noOperator 7 = .ok (.iconst 1, 1) := by decide +kernel
theorem dX10_noOperator_8 : decode cX10_noOperator 8 = .ok (.isub, 1) := by decide +kernel
theorem dX10_noOperator_9 : decode cX10_noOperator 9 = .ok (.invokestatic 132, 3) := by decide +kernel
theorem dX10_noOperator_12 : decode cX10_noOperator 12 = .ok (.ifCond .ne 7, 3) := by decide +kernel
theorem dX10_noOperator_15 : decode cX10_noOperator 15 = .ok (.iconst 1, 1) := by decide +kernel
theorem dX10_noOperator_16 : decode cX10_noOperator 16 = .ok (.goto 4, 3) := by decide +kernel
theorem dX10_noOperator_19 : decode cX10_noOperator 19 = .ok (.iconst 0, 1) := by decide +kernel
theorem dX10_noOperator_20 : decode cX10_noOperator 20 = .ok (.iconst 1, 1) := by decide +kernel
theorem dX10_noOperator_21 : decode cX10_noOperator 21 = .ok (.invokevirtual 264, 3) := by decide +kernel
theorem dX10_noOperator_24 : decode cX10_noOperator 24 = .ok (.ireturn, 1) := by decide +kernel
set_option maxRecDepth 20000 in
theorem ggX10_join_X10_noOperator : GoodIn wsX10_join wsX10_noOperator := goodIn_r _ [7, 8, 9, 10, 6, 11, 12, 13, 14, 15, 1, 92, 93, 94, 95, 96, 97, 98, 99, 100, 101, 102, 103, 104, 105, 106, 107, 108, 109, 110, 111, 112, 113, 114, 115, 116, 117, 118, 119, 120, 121, 122, 123, 124, 125, 126, 127, 128, 129, 130, 131, 132, 133, 134, 135, 136, 137, 138, 139, 140, 141] rfl (by decide +kernel)
set_option maxRecDepth 20000 in
theorem gX10_join_X10_noOperator : GoodIn wsX10_join (wsV RX10 386 RX10 yX10_noOperator wsX10_noOperator) := goodIn_app (goodIn_of _ (by decide +kernel)) ggX10_join_X10_noOperator
set_option maxRecDepth 20000 in
theorem ggX10_join_X10_noTerm : GoodIn wsX10_join wsX10_noTerm := goodIn_r _ [19, 20, 9, 10, 6, 11, 12, 13, 14, 15, 1, 92, 93, 94, 95, 96, 97, 98, 99, 100, 101, 102, 103, 104, 105, 106, 107, 108, 109, 110, 111, 112, 113, 114, 115, 116, 117, 118, 119, 120, 121, 122, 123, 124, 125, 126, 127, 128, 129, 130, 131, 132, 133, 134, 135, 136, 137, 138, 139, 140, 141] rfl (by decide +kernel)
set_option maxRecDepth 20000 in
theorem gX10_join_X10_noTerm : GoodIn wsX10_join (wsV RX10 371 RX10 yX10_noTerm wsX10_noTerm) := goodIn_app (goodIn_of _ (by decide +kernel)) ggX10_join_X10_noTerm
set_option maxRecDepth 20000 in
theorem ggX10_join_X10_throwsIf : GoodIn wsX10_join wsX10_throwsIf := goodIn_r _ [15, 1, 92, 93, 94, 95, 96, 97, 98, 99, 100, 101, 102, 103, 104, 105, 106, 107, 108, 109, 110, 111, 112, 113, 114, 115, 116, 117, 118, 119, 120, 121, 122, 123, 124, 125, 126, 127, 128, 129, 130, 131, 132, 133, 134, 135, 136, 137, 138, 139, 140, 141] rfl (by decide +kernel)
set_option maxRecDepth 20000 in
theorem gX10_join_X10_throwsIf : GoodIn wsX10_join (wsV RX10 264 RX10 yX10_throwsIf wsX10_throwsIf) := goodIn_app (goodIn_of _ (by decide +kernel)) ggX10_join_X10_throwsIf
set_option maxRecDepth 20000 in
theorem ggX10_join_X10_termAt : GoodIn wsX10_join wsX10_termAt := goodIn_r _ [24, 25, 26, 27, 28, 29, 6, 30, 31, 32, 33, 34, 35, 36, 37, 38, 39, 40, 92, 93, 94, 95, 96, 97, 98, 99, 100, 101, 102, 103, 104, 105, 106, 107, 108, 109, 110, 111, 112, 113, 114, 115, 116, 117, 118, 119, 120, 121, 122, 123, 124, 125, 126, 127, 128, 129, 130, 131, 132, 133, 134, 135, 136, 137, 138, 139, 140, 141] rfl (by decide +kernel)
set_option maxRecDepth 20000 in
theorem gX10_join_X10_termAt : GoodIn wsX10_join (wsV RX10 374 RX10 yX10_termAt wsX10_termAt) := goodIn_app (goodIn_of _ (by decide +kernel)) ggX10_join_X10_termAt
set_option maxRecDepth 20000 in
theorem ggX10_join_X10_rowOfTerm : GoodIn wsX10_join wsX10_rowOfTerm := goodIn_r _ [30] rfl (by decide +kernel)
set_option maxRecDepth 20000 in
theorem gX10_join_X10_rowOfTerm : GoodIn wsX10_join (wsV RX10 242 RX10 yX10_rowOfTerm wsX10_rowOfTerm) := goodIn_app (goodIn_of _ (by decide +kernel)) ggX10_join_X10_rowOfTerm
set_option maxRecDepth 20000 in
theorem ggX10_join_X10_comes : GoodIn wsX10_join wsX10_comes := goodIn_r _ [34, 25, 35, 36, 37, 38, 39, 6, 40, 92, 93, 94, 95, 96, 97, 98, 99, 100, 101, 102, 103, 104, 105, 106, 107, 108, 109, 110, 111, 112, 113, 114, 115, 116, 117, 118, 119, 120, 121, 122, 123, 124, 125, 126, 127, 128, 129, 130, 131, 132, 133, 134, 135, 136, 137, 138, 139, 140, 141] rfl (by decide +kernel)
set_option maxRecDepth 20000 in
theorem gX10_join_X10_comes : GoodIn wsX10_join (wsV RX10 245 RX10 yX10_comes wsX10_comes) := goodIn_app (goodIn_of _ (by decide +kernel)) ggX10_join_X10_comes
set_option maxRecDepth 20000 in
theorem ggX10_join_X10_stands : GoodIn wsX10_join wsX10_stands := goodIn_r _ [44, 25, 2, 45, 46, 35, 47, 48, 49, 6, 50, 51, 52, 53, 54, 37, 38, 39, 40, 55, 56, 57, 58, 59, 60, 61, 62, 63, 64, 65, 66, 67, 68, 69, 92, 93, 94, 95, 96, 97, 98, 99, 100, 101, 102, 103, 104, 105, 106, 107, 108, 109, 110, 111, 112, 113, 114, 115, 116, 117, 118, 119, 120, 121, 122, 123, 124, 125, 126, 127, 128, 129, 130, 131, 132, 133, 134, 135, 136, 137, 138, 139, 140, 141] rfl (by decide +kernel)
set_option maxRecDepth 20000 in
theorem gX10_join_X10_stands : GoodIn wsX10_join (wsV RX10 239 RX10 yX10_stands wsX10_stands) := goodIn_app (goodIn_of _ (by decide +kernel)) ggX10_join_X10_stands
set_option maxRecDepth 20000 in
theorem ggX10_join_X10_isGreat : GoodIn wsX10_join wsX10_isGreat := goodIn_r _ [73, 35, 2, 51, 52, 53, 6, 54, 37, 38, 39, 40, 47, 48, 49, 50, 92, 93, 94, 95, 96, 97, 98, 99, 100, 101, 102, 103, 104, 105, 106, 107, 108, 109, 110, 111, 112, 113, 114, 115, 116, 117, 118, 119, 120, 121, 122, 123, 124, 125, 126, 127, 128, 129, 130, 131, 132, 133, 134, 135, 136, 137, 138, 139, 140, 141] rfl (by decide +kernel)
set_option maxRecDepth 20000 in
theorem gX10_join_X10_isGreat : GoodIn wsX10_join (wsV RX10 258 RX10 yX10_isGreat wsX10_isGreat) := goodIn_app (goodIn_of _ (by decide +kernel)) ggX10_join_X10_isGreat
set_option maxRecDepth 20000 in
theorem ggX10_join_X10_shows : GoodIn wsX10_join wsX10_shows := goodIn_r _ [77, 78, 79, 80, 35, 81, 82, 83, 6, 84, 85, 86, 47, 48, 49, 50, 87, 88, 89, 90, 91, 37, 38, 39, 40, 92, 93, 94, 95, 96, 97, 98, 99, 100, 101, 102, 103, 104, 105, 106, 107, 108, 109, 110, 111, 112, 113, 114, 115, 116, 117, 118, 119, 120, 121, 122, 123, 124, 125, 126, 127, 128, 129, 130, 131, 132, 133, 134, 135, 136, 137, 138, 139, 140, 141] rfl (by decide +kernel)
set_option maxRecDepth 20000 in
theorem gX10_join_X10_shows : GoodIn wsX10_join (wsV RX10 377 RX10 yX10_shows wsX10_shows) := goodIn_app (goodIn_of _ (by decide +kernel)) ggX10_join_X10_shows
theorem dX10_join_0 : decode cX10_join 0 = .ok (.aload_n 0, 1) := by decide +kernel
theorem dX10_join_1 : decode cX10_join 1 = .ok (.iconst 0, 1) := by decide +kernel
theorem dX10_join_2 : decode cX10_join 2 = .ok (.putfield 100, 3) := by decide +kernel
theorem dX10_join_5 : decode cX10_join 5 = .ok (.aload_n 0, 1) := by decide +kernel
theorem dX10_join_6 : decode cX10_join 6 = .ok (.iload_n 1, 1) := by decide +kernel
theorem dX10_join_7 : decode cX10_join 7 = .ok (.invokevirtual 386, 3) := by decide +kernel
theorem dX10_join_10 : decode cX10_join 10 = .ok (.ifCond .ne 42, 3) := by decide +kernel
theorem dX10_join_13 : decode cX10_join 13 = .ok (.aload_n 0, 1) := by decide +kernel
theorem dX10_join_14 : decode cX10_join 14 = .ok (.iload_n 2, 1) := by decide +kernel
theorem dX10_join_15 : decode cX10_join 15 = .ok (.invokevirtual 371, 3) := by decide +kernel
theorem dX10_join_18 : decode cX10_join 18 = .ok (.ifCond .ne 34, 3) := by decide +kernel
theorem dX10_join_21 : decode cX10_join 21 = .ok (.aload_n 0, 1) := by decide +kernel
theorem dX10_join_22 : decode cX10_join 22 = .ok (.iload_n 3, 1) := by decide +kernel
theorem dX10_join_23 : decode cX10_join 23 = .ok (.invokevirtual 371, 3) := by decide +kernel
theorem dX10_join_26 : decode cX10_join 26 = .ok (.ifCond .ne 26, 3) := by decide +kernel
theorem dX10_join_29 : decode cX10_join 29 = .ok (.aload_n 0, 1) := by decide +kernel
theorem dX10_join_30 : decode cX10_join 30 = .ok (.aload_n 0, 1) := by decide +kernel
theorem dX10_join_31 : decode cX10_join 31 = .ok (.getfield 33, 3) := by decide +kernel
theorem dX10_join_34 : decode cX10_join 34 = .ok (.iload_n 1, 1) := by decide +kernel
theorem dX10_join_35 : decode cX10_join 35 = .ok (.iaload, 1) := by decide +kernel
theorem dX10_join_36 : decode cX10_join 36 = .ok (.iconst 2, 1) := by decide +kernel
theorem dX10_join_37 : decode cX10_join 37 = .ok (.if_icmp .eq 7, 3) := by decide +kernel
theorem dX10_join_40 : decode cX10_join 40 = .ok (.iconst 1, 1) := by decide +kernel
theorem dX10_join_41 : decode cX10_join 41 = .ok (.goto 4, 3) := by decide +kernel
theorem dX10_join_44 : decode cX10_join 44 = .ok (.iconst 0, 1) := by decide +kernel
theorem dX10_join_45 : decode cX10_join 45 = .ok (.iconst 2, 1) := by decide +kernel
theorem dX10_join_46 : decode cX10_join 46 = .ok (.invokevirtual 264, 3) := by decide +kernel
theorem dX10_join_49 : decode cX10_join 49 = .ok (.ifCond .eq 5, 3) := by decide +kernel
theorem dX10_join_52 : decode cX10_join 52 = .ok (.iconst 0, 1) := by decide +kernel
theorem dX10_join_53 : decode cX10_join 53 = .ok (.ireturn, 1) := by decide +kernel
theorem dX10_join_54 : decode cX10_join 54 = .ok (.aload_n 0, 1) := by decide +kernel
theorem dX10_join_55 : decode cX10_join 55 = .ok (.iload_n 2, 1) := by decide +kernel
theorem dX10_join_56 : decode cX10_join 56 = .ok (.invokevirtual 374, 3) := by decide +kernel
theorem dX10_join_59 : decode cX10_join 59 = .ok (.istore 4, 2) := by decide +kernel
theorem dX10_join_61 : decode cX10_join 61 = .ok (.aload_n 0, 1) := by decide +kernel
theorem dX10_join_62 : decode cX10_join 62 = .ok (.aload_n 0, 1) := by decide +kernel
theorem dX10_join_63 : decode cX10_join 63 = .ok (.iload_n 3, 1) := by decide +kernel
theorem dX10_join_64 : decode cX10_join 64 = .ok (.invokevirtual 242, 3) := by decide +kernel
theorem dX10_join_67 : decode cX10_join 67 = .ok (.invokevirtual 245, 3) := by decide +kernel
theorem dX10_join_70 : decode cX10_join 70 = .ok (.istore 5, 2) := by decide +kernel
theorem dX10_join_72 : decode cX10_join 72 = .ok (.aload_n 0, 1) := by decide +kernel
theorem dX10_join_73 : decode cX10_join 73 = .ok (.iload_n 1, 1) := by decide +kernel
theorem dX10_join_74 : decode cX10_join 74 = .ok (.iload 4, 2) := by decide +kernel
theorem dX10_join_76 : decode cX10_join 76 = .ok (.invokevirtual 239, 3) := by decide +kernel
theorem dX10_join_79 : decode cX10_join 79 = .ok (.istore 6, 2) := by decide +kernel
theorem dX10_join_81 : decode cX10_join 81 = .ok (.aload_n 0, 1) := by decide +kernel
theorem dX10_join_82 : decode cX10_join 82 = .ok (.aload_n 0, 1) := by decide +kernel
theorem dX10_join_83 : decode cX10_join 83 = .ok (.iload 6, 2) := by decide +kernel
theorem dX10_join_85 : decode cX10_join 85 = .ok (.invokevirtual 258, 3) := by decide +kernel
theorem dX10_join_88 : decode cX10_join 88 = .ok (.iconst 3, 1) := by decide +kernel
theorem dX10_join_89 : decode cX10_join 89 = .ok (.invokevirtual 264, 3) := by decide +kernel
theorem dX10_join_92 : decode cX10_join 92 = .ok (.ifCond .eq 7, 3) := by decide +kernel
theorem dX10_join_95 : decode cX10_join 95 = .ok (.iconst 0, 1) := by decide +kernel
theorem dX10_join_96 : decode cX10_join 96 = .ok (.goto 9, 3) := by decide +kernel
theorem dX10_join_99 : decode cX10_join 99 = .ok (.aload_n 0, 1) := by decide +kernel
theorem dX10_join_100 : decode cX10_join 100 = .ok (.iload 6, 2) := by decide +kernel
theorem dX10_join_102 : decode cX10_join 102 = .ok (.invokevirtual 377, 3) := by decide +kernel
theorem dX10_join_105 : decode cX10_join 105 = .ok (.ireturn, 1) := by decide +kernel
set_option maxRecDepth 20000 in
theorem ggX10_stepsOf_X10_termAt : GoodIn wsX10_stepsOf wsX10_termAt := goodIn_r _ [5, 6, 7, 8, 9, 10, 4, 11, 12, 13, 14, 15, 16, 17, 18, 19, 20, 21, 182, 183, 184, 185, 186, 187, 188, 189, 190, 191, 192, 193, 194, 195, 196, 197, 198, 199, 200, 201, 202, 203, 204, 205, 206, 207, 208, 209, 210, 211, 212, 213, 214, 215, 216, 217, 218, 219, 220, 221, 222, 223, 224, 225, 226, 227, 228, 229, 230, 231] rfl (by decide +kernel)
set_option maxRecDepth 20000 in
theorem gX10_stepsOf_X10_termAt : GoodIn wsX10_stepsOf (wsV RX10 374 RX10 yX10_termAt wsX10_termAt) := goodIn_app (goodIn_of _ (by decide +kernel)) ggX10_stepsOf_X10_termAt
set_option maxRecDepth 20000 in
theorem ggX10_stepsOf_X10_rulesOn : GoodIn wsX10_stepsOf wsX10_rulesOn := goodIn_r _ [25, 26, 27, 182, 183, 184, 185, 186, 187, 188, 189, 190, 191, 192, 193, 194, 195, 196, 197, 198, 199, 200, 201, 202, 203, 204, 205, 206, 207, 208, 209, 210, 211, 212, 213, 214, 215, 216, 217, 218, 219, 220, 221, 222, 223, 224, 225, 226, 227, 228, 229, 230, 231] rfl (by decide +kernel)
set_option maxRecDepth 20000 in
theorem gX10_stepsOf_X10_rulesOn : GoodIn wsX10_stepsOf (wsV RX10 389 RX10 yX10_rulesOn wsX10_rulesOn) := goodIn_app (goodIn_of _ (by decide +kernel)) ggX10_stepsOf_X10_rulesOn
set_option maxRecDepth 20000 in
theorem ggX10_stepsOf_X10_laysSteps : GoodIn wsX10_stepsOf wsX10_laysSteps := goodIn_r _ [31, 32, 27, 7, 6, 33, 34, 35, 36, 37, 4, 38, 18, 19, 20, 21, 16, 39, 40, 41, 42, 43, 44, 45, 12, 13, 14, 15, 17, 46, 47, 48, 49, 50, 51, 52, 53, 54, 55, 56, 57, 58, 59, 60, 61, 62, 63, 64, 65, 66, 67, 68, 69, 70, 71, 72, 73, 74, 75, 76, 77, 78, 79, 80, 81, 82, 83, 84, 85, 86, 87, 88, 89, 90, 91, 92, 93, 94, 95, 96, 97, 98, 99, 100, 101, 102, 103, 104, 105, 106, 107, 108, 109, 110, 111, 112, 113, 114, 115, 116, 117, 118, 119, 120, 121, 122, 123, 124, 125, 126, 127, 128, 129, 130, 131, 132, 133, 134, 135, 136, 137, 138, 139, 140, 141, 142, 143, 144, 145, 146, 147, 148, 149, 150, 151, 152, 153, 154, 155, 156, 157, 158, 159, 160, 161, 162, 163, 164, 165, 166, 167, 168, 169, 170, 171, 172, 182, 183, 184, 185, 186, 187, 188, 189, 190, 191, 192, 193, 194, 195, 196, 197, 198, 199, 200, 201, 202, 203, 204, 205, 206, 207, 208, 209, 210, 211, 212, 213, 214, 215, 216, 217, 218, 219, 220, 221, 222, 223, 224, 225, 226, 227, 228, 229, 230, 231] rfl (by decide +kernel)
set_option maxRecDepth 20000 in
theorem gX10_stepsOf_X10_laysSteps : GoodIn wsX10_stepsOf (wsV RX10 392 RX10 yX10_laysSteps wsX10_laysSteps) := goodIn_app (goodIn_of _ (by decide +kernel)) ggX10_stepsOf_X10_laysSteps
set_option maxRecDepth 20000 in
theorem ggX10_stepsOf_X10_tooMuch : GoodIn wsX10_stepsOf wsX10_tooMuch := goodIn_r _ [176, 7, 177, 178, 179, 4, 180, 181, 182, 183, 184, 185, 186, 187, 188, 189, 190, 191, 192, 193, 194, 195, 196, 197, 198, 199, 200, 201, 202, 203, 204, 205, 206, 207, 208, 209, 210, 211, 212, 213, 214, 215, 216, 217, 218, 219, 220, 221, 222, 223, 224, 225, 226, 227, 228, 229, 230, 231] rfl (by decide +kernel)
set_option maxRecDepth 20000 in
theorem gX10_stepsOf_X10_tooMuch : GoodIn wsX10_stepsOf (wsV RX10 380 RX10 yX10_tooMuch wsX10_tooMuch) := goodIn_app (goodIn_of _ (by decide +kernel)) ggX10_stepsOf_X10_tooMuch
theorem dX10_stepsOf_0 : decode cX10_stepsOf 0 = .ok (.aload_n 0, 1) := by decide +kernel
theorem dX10_stepsOf_1 : decode cX10_stepsOf 1 = .ok (.aload_n 0, 1) := by decide +kernel
theorem dX10_stepsOf_2 : decode cX10_stepsOf 2 = .ok (.iload_n 1, 1) := by decide +kernel
theorem dX10_stepsOf_3 : decode cX10_stepsOf 3 = .ok (.invokevirtual 374, 3) := by decide +kernel
theorem dX10_stepsOf_6 : decode cX10_stepsOf 6 = .ok (.aload_n 0, 1) := by decide +kernel
theorem dX10_stepsOf_7 : decode cX10_stepsOf 7 = .ok (.invokevirtual 389, 3) := by decide +kernel
theorem dX10_stepsOf_10 : decode cX10_stepsOf 10 = .ok (.iconst 0, 1) := by decide +kernel
theorem dX10_stepsOf_11 : decode cX10_stepsOf 11 = .ok (.invokevirtual 392, 3) := by decide +kernel
theorem dX10_stepsOf_14 : decode cX10_stepsOf 14 = .ok (.aload_n 0, 1) := by decide +kernel
theorem dX10_stepsOf_15 : decode cX10_stepsOf 15 = .ok (.iload_n 2, 1) := by decide +kernel
theorem dX10_stepsOf_16 : decode cX10_stepsOf 16 = .ok (.invokevirtual 380, 3) := by decide +kernel
theorem dX10_stepsOf_19 : decode cX10_stepsOf 19 = .ok (.ifCond .ne 7, 3) := by decide +kernel
theorem dX10_stepsOf_22 : decode cX10_stepsOf 22 = .ok (.iconst 1, 1) := by decide +kernel
theorem dX10_stepsOf_23 : decode cX10_stepsOf 23 = .ok (.goto 4, 3) := by decide +kernel
theorem dX10_stepsOf_26 : decode cX10_stepsOf 26 = .ok (.iconst 0, 1) := by decide +kernel
theorem dX10_stepsOf_27 : decode cX10_stepsOf 27 = .ok (.ireturn, 1) := by decide +kernel
set_option maxRecDepth 20000 in
theorem ggX10_steps_X10_noTerm : GoodIn wsX10_steps wsX10_noTerm := goodIn_r _ [7, 8, 9, 10, 6, 11, 12, 13, 14, 15, 1, 194, 195, 196, 197, 198, 199, 200, 201, 202, 203, 204, 205, 206, 207, 208, 209, 210, 211, 212, 213, 214, 215, 216, 217, 218, 219, 220, 221, 222, 223, 224, 225, 226, 227, 228, 229, 230, 231, 232, 233, 234, 235, 236, 237, 238, 239, 240, 241, 242, 243] rfl (by decide +kernel)
set_option maxRecDepth 20000 in
theorem gX10_steps_X10_noTerm : GoodIn wsX10_steps (wsV RX10 371 RX10 yX10_noTerm wsX10_noTerm) := goodIn_app (goodIn_of _ (by decide +kernel)) ggX10_steps_X10_noTerm
set_option maxRecDepth 20000 in
theorem ggX10_steps_X10_stepsOf : GoodIn wsX10_steps wsX10_stepsOf := goodIn_r _ [19, 20, 21, 22, 6, 23, 24, 25, 26, 27, 28, 29, 30, 31, 32, 33, 34, 35, 36, 37, 38, 39, 40, 41, 42, 43, 44, 45, 46, 47, 48, 49, 2, 50, 51, 52, 53, 54, 55, 56, 57, 58, 59, 60, 61, 62, 63, 64, 65, 66, 67, 68, 69, 70, 71, 72, 73, 74, 75, 76, 77, 78, 79, 80, 81, 82, 83, 84, 85, 86, 87, 88, 89, 90, 91, 92, 93, 94, 95, 96, 97, 98, 99, 100, 101, 102, 103, 104, 105, 106, 107, 108, 109, 110, 111, 112, 113, 114, 115, 116, 117, 118, 119, 120, 121, 122, 123, 124, 125, 126, 127, 128, 129, 130, 131, 132, 133, 134, 135, 136, 137, 138, 139, 140, 141, 142, 143, 144, 145, 146, 147, 148, 149, 150, 151, 152, 153, 154, 155, 156, 157, 158, 159, 160, 161, 162, 163, 164, 165, 166, 167, 168, 169, 170, 171, 172, 173, 174, 175, 176, 177, 178, 179, 180, 181, 182, 183, 184, 185, 186, 187, 188, 189, 190, 191, 192, 193, 12, 13, 14, 15, 1, 194, 195, 196, 197, 198, 199, 200, 201, 202, 203, 204, 205, 206, 207, 208, 209, 210, 211, 212, 213, 214, 215, 216, 217, 218, 219, 220, 221, 222, 223, 224, 225, 226, 227, 228, 229, 230, 231, 232, 233, 234, 235, 236, 237, 238, 239, 240, 241, 242, 243] rfl (by decide +kernel)
set_option maxRecDepth 20000 in
theorem gX10_steps_X10_stepsOf : GoodIn wsX10_steps (wsV RX10 395 RX10 yX10_stepsOf wsX10_stepsOf) := goodIn_app (goodIn_of _ (by decide +kernel)) ggX10_steps_X10_stepsOf
theorem dX10_steps_0 : decode cX10_steps 0 = .ok (.aload_n 0, 1) := by decide +kernel
theorem dX10_steps_1 : decode cX10_steps 1 = .ok (.iconst 0, 1) := by decide +kernel
theorem dX10_steps_2 : decode cX10_steps 2 = .ok (.putfield 100, 3) := by decide +kernel
theorem dX10_steps_5 : decode cX10_steps 5 = .ok (.aload_n 0, 1) := by decide +kernel
theorem dX10_steps_6 : decode cX10_steps 6 = .ok (.iload_n 1, 1) := by decide +kernel
theorem dX10_steps_7 : decode cX10_steps 7 = .ok (.invokevirtual 371, 3) := by decide +kernel
theorem dX10_steps_10 : decode cX10_steps 10 = .ok (.ifCond .ne 12, 3) := by decide +kernel
theorem dX10_steps_13 : decode cX10_steps 13 = .ok (.aload_n 0, 1) := by decide +kernel
theorem dX10_steps_14 : decode cX10_steps 14 = .ok (.iload_n 1, 1) := by decide +kernel
theorem dX10_steps_15 : decode cX10_steps 15 = .ok (.iconst 2, 1) := by decide +kernel
theorem dX10_steps_16 : decode cX10_steps 16 = .ok (.invokevirtual 395, 3) := by decide +kernel
theorem dX10_steps_19 : decode cX10_steps 19 = .ok (.ifCond .ne 7, 3) := by decide +kernel
theorem dX10_steps_22 : decode cX10_steps 22 = .ok (.iconst 0, 1) := by decide +kernel
theorem dX10_steps_23 : decode cX10_steps 23 = .ok (.goto 7, 3) := by decide +kernel
theorem dX10_steps_26 : decode cX10_steps 26 = .ok (.aload_n 0, 1) := by decide +kernel
theorem dX10_steps_27 : decode cX10_steps 27 = .ok (.getfield 342, 3) := by decide +kernel
theorem dX10_steps_30 : decode cX10_steps 30 = .ok (.ireturn, 1) := by decide +kernel
set_option maxRecDepth 20000 in
theorem ggX10_stepComes_X10_partsAt : GoodIn wsX10_stepComes wsX10_partsAt := goodIn_r _ [8, 2, 9, 10, 11, 12, 13, 14, 15, 16, 17, 18, 19, 20, 21, 22, 23, 24, 25, 26, 27, 28, 29, 30, 31, 32, 33, 34, 35, 36, 37, 38, 39, 40, 41, 42, 43, 44, 45, 46, 47, 48, 49, 50, 51, 52, 53, 54, 55, 56, 57, 58] rfl (by decide +kernel)
set_option maxRecDepth 20000 in
theorem gX10_stepComes_X10_partsAt : GoodIn wsX10_stepComes (wsV RX10 209 RX10 yX10_partsAt wsX10_partsAt) := goodIn_app (goodIn_of _ (by decide +kernel)) ggX10_stepComes_X10_partsAt
theorem dX10_stepComes_0 : decode cX10_stepComes 0 = .ok (.aload_n 0, 1) := by decide +kernel
theorem dX10_stepComes_1 : decode cX10_stepComes 1 = .ok (.getfield 178, 3) := by decide +kernel
theorem dX10_stepComes_4 : decode cX10_stepComes 4 = .ok (.istore_n 2, 1) := by decide +kernel
theorem dX10_stepComes_5 : decode cX10_stepComes 5 = .ok (.iconst 1, 1) := by decide +kernel
theorem dX10_stepComes_6 : decode cX10_stepComes 6 = .ok (.istore_n 3, 1) := by decide +kernel
theorem dX10_stepComes_7 : decode cX10_stepComes 7 = .ok (.bipush 21, 2) := by decide +kernel
theorem dX10_stepComes_9 : decode cX10_stepComes 9 = .ok (.iload_n 1, 1) := by decide +kernel
theorem dX10_stepComes_10 : decode cX10_stepComes 10 = .ok (.imul, 1) := by decide +kernel
theorem dX10_stepComes_11 : decode cX10_stepComes 11 = .ok (.istore 4, 2) := by decide +kernel
theorem dX10_stepComes_13 : decode cX10_stepComes 13 = .ok (.iload_n 3, 1) := by decide +kernel
theorem dX10_stepComes_14 : decode cX10_stepComes 14 = .ok (.ifCond .le 48, 3) := by decide +kernel
theorem dX10_stepComes_17 : decode cX10_stepComes 17 = .ok (.aload_n 0, 1) := by decide +kernel
theorem dX10_stepComes_18 : decode cX10_stepComes 18 = .ok (.getfield 52, 3) := by decide +kernel
theorem dX10_stepComes_21 : decode cX10_stepComes 21 = .ok (.aload_n 0, 1) := by decide +kernel
theorem dX10_stepComes_22 : decode cX10_stepComes 22 = .ok (.getfield 178, 3) := by decide +kernel
theorem dX10_stepComes_25 : decode cX10_stepComes 25 = .ok (.aload_n 0, 1) := by decide +kernel
theorem dX10_stepComes_26 : decode cX10_stepComes 26 = .ok (.getfield 82, 3) := by decide +kernel
theorem dX10_stepComes_29 : decode cX10_stepComes 29 = .ok (.iload 4, 2) := by decide +kernel
theorem dX10_stepComes_31 : decode cX10_stepComes 31 = .ok (.iaload, 1) := by decide +kernel
theorem dX10_stepComes_32 : decode cX10_stepComes 32 = .ok (.iastore, 1) := by decide +kernel
theorem dX10_stepComes_33 : decode cX10_stepComes 33 = .ok (.iload_n 3, 1) := by decide +kernel
theorem dX10_stepComes_34 : decode cX10_stepComes 34 = .ok (.aload_n 0, 1) := by decide +kernel
theorem dX10_stepComes_35 : decode cX10_stepComes 35 = .ok (.aload_n 0, 1) := by decide +kernel
theorem dX10_stepComes_36 : decode cX10_stepComes 36 = .ok (.getfield 178, 3) := by decide +kernel
theorem dX10_stepComes_39 : decode cX10_stepComes 39 = .ok (.invokevirtual 209, 3) := by decide +kernel
theorem dX10_stepComes_42 : decode cX10_stepComes 42 = .ok (.iconst 1, 1) := by decide +kernel
theorem dX10_stepComes_43 : decode cX10_stepComes 43 = .ok (.isub, 1) := by decide +kernel
theorem dX10_stepComes_44 : decode cX10_stepComes 44 = .ok (.iadd, 1) := by decide +kernel
theorem dX10_stepComes_45 : decode cX10_stepComes 45 = .ok (.istore_n 3, 1) := by decide +kernel
theorem dX10_stepComes_46 : decode cX10_stepComes 46 = .ok (.aload_n 0, 1) := by decide +kernel
theorem dX10_stepComes_47 : decode cX10_stepComes 47 = .ok (.dup, 1) := by decide +kernel
