theorem dX0_init_0 : decode cX0_init 0 = .ok (.aload_n 0, 1) := by decide +kernel
theorem dX0_init_1 : decode cX0_init 1 = .ok (.invokespecial 5, 3) := by decide +kernel
theorem dX0_init_4 : decode cX0_init 4 = .ok (.aload_n 0, 1) := by decide +kernel
theorem dX0_init_5 : decode cX0_init 5 = .ok (.sipush 256, 3) := by decide +kernel
theorem dX0_init_8 : decode cX0_init 8 = .ok (.newarray .int, 2) := by decide +kernel
theorem dX0_init_10 : decode cX0_init 10 = .ok (.putfield 13, 3) := by decide +kernel
theorem dX0_init_13 : decode cX0_init 13 = .ok (.aload_n 0, 1) := by decide +kernel
theorem dX0_init_14 : decode cX0_init 14 = .ok (.sipush 256, 3) := by decide +kernel
theorem dX0_init_17 : decode cX0_init 17 = .ok (.newarray .int, 2) := by decide +kernel
theorem dX0_init_19 : decode cX0_init 19 = .ok (.putfield 17, 3) := by decide +kernel
theorem dX0_init_22 : decode cX0_init 22 = .ok (.aload_n 0, 1) := by decide +kernel
theorem dX0_init_23 : decode cX0_init 23 = .ok (.sipush 256, 3) := by decide +kernel
theorem dX0_init_26 : decode cX0_init 26 = .ok (.newarray .int, 2) := by decide +kernel
theorem dX0_init_28 : decode cX0_init 28 = .ok (.putfield 20, 3) := by decide +kernel
theorem dX0_init_31 : decode cX0_init 31 = .ok (.aload_n 0, 1) := by decide +kernel
theorem dX0_init_32 : decode cX0_init 32 = .ok (.sipush 256, 3) := by decide +kernel
theorem dX0_init_35 : decode cX0_init 35 = .ok (.newarray .int, 2) := by decide +kernel
theorem dX0_init_37 : decode cX0_init 37 = .ok (.putfield 23, 3) := by decide +kernel
theorem dX0_init_40 : decode cX0_init 40 = .ok (.aload_n 0, 1) := by decide +kernel
theorem dX0_init_41 : decode cX0_init 41 = .ok (.iconst 5, 1) := by decide +kernel
theorem dX0_init_42 : decode cX0_init 42 = .ok (.newarray .int, 2) := by decide +kernel
theorem dX0_init_44 : decode cX0_init 44 = .ok (.putfield 26, 3) := by decide +kernel
theorem dX0_init_47 : decode cX0_init 47 = .ok (.aload_n 0, 1) := by decide +kernel
theorem dX0_init_48 : decode cX0_init 48 = .ok (.bipush 64, 2) := by decide +kernel
theorem dX0_init_50 : decode cX0_init 50 = .ok (.newarray .int, 2) := by decide +kernel
theorem dX0_init_52 : decode cX0_init 52 = .ok (.putfield 29, 3) := by decide +kernel
theorem dX0_init_55 : decode cX0_init 55 = .ok (.aload_n 0, 1) := by decide +kernel
theorem dX0_init_56 : decode cX0_init 56 = .ok (.bipush 64, 2) := by decide +kernel
theorem dX0_init_58 : decode cX0_init 58 = .ok (.newarray .int, 2) := by decide +kernel
theorem dX0_init_60 : decode cX0_init 60 = .ok (.putfield 32, 3) := by decide +kernel
theorem dX0_init_63 : decode cX0_init 63 = .ok (.aload_n 0, 1) := by decide +kernel
theorem dX0_init_64 : decode cX0_init 64 = .ok (.bipush 64, 2) := by decide +kernel
theorem dX0_init_66 : decode cX0_init 66 = .ok (.newarray .int, 2) := by decide +kernel
theorem dX0_init_68 : decode cX0_init 68 = .ok (.putfield 35, 3) := by decide +kernel
theorem dX0_init_71 : decode cX0_init 71 = .ok (.aload_n 0, 1) := by decide +kernel
theorem dX0_init_72 : decode cX0_init 72 = .ok (.bipush 64, 2) := by decide +kernel
theorem dX0_init_74 : decode cX0_init 74 = .ok (.newarray .int, 2) := by decide +kernel
theorem dX0_init_76 : decode cX0_init 76 = .ok (.putfield 38, 3) := by decide +kernel
theorem dX0_init_79 : decode cX0_init 79 = .ok (.aload_n 0, 1) := by decide +kernel
theorem dX0_init_80 : decode cX0_init 80 = .ok (.bipush 64, 2) := by decide +kernel
theorem dX0_init_82 : decode cX0_init 82 = .ok (.newarray .int, 2) := by decide +kernel
theorem dX0_init_84 : decode cX0_init 84 = .ok (.putfield 41, 3) := by decide +kernel
theorem dX0_init_87 : decode cX0_init 87 = .ok (.aload_n 0, 1) := by decide +kernel
theorem dX0_init_88 : decode cX0_init 88 = .ok (.bipush 64, 2) := by decide +kernel
theorem dX0_init_90 : decode cX0_init 90 = .ok (.newarray .int, 2) := by decide +kernel
theorem dX0_init_92 : decode cX0_init 92 = .ok (.putfield 44, 3) := by decide +kernel
theorem dX0_init_95 : decode cX0_init 95 = .ok (.aload_n 0, 1) := by decide +kernel
theorem dX0_init_96 : decode cX0_init 96 = .ok (.sipush 1505, 3) := by decide +kernel
theorem dX0_init_99 : decode cX0_init 99 = .ok (.newarray .int, 2) := by decide +kernel
theorem dX0_init_101 : decode cX0_init 101 = .ok (.putfield 47, 3) := by decide +kernel
theorem dX0_init_104 : decode cX0_init 104 = .ok (.aload_n 0, 1) := by decide +kernel
theorem dX0_init_105 : decode cX0_init 105 = .ok (.sipush 301, 3) := by decide +kernel
theorem dX0_init_108 : decode cX0_init 108 = .ok (.newarray .int, 2) := by decide +kernel
theorem dX0_init_110 : decode cX0_init 110 = .ok (.putfield 50, 3) := by decide +kernel
theorem dX0_init_113 : decode cX0_init 113 = .ok (.aload_n 0, 1) := by decide +kernel
theorem dX0_init_114 : decode cX0_init 114 = .ok (.aload_n 1, 1) := by decide +kernel
theorem dX0_init_115 : decode cX0_init 115 = .ok (.putfield 53, 3) := by decide +kernel
theorem dX0_init_118 : decode cX0_init 118 = .ok (.return_, 1) := by decide +kernel
set_option maxRecDepth 20000 in
theorem ggX0_run_X0_fits : GoodIn wsX0_run wsX0_fits := goodIn_r _ [14, 8, 15, 16, 4, 17, 18, 19, 20, 21, 22, 23, 24, 25, 26, 27, 28, 29, 246, 247, 248, 249, 250, 251, 252, 253, 254, 255, 256, 257, 258, 259, 260, 261, 262, 263, 264, 265, 266, 267, 268, 269, 270, 271, 272, 273, 274, 275, 276, 277, 278, 279, 280, 281, 282, 283, 284] rfl (by decide +kernel)
set_option maxRecDepth 20000 in
theorem gX0_run_X0_fits : GoodIn wsX0_run (wsV RX0 76 RX0 yX0_fits wsX0_fits) := goodIn_app (goodIn_of _ (by decide +kernel)) ggX0_run_X0_fits
set_option maxRecDepth 20000 in
theorem ggX0_run_X0_addGoal : GoodIn wsX0_run wsX0_addGoal := goodIn_r _ [33, 2, 9, 34, 35, 36, 246, 247, 248, 249, 250, 251, 252, 253, 254, 255, 256, 257, 258, 259, 260, 261, 262, 263, 264, 265] rfl (by decide +kernel)
set_option maxRecDepth 20000 in
theorem gX0_run_X0_addGoal : GoodIn wsX0_run (wsV RX0 80 RX0 yX0_addGoal wsX0_addGoal) := goodIn_app (goodIn_of _ (by decide +kernel)) ggX0_run_X0_addGoal
set_option maxRecDepth 20000 in
theorem ggX0_run_X8_kindAt : GoodIn wsX0_run wsX8_kindAt := goodIn_r _ [40, 41, 42, 43, 44, 21, 45, 23, 46, 47, 48, 49, 50, 51, 52, 53, 54, 55, 266, 267, 268, 269, 270, 271, 272, 273, 274, 275, 276, 277, 278, 279, 280, 281, 282, 283, 284, 285, 286, 287, 288, 289, 290, 291, 292] rfl (by decide +kernel)
set_option maxRecDepth 20000 in
theorem gX0_run_X8_kindAt : GoodIn wsX0_run (wsV RX0 85 RX8 yX8_kindAt wsX8_kindAt) := goodIn_app (goodIn_of _ (by decide +kernel)) ggX0_run_X8_kindAt
set_option maxRecDepth 20000 in
theorem ggX0_run_X0_meetSum : GoodIn wsX0_run wsX0_meetSum := goodIn_r _ [59, 9, 35, 8, 34, 4, 17, 60, 43, 44, 21, 45, 23, 46, 47, 48, 49, 61, 62, 63, 64, 65, 66, 41, 42, 67, 68, 69, 53, 70, 71, 72, 73, 74, 75, 76, 77, 78, 79, 80, 81, 82, 83, 84, 85, 86, 87, 88, 89, 90, 91, 92, 93, 94, 95, 96, 97, 98, 99, 100, 101, 102, 103, 50, 51, 52, 54, 55, 104, 105, 106, 107, 108, 109, 110, 111, 112, 113, 114, 115, 116, 117, 118, 119, 120, 121, 122, 123, 124, 125, 126, 127, 128, 24, 29, 129, 130, 131, 132, 133, 134, 135, 136, 137, 138, 139, 140, 141, 142, 143, 144, 145, 146, 147, 148, 149, 150, 151, 152, 153, 13, 154, 36, 155, 156, 157, 158, 159, 160, 161, 162, 163, 164, 165, 166, 167, 168, 169, 170, 171, 172, 30, 31, 32, 33, 2, 173, 174, 175, 176, 177, 178, 179, 180, 181, 182, 183, 184, 5, 185, 186, 187, 188, 18, 19, 20, 22, 189, 190, 191, 192, 3, 1, 193, 194, 195, 196, 197, 198, 246, 247, 248, 249, 250, 251, 252, 253, 254, 255, 256, 257, 258, 259, 260, 261, 262, 263, 264, 265, 266, 267, 268, 269, 270, 271, 272, 273, 274, 275, 276, 277, 278, 279, 280, 281, 282, 283, 284, 285, 286, 287, 288, 289, 290, 291, 292] rfl (by decide +kernel)
set_option maxRecDepth 20000 in
theorem gX0_run_X0_meetSum : GoodIn wsX0_run (wsV RX0 89 RX0 yX0_meetSum wsX0_meetSum) := goodIn_app (goodIn_of _ (by decide +kernel)) ggX0_run_X0_meetSum
set_option maxRecDepth 20000 in
theorem ggX0_run_X0_meetPlain : GoodIn wsX0_run wsX0_meetPlain := goodIn_r _ [202, 9, 35, 8, 4, 17, 36, 5, 6, 60, 43, 44, 21, 45, 23, 46, 77, 78, 79, 80, 81, 82, 83, 84, 85, 86, 87, 42, 88, 61, 48, 62, 89, 73, 74, 75, 76, 90, 91, 92, 93, 94, 47, 49, 95, 96, 97, 98, 99, 100, 101, 41, 102, 103, 50, 51, 52, 53, 54, 55, 67, 68, 69, 70, 71, 104, 105, 106, 107, 108, 109, 110, 111, 112, 113, 114, 115, 116, 117, 118, 119, 120, 121, 122, 123, 124, 125, 126, 127, 128, 24, 29, 129, 130, 140, 141, 142, 143, 144, 145, 146, 147, 148, 149, 150, 203, 204, 205, 13, 206, 10, 11, 12, 14, 15, 16, 18, 19, 20, 22, 25, 26, 27, 28, 37, 38, 39, 40, 189, 190, 191, 192, 3, 1, 193, 194, 195, 196, 197, 198, 2, 207, 208, 209, 210, 72, 30, 31, 32, 33, 34, 246, 247, 248, 249, 250, 251, 252, 253, 254, 255, 256, 257, 258, 259, 260, 261, 262, 263, 264, 265, 266, 267, 268, 269, 270, 271, 272, 273, 274, 275, 276, 277, 278, 279, 280, 281, 282, 283, 284, 285, 286, 287, 288, 289, 290, 291, 292] rfl (by decide +kernel)
set_option maxRecDepth 20000 in
theorem gX0_run_X0_meetPlain : GoodIn wsX0_run (wsV RX0 92 RX0 yX0_meetPlain wsX0_meetPlain) := goodIn_app (goodIn_of _ (by decide +kernel)) ggX0_run_X0_meetPlain
set_option maxRecDepth 20000 in
theorem ggX0_run_X0_record : GoodIn wsX0_run wsX0_record := goodIn_r _ [214, 1, 215, 4, 17, 216, 217, 218, 219, 220, 221, 222, 223, 13, 224, 8, 225, 110, 111, 21, 112, 46, 76, 113, 114, 115, 116, 246, 247, 248, 249, 250, 251, 252, 253, 254, 255, 256, 257, 258, 259, 260, 261, 262, 263, 264, 265, 266, 267, 268, 269, 270, 271, 272, 273, 274, 275, 276, 277, 278, 279, 280, 281, 282, 283, 284] rfl (by decide +kernel)
set_option maxRecDepth 20000 in
theorem gX0_run_X0_record : GoodIn wsX0_run (wsV RX0 95 RX0 yX0_record wsX0_record) := goodIn_app (goodIn_of _ (by decide +kernel)) ggX0_run_X0_record
set_option maxRecDepth 20000 in
theorem ggX0_run_X0_hasWay : GoodIn wsX0_run wsX0_hasWay := goodIn_r _ [229, 3, 197, 4, 198, 2, 195, 196, 246, 247, 248, 249, 250, 251, 252, 253, 254, 255, 256, 257, 258, 259, 260, 261, 262, 263, 264, 265] rfl (by decide +kernel)
set_option maxRecDepth 20000 in
theorem gX0_run_X0_hasWay : GoodIn wsX0_run (wsV RX0 98 RX0 yX0_hasWay wsX0_hasWay) := goodIn_app (goodIn_of _ (by decide +kernel)) ggX0_run_X0_hasWay
set_option maxRecDepth 20000 in
theorem ggX0_run_X0_lastIsPair : GoodIn wsX0_run wsX0_lastIsPair := goodIn_r _ [233, 3, 193, 8, 9, 37, 38, 39, 21, 40, 41, 42, 43, 44, 45, 23, 46, 47, 48, 49, 50, 51, 52, 53, 54, 55, 246, 247, 248, 249, 250, 251, 252, 253, 254, 255, 256, 257, 258, 259, 260, 261, 262, 263, 264, 265, 266, 267, 268, 269, 270, 271, 272, 273, 274, 275, 276, 277, 278, 279, 280, 281, 282, 283, 284, 285, 286, 287, 288, 289, 290, 291, 292] rfl (by decide +kernel)
set_option maxRecDepth 20000 in
theorem gX0_run_X0_lastIsPair : GoodIn wsX0_run (wsV RX0 102 RX0 yX0_lastIsPair wsX0_lastIsPair) := goodIn_app (goodIn_of _ (by decide +kernel)) ggX0_run_X0_lastIsPair
set_option maxRecDepth 20000 in
theorem ggX0_run_X0_meetPair : GoodIn wsX0_run wsX0_meetPair := goodIn_r _ [237, 193, 195, 9, 8, 35, 36, 72, 73, 74, 21, 75, 23, 76, 30, 31, 32, 13, 33, 2, 34, 246, 247, 248, 249, 250, 251, 252, 253, 254, 255, 256, 257, 258, 259, 260, 261, 262, 263, 264, 265, 266, 267, 268, 269, 270, 271, 272, 273, 274, 275, 276, 277, 278, 279, 280, 281, 282, 283, 284] rfl (by decide +kernel)
set_option maxRecDepth 20000 in
theorem gX0_run_X0_meetPair : GoodIn wsX0_run (wsV RX0 105 RX0 yX0_meetPair wsX0_meetPair) := goodIn_app (goodIn_of _ (by decide +kernel)) ggX0_run_X0_meetPair
set_option maxRecDepth 20000 in
theorem ggX0_run_X0_share : GoodIn wsX0_run wsX0_share := goodIn_r _ [241, 193, 9, 35, 8, 194, 195, 34, 5, 6, 60, 43, 44, 21, 45, 23, 46, 47, 48, 49, 72, 73, 74, 75, 76, 185, 186, 187, 188, 41, 242, 243, 244, 245, 136, 137, 138, 139, 155, 156, 157, 158, 159, 160, 161, 53, 162, 71, 169, 170, 171, 172, 108, 67, 68, 69, 70, 121, 122, 123, 124, 125, 81, 126, 127, 128, 24, 29, 129, 130, 63, 64, 65, 66, 42, 61, 62, 131, 132, 133, 134, 135, 10, 11, 12, 13, 14, 15, 16, 4, 17, 18, 19, 20, 22, 25, 26, 27, 28, 203, 204, 205, 206, 151, 152, 153, 154, 36, 163, 164, 115, 165, 166, 167, 168, 30, 31, 32, 33, 2, 173, 174, 175, 176, 246, 247, 248, 249, 250, 251, 252, 253, 254, 255, 256, 257, 258, 259, 260, 261, 262, 263, 264, 265, 266, 267, 268, 269, 270, 271, 272, 273, 274, 275, 276, 277, 278, 279, 280, 281, 282, 283, 284, 285, 286, 287, 288, 289, 290, 291, 292] rfl (by decide +kernel)
set_option maxRecDepth 20000 in
theorem gX0_run_X0_share : GoodIn wsX0_run (wsV RX0 108 RX0 yX0_share wsX0_share) := goodIn_app (goodIn_of _ (by decide +kernel)) ggX0_run_X0_share
theorem dX0_run_0 : decode cX0_run 0 = .ok (.aload_n 0, 1) := by decide +kernel
theorem dX0_run_1 : decode cX0_run 1 = .ok (.iconst 0, 1) := by decide +kernel
theorem dX0_run_2 : decode cX0_run 2 = .ok (.putfield 57, 3) := by decide +kernel
theorem dX0_run_5 : decode cX0_run 5 = .ok (.aload_n 0, 1) := by decide +kernel
theorem dX0_run_6 : decode cX0_run 6 = .ok (.iconst 0, 1) := by decide +kernel
theorem dX0_run_7 : decode cX0_run 7 = .ok (.putfield 61, 3) := by decide +kernel
theorem dX0_run_10 : decode cX0_run 10 = .ok (.aload_n 0, 1) := by decide +kernel
theorem dX0_run_11 : decode cX0_run 11 = .ok (.iconst 0, 1) := by decide +kernel
theorem dX0_run_12 : decode cX0_run 12 = .ok (.putfield 64, 3) := by decide +kernel
theorem dX0_run_15 : decode cX0_run 15 = .ok (.aload_n 0, 1) := by decide +kernel
theorem dX0_run_16 : decode cX0_run 16 = .ok (.iconst 0, 1) := by decide +kernel
theorem dX0_run_17 : decode cX0_run 17 = .ok (.putfield 67, 3) := by decide +kernel
theorem dX0_run_20 : decode cX0_run 20 = .ok (.aload_n 0, 1) := by decide +kernel
theorem dX0_run_21 : decode cX0_run 21 = .ok (.iload_n 1, 1) := by decide +kernel
theorem dX0_run_22 : decode cX0_run 22 = .ok (.putfield 70, 3) := by decide +kernel
theorem dX0_run_25 : decode cX0_run 25 = .ok (.aload_n 0, 1) := by decide +kernel
theorem dX0_run_26 : decode cX0_run 26 = .ok (.iload_n 2, 1) := by decide +kernel
theorem dX0_run_27 : decode cX0_run 27 = .ok (.putfield 73, 3) := by decide +kernel
theorem dX0_run_30 : decode cX0_run 30 = .ok (.aload_n 0, 1) := by decide +kernel
theorem dX0_run_31 : decode cX0_run 31 = .ok (.iload_n 1, 1) := by decide +kernel
theorem dX0_run_32 : decode cX0_run 32 = .ok (.iload_n 2, 1) := by decide +kernel
theorem dX0_run_33 : decode cX0_run 33 = .ok (.invokevirtual 76, 3) := by decide +kernel
theorem dX0_run_36 : decode cX0_run 36 = .ok (.ifCond .ne 8, 3) := by decide +kernel
theorem dX0_run_39 : decode cX0_run 39 = .ok (.bipush (-2), 2) := by decide +kernel
theorem dX0_run_41 : decode cX0_run 41 = .ok (.goto 12, 3) := by decide +kernel
theorem dX0_run_44 : decode cX0_run 44 = .ok (.aload_n 0, 1) := by decide +kernel
theorem dX0_run_45 : decode cX0_run 45 = .ok (.iload_n 1, 1) := by decide +kernel
theorem dX0_run_46 : decode cX0_run 46 = .ok (.bipush 63, 2) := by decide +kernel
theorem dX0_run_48 : decode cX0_run 48 = .ok (.iload_n 2, 1) := by decide +kernel
theorem dX0_run_49 : decode cX0_run 49 = .ok (.iconst (-1), 1) := by decide +kernel
theorem dX0_run_50 : decode cX0_run 50 = .ok (.invokevirtual 80, 3) := by decide +kernel
theorem dX0_run_53 : decode cX0_run 53 = .ok (.istore_n 3, 1) := by decide +kernel
theorem dX0_run_54 : decode cX0_run 54 = .ok (.iconst 0, 1) := by decide +kernel
theorem dX0_run_55 : decode cX0_run 55 = .ok (.istore 4, 2) := by decide +kernel
theorem dX0_run_57 : decode cX0_run 57 = .ok (.iload 4, 2) := by decide +kernel
theorem dX0_run_59 : decode cX0_run 59 = .ok (.ldc 84, 2) := by decide +kernel
theorem dX0_run_61 : decode cX0_run 61 = .ok (.if_icmp .ge 126, 3) := by decide +kernel
theorem dX0_run_64 : decode cX0_run 64 = .ok (.aload_n 0, 1) := by decide +kernel
theorem dX0_run_65 : decode cX0_run 65 = .ok (.getfield 57, 3) := by decide +kernel
theorem dX0_run_68 : decode cX0_run 68 = .ok (.sipush 300, 3) := by decide +kernel
theorem dX0_run_71 : decode cX0_run 71 = .ok (.if_icmp .gt 116, 3) := by decide +kernel
theorem dX0_run_74 : decode cX0_run 74 = .ok (.iload_n 3, 1) := by decide +kernel
theorem dX0_run_75 : decode cX0_run 75 = .ok (.ifCond .lt 44, 3) := by decide +kernel
theorem dX0_run_78 : decode cX0_run 78 = .ok (.iload_n 3, 1) := by decide +kernel
theorem dX0_run_79 : decode cX0_run 79 = .ok (.sipush 256, 3) := by decide +kernel
theorem dX0_run_82 : decode cX0_run 82 = .ok (.if_icmp .ge 37, 3) := by decide +kernel
theorem dX0_run_85 : decode cX0_run 85 = .ok (.aload_n 0, 1) := by decide +kernel
theorem dX0_run_86 : decode cX0_run 86 = .ok (.getfield 53, 3) := by decide +kernel
theorem dX0_run_89 : decode cX0_run 89 = .ok (.aload_n 0, 1) := by decide +kernel
theorem dX0_run_90 : decode cX0_run 90 = .ok (.getfield 13, 3) := by decide +kernel
theorem dX0_run_93 : decode cX0_run 93 = .ok (.iload_n 3, 1) := by decide +kernel
theorem dX0_run_94 : decode cX0_run 94 = .ok (.iaload, 1) := by decide +kernel
theorem dX0_run_95 : decode cX0_run 95 = .ok (.invokevirtual 85, 3) := by decide +kernel
theorem dX0_run_98 : decode cX0_run 98 = .ok (.iconst 2, 1) := by decide +kernel
theorem dX0_run_99 : decode cX0_run 99 = .ok (.if_icmp .ne 11, 3) := by decide +kernel
theorem dX0_run_102 : decode cX0_run 102 = .ok (.aload_n 0, 1) := by decide +kernel
theorem dX0_run_103 : decode cX0_run 103 = .ok (.iload_n 3, 1) := by decide +kernel
theorem dX0_run_104 : decode cX0_run 104 = .ok (.invokevirtual 89, 3) := by decide +kernel
theorem dX0_run_107 : decode cX0_run 107 = .ok (.goto 8, 3) := by decide +kernel
theorem dX0_run_110 : decode cX0_run 110 = .ok (.aload_n 0, 1) := by decide +kernel
theorem dX0_run_111 : decode cX0_run 111 = .ok (.iload_n 3, 1) := by decide +kernel
theorem dX0_run_112 : decode cX0_run 112 = .ok (.invokevirtual 92, 3) := by decide +kernel
theorem dX0_run_115 : decode cX0_run 115 = .ok (.istore_n 3, 1) := by decide +kernel
theorem dX0_run_116 : decode cX0_run 116 = .ok (.goto 65, 3) := by decide +kernel
theorem dX0_run_119 : decode cX0_run 119 = .ok (.iload_n 3, 1) := by decide +kernel
theorem dX0_run_120 : decode cX0_run 120 = .ok (.iconst (-1), 1) := by decide +kernel
theorem dX0_run_121 : decode cX0_run 121 = .ok (.if_icmp .ne 13, 3) := by decide +kernel
theorem dX0_run_124 : decode cX0_run 124 = .ok (.aload_n 0, 1) := by decide +kernel
theorem dX0_run_125 : decode cX0_run 125 = .ok (.invokevirtual 95, 3) := by decide +kernel
theorem dX0_run_128 : decode cX0_run 128 = .ok (.bipush (-2), 2) := by decide +kernel
theorem dX0_run_130 : decode cX0_run 130 = .ok (.istore_n 3, 1) := by decide +kernel
theorem dX0_run_131 : decode cX0_run 131 = .ok (.goto 50, 3) := by decide +kernel
theorem dX0_run_134 : decode cX0_run 134 = .ok (.aload_n 0, 1) := by decide +kernel
theorem dX0_run_135 : decode cX0_run 135 = .ok (.getfield 64, 3) := by decide +kernel
theorem dX0_run_138 : decode cX0_run 138 = .ok (.ifCond .gt 5, 3) := by decide +kernel
theorem dX0_run_141 : decode cX0_run 141 = .ok (.iconst 1, 1) := by decide +kernel
theorem dX0_run_142 : decode cX0_run 142 = .ok (.ireturn, 1) := by decide +kernel
theorem dX0_run_143 : decode cX0_run 143 = .ok (.aload_n 0, 1) := by decide +kernel
theorem dX0_run_144 : decode cX0_run 144 = .ok (.invokevirtual 98, 3) := by decide +kernel
theorem dX0_run_147 : decode cX0_run 147 = .ok (.ifCond .eq 34, 3) := by decide +kernel
theorem dX0_run_150 : decode cX0_run 150 = .ok (.aload_n 0, 1) := by decide +kernel
theorem dX0_run_151 : decode cX0_run 151 = .ok (.invokevirtual 102, 3) := by decide +kernel
theorem dX0_run_154 : decode cX0_run 154 = .ok (.ifCond .eq 16, 3) := by decide +kernel
theorem dX0_run_157 : decode cX0_run 157 = .ok (.aload_n 0, 1) := by decide +kernel
theorem dX0_run_158 : decode cX0_run 158 = .ok (.aload_n 0, 1) := by decide +kernel
theorem dX0_run_159 : decode cX0_run 159 = .ok (.getfield 64, 3) := by decide +kernel
theorem dX0_run_162 : decode cX0_run 162 = .ok (.iconst 1, 1) := by decide +kernel
theorem dX0_run_163 : decode cX0_run 163 = .ok (.isub, 1) := by decide +kernel
theorem dX0_run_164 : decode cX0_run 164 = .ok (.invokevirtual 105, 3) := by decide +kernel
theorem dX0_run_167 : decode cX0_run 167 = .ok (.goto 13, 3) := by decide +kernel
theorem dX0_run_170 : decode cX0_run 170 = .ok (.aload_n 0, 1) := by decide +kernel
theorem dX0_run_171 : decode cX0_run 171 = .ok (.aload_n 0, 1) := by decide +kernel
theorem dX0_run_172 : decode cX0_run 172 = .ok (.getfield 64, 3) := by decide +kernel
theorem dX0_run_175 : decode cX0_run 175 = .ok (.iconst 1, 1) := by decide +kernel
theorem dX0_run_176 : decode cX0_run 176 = .ok (.isub, 1) := by decide +kernel
theorem dX0_run_177 : decode cX0_run 177 = .ok (.invokevirtual 108, 3) := by decide +kernel
theorem dX0_run_180 : decode cX0_run 180 = .ok (.istore_n 3, 1) := by decide +kernel
theorem dX0_run_181 : decode cX0_run 181 = .ok (.iinc 4 1, 3) := by decide +kernel
theorem dX0_run_184 : decode cX0_run 184 = .ok (.goto (-127), 3) := by decide +kernel
theorem dX0_run_187 : decode cX0_run 187 = .ok (.iconst 0, 1) := by decide +kernel
theorem dX0_run_188 : decode cX0_run 188 = .ok (.ireturn, 1) := by decide +kernel
theorem dX0_baseOf_0 : decode cX0_baseOf 0 = .ok (.iload_n 1, 1) := by decide +kernel
theorem dX0_baseOf_1 : decode cX0_baseOf 1 = .ok (.ifCond .lt 29, 3) := by decide +kernel
theorem dX0_baseOf_4 : decode cX0_baseOf 4 = .ok (.iload_n 1, 1) := by decide +kernel
theorem dX0_baseOf_5 : decode cX0_baseOf 5 = .ok (.aload_n 0, 1) := by decide +kernel
theorem dX0_baseOf_6 : decode cX0_baseOf 6 = .ok (.getfield 57, 3) := by decide +kernel
theorem dX0_baseOf_9 : decode cX0_baseOf 9 = .ok (.if_icmp .ge 21, 3) := by decide +kernel
theorem dX0_baseOf_12 : decode cX0_baseOf 12 = .ok (.iload_n 1, 1) := by decide +kernel
theorem dX0_baseOf_13 : decode cX0_baseOf 13 = .ok (.sipush 300, 3) := by decide +kernel
theorem dX0_baseOf_16 : decode cX0_baseOf 16 = .ok (.if_icmp .gt 14, 3) := by decide +kernel
theorem dX0_baseOf_19 : decode cX0_baseOf 19 = .ok (.aload_n 0, 1) := by decide +kernel
theorem dX0_baseOf_20 : decode cX0_baseOf 20 = .ok (.getfield 50, 3) := by decide +kernel
theorem dX0_baseOf_23 : decode cX0_baseOf 23 = .ok (.iload_n 1, 1) := by decide +kernel
theorem dX0_baseOf_24 : decode cX0_baseOf 24 = .ok (.iaload, 1) := by decide +kernel
theorem dX0_baseOf_25 : decode cX0_baseOf 25 = .ok (.iconst 5, 1) := by decide +kernel
theorem dX0_baseOf_26 : decode cX0_baseOf 26 = .ok (.imul, 1) := by decide +kernel
theorem dX0_baseOf_27 : decode cX0_baseOf 27 = .ok (.goto 4, 3) := by decide +kernel
theorem dX0_baseOf_30 : decode cX0_baseOf 30 = .ok (.iconst 0, 1) := by decide +kernel
theorem dX0_baseOf_31 : decode cX0_baseOf 31 = .ok (.ireturn, 1) := by decide +kernel
set_option maxRecDepth 20000 in
theorem ggX0_boundTo_X0_baseOf : GoodIn wsX0_boundTo wsX0_baseOf := goodIn_r _ [6, 7, 8, 9, 10, 11, 12, 13, 14, 15, 16, 17, 18, 19, 20, 21, 22, 23, 24, 25, 26, 27, 28] rfl (by decide +kernel)
set_option maxRecDepth 20000 in
theorem gX0_boundTo_X0_baseOf : GoodIn wsX0_boundTo (wsV RX0 111 RX0 yX0_baseOf wsX0_baseOf) := goodIn_app (goodIn_of _ (by decide +kernel)) ggX0_boundTo_X0_baseOf
theorem dX0_boundTo_0 : decode cX0_boundTo 0 = .ok (.aload_n 0, 1) := by decide +kernel
theorem dX0_boundTo_1 : decode cX0_boundTo 1 = .ok (.iload_n 1, 1) := by decide +kernel
theorem dX0_boundTo_2 : decode cX0_boundTo 2 = .ok (.invokevirtual 111, 3) := by decide +kernel
theorem dX0_boundTo_5 : decode cX0_boundTo 5 = .ok (.iload_n 2, 1) := by decide +kernel
theorem dX0_boundTo_6 : decode cX0_boundTo 6 = .ok (.iadd, 1) := by decide +kernel
theorem dX0_boundTo_7 : decode cX0_boundTo 7 = .ok (.istore_n 3, 1) := by decide +kernel
theorem dX0_boundTo_8 : decode cX0_boundTo 8 = .ok (.iload_n 3, 1) := by decide +kernel
theorem dX0_boundTo_9 : decode cX0_boundTo 9 = .ok (.ifCond .lt 21, 3) := by decide +kernel
theorem dX0_boundTo_12 : decode cX0_boundTo 12 = .ok (.iload_n 3, 1) := by decide +kernel
theorem dX0_boundTo_13 : decode cX0_boundTo 13 = .ok (.aload_n 0, 1) := by decide +kernel
theorem dX0_boundTo_14 : decode cX0_boundTo 14 = .ok (.getfield 47, 3) := by decide +kernel
theorem dX0_boundTo_17 : decode cX0_boundTo 17 = .ok (.arraylength, 1) := by decide +kernel
theorem dX0_boundTo_18 : decode cX0_boundTo 18 = .ok (.if_icmp .ge 12, 3) := by decide +kernel
theorem dX0_boundTo_21 : decode cX0_boundTo 21 = .ok (.aload_n 0, 1) := by decide +kernel
theorem dX0_boundTo_22 : decode cX0_boundTo 22 = .ok (.getfield 47, 3) := by decide +kernel
theorem dX0_boundTo_25 : decode cX0_boundTo 25 = .ok (.iload_n 3, 1) := by decide +kernel
theorem dX0_boundTo_26 : decode cX0_boundTo 26 = .ok (.iaload, 1) := by decide +kernel
theorem dX0_boundTo_27 : decode cX0_boundTo 27 = .ok (.goto 4, 3) := by decide +kernel
theorem dX0_boundTo_30 : decode cX0_boundTo 30 = .ok (.iconst (-1), 1) := by decide +kernel
theorem dX0_boundTo_31 : decode cX0_boundTo 31 = .ok (.ireturn, 1) := by decide +kernel
theorem dX0_addGoal_0 : decode cX0_addGoal 0 = .ok (.aload_n 0, 1) := by decide +kernel
theorem dX0_addGoal_1 : decode cX0_addGoal 1 = .ok (.getfield 61, 3) := by decide +kernel
theorem dX0_addGoal_4 : decode cX0_addGoal 4 = .ok (.ifCond .lt 17, 3) := by decide +kernel
theorem dX0_addGoal_7 : decode cX0_addGoal 7 = .ok (.aload_n 0, 1) := by decide +kernel
theorem dX0_addGoal_8 : decode cX0_addGoal 8 = .ok (.getfield 61, 3) := by decide +kernel
theorem dX0_addGoal_11 : decode cX0_addGoal 11 = .ok (.sipush 256, 3) := by decide +kernel
theorem dX0_addGoal_14 : decode cX0_addGoal 14 = .ok (.if_icmp .ge 7, 3) := by decide +kernel
theorem dX0_addGoal_17 : decode cX0_addGoal 17 = .ok (.iload_n 3, 1) := by decide +kernel
theorem dX0_addGoal_18 : decode cX0_addGoal 18 = .ok (.ifCond .ge 6, 3) := by decide +kernel
theorem dX0_addGoal_21 : decode cX0_addGoal 21 = .ok (.bipush (-2), 2) := by decide +kernel
theorem dX0_addGoal_23 : decode cX0_addGoal 23 = .ok (.ireturn, 1) := by decide +kernel
theorem dX0_addGoal_24 : decode cX0_addGoal 24 = .ok (.aload_n 0, 1) := by decide +kernel
theorem dX0_addGoal_25 : decode cX0_addGoal 25 = .ok (.getfield 13, 3) := by decide +kernel
theorem dX0_addGoal_28 : decode cX0_addGoal 28 = .ok (.aload_n 0, 1) := by decide +kernel
theorem dX0_addGoal_29 : decode cX0_addGoal 29 = .ok (.getfield 61, 3) := by decide +kernel
theorem dX0_addGoal_32 : decode cX0_addGoal 32 = .ok (.iload_n 1, 1) := by decide +kernel
theorem dX0_addGoal_33 : decode cX0_addGoal 33 = .ok (.iastore, 1) := by decide +kernel
theorem dX0_addGoal_34 : decode cX0_addGoal 34 = .ok (.aload_n 0, 1) := by decide +kernel
theorem dX0_addGoal_35 : decode cX0_addGoal 35 = .ok (.getfield 17, 3) := by decide +kernel
theorem dX0_addGoal_38 : decode cX0_addGoal 38 = .ok (.aload_n 0, 1) := by decide +kernel
theorem dX0_addGoal_39 : decode cX0_addGoal 39 = .ok (.getfield 61, 3) := by decide +kernel
theorem dX0_addGoal_42 : decode cX0_addGoal 42 = .ok (.iload_n 2, 1) := by decide +kernel
theorem dX0_addGoal_43 : decode cX0_addGoal 43 = .ok (.iastore, 1) := by decide +kernel
theorem dX0_addGoal_44 : decode cX0_addGoal 44 = .ok (.aload_n 0, 1) := by decide +kernel
theorem dX0_addGoal_45 : decode cX0_addGoal 45 = .ok (.getfield 20, 3) := by decide +kernel
theorem dX0_addGoal_48 : decode cX0_addGoal 48 = .ok (.aload_n 0, 1) := by decide +kernel
theorem dX0_addGoal_49 : decode cX0_addGoal 49 = .ok (.getfield 61, 3) := by decide +kernel
theorem dX0_addGoal_52 : decode cX0_addGoal 52 = .ok (.iload_n 3, 1) := by decide +kernel
theorem dX0_addGoal_53 : decode cX0_addGoal 53 = .ok (.iastore, 1) := by decide +kernel
theorem dX0_addGoal_54 : decode cX0_addGoal 54 = .ok (.aload_n 0, 1) := by decide +kernel
theorem dX0_addGoal_55 : decode cX0_addGoal 55 = .ok (.getfield 23, 3) := by decide +kernel
theorem dX0_addGoal_58 : decode cX0_addGoal 58 = .ok (.aload_n 0, 1) := by decide +kernel
theorem dX0_addGoal_59 : decode cX0_addGoal 59 = .ok (.getfield 61, 3) := by decide +kernel
theorem dX0_addGoal_62 : decode cX0_addGoal 62 = .ok (.iload 4, 2) := by decide +kernel
theorem dX0_addGoal_64 : decode cX0_addGoal 64 = .ok (.iastore, 1) := by decide +kernel
theorem dX0_addGoal_65 : decode cX0_addGoal 65 = .ok (.aload_n 0, 1) := by decide +kernel
theorem dX0_addGoal_66 : decode cX0_addGoal 66 = .ok (.dup, 1) := by decide +kernel
theorem dX0_addGoal_67 : decode cX0_addGoal 67 = .ok (.getfield 61, 3) := by decide +kernel
theorem dX0_addGoal_70 : decode cX0_addGoal 70 = .ok (.iconst 1, 1) := by decide +kernel
theorem dX0_addGoal_71 : decode cX0_addGoal 71 = .ok (.iadd, 1) := by decide +kernel
theorem dX0_addGoal_72 : decode cX0_addGoal 72 = .ok (.putfield 61, 3) := by decide +kernel
theorem dX0_addGoal_75 : decode cX0_addGoal 75 = .ok (.aload_n 0, 1) := by decide +kernel
theorem dX0_addGoal_76 : decode cX0_addGoal 76 = .ok (.getfield 61, 3) := by decide +kernel
theorem dX0_addGoal_79 : decode cX0_addGoal 79 = .ok (.iconst 1, 1) := by decide +kernel
theorem dX0_addGoal_80 : decode cX0_addGoal 80 = .ok (.isub, 1) := by decide +kernel
theorem dX0_addGoal_81 : decode cX0_addGoal 81 = .ok (.ireturn, 1) := by decide +kernel
theorem dX0_bind_0 : decode cX0_bind 0 = .ok (.iload_n 1, 1) := by decide +kernel
theorem dX0_bind_1 : decode cX0_bind 1 = .ok (.ifCond .lt 27, 3) := by decide +kernel
theorem dX0_bind_4 : decode cX0_bind 4 = .ok (.iload_n 1, 1) := by decide +kernel
theorem dX0_bind_5 : decode cX0_bind 5 = .ok (.iconst 5, 1) := by decide +kernel
theorem dX0_bind_6 : decode cX0_bind 6 = .ok (.if_icmp .ge 22, 3) := by decide +kernel
theorem dX0_bind_9 : decode cX0_bind 9 = .ok (.aload_n 0, 1) := by decide +kernel
theorem dX0_bind_10 : decode cX0_bind 10 = .ok (.getfield 26, 3) := by decide +kernel
theorem dX0_bind_13 : decode cX0_bind 13 = .ok (.iload_n 1, 1) := by decide +kernel
theorem dX0_bind_14 : decode cX0_bind 14 = .ok (.iload_n 2, 1) := by decide +kernel
theorem dX0_bind_15 : decode cX0_bind 15 = .ok (.iastore, 1) := by decide +kernel
theorem dX0_bind_16 : decode cX0_bind 16 = .ok (.aload_n 0, 1) := by decide +kernel
theorem dX0_bind_17 : decode cX0_bind 17 = .ok (.dup, 1) := by decide +kernel
theorem dX0_bind_18 : decode cX0_bind 18 = .ok (.getfield 67, 3) := by decide +kernel
theorem dX0_bind_21 : decode cX0_bind 21 = .ok (.iconst 1, 1) := by decide +kernel
theorem dX0_bind_22 : decode cX0_bind 22 = .ok (.iload_n 1, 1) := by decide +kernel
theorem dX0_bind_23 : decode cX0_bind 23 = .ok (.ishl, 1) := by decide +kernel
theorem dX0_bind_24 : decode cX0_bind 24 = .ok (.ior, 1) := by decide +kernel
theorem dX0_bind_25 : decode cX0_bind 25 = .ok (.putfield 67, 3) := by decide +kernel
theorem dX0_bind_28 : decode cX0_bind 28 = .ok (.return_, 1) := by decide +kernel
set_option maxRecDepth 20000 in
theorem ggX0_fits_X8_lowOf : GoodIn wsX0_fits wsX8_lowOf := goodIn_r _ [10, 11, 12, 38, 39, 40, 41, 42, 43, 44, 45, 46, 47, 48, 49, 50, 51, 52, 53, 54, 55, 56] rfl (by decide +kernel)
set_option maxRecDepth 20000 in
theorem gX0_fits_X8_lowOf : GoodIn wsX0_fits (wsV RX0 114 RX8 yX8_lowOf wsX8_lowOf) := goodIn_app (goodIn_of _ (by decide +kernel)) ggX0_fits_X8_lowOf
set_option maxRecDepth 20000 in
theorem ggX0_fits_X8_highOf : GoodIn wsX0_fits wsX8_highOf := goodIn_r _ [16, 11, 17, 38, 39, 40, 41, 42, 43, 44, 45, 46, 47, 48, 49, 50, 51, 52, 53, 54, 55, 56] rfl (by decide +kernel)
set_option maxRecDepth 20000 in
theorem gX0_fits_X8_highOf : GoodIn wsX0_fits (wsV RX0 122 RX8 yX8_highOf wsX8_highOf) := goodIn_app (goodIn_of _ (by decide +kernel)) ggX0_fits_X8_highOf
theorem dX0_fits_0 : decode cX0_fits 0 = .ok (.aload_n 0, 1) := by decide +kernel
theorem dX0_fits_1 : decode cX0_fits 1 = .ok (.getfield 53, 3) := by decide +kernel
theorem dX0_fits_4 : decode cX0_fits 4 = .ok (.iload_n 1, 1) := by decide +kernel
theorem dX0_fits_5 : decode cX0_fits 5 = .ok (.invokevirtual 114, 3) := by decide +kernel
theorem dX0_fits_8 : decode cX0_fits 8 = .ok (.lstore_n 3, 1) := by decide +kernel
theorem dX0_fits_9 : decode cX0_fits 9 = .ok (.aload_n 0, 1) := by decide +kernel
theorem dX0_fits_10 : decode cX0_fits 10 = .ok (.getfield 53, 3) := by decide +kernel
theorem dX0_fits_13 : decode cX0_fits 13 = .ok (.iload_n 2, 1) := by decide +kernel
theorem dX0_fits_14 : decode cX0_fits 14 = .ok (.invokevirtual 114, 3) := by decide +kernel
theorem dX0_fits_17 : decode cX0_fits 17 = .ok (.ldc2_w 118, 3) := by decide +kernel
theorem dX0_fits_20 : decode cX0_fits 20 = .ok (.lor, 1) := by decide +kernel
theorem dX0_fits_21 : decode cX0_fits 21 = .ok (.lload_n 3, 1) := by decide +kernel
theorem dX0_fits_22 : decode cX0_fits 22 = .ok (.ldc2_w 120, 3) := by decide +kernel
theorem dX0_fits_25 : decode cX0_fits 25 = .ok (.land, 1) := by decide +kernel
theorem dX0_fits_26 : decode cX0_fits 26 = .ok (.lsub, 1) := by decide +kernel
theorem dX0_fits_27 : decode cX0_fits 27 = .ok (.lstore 5, 2) := by decide +kernel
theorem dX0_fits_29 : decode cX0_fits 29 = .ok (.aload_n 0, 1) := by decide +kernel
theorem dX0_fits_30 : decode cX0_fits 30 = .ok (.getfield 53, 3) := by decide +kernel
theorem dX0_fits_33 : decode cX0_fits 33 = .ok (.iload_n 2, 1) := by decide +kernel
theorem dX0_fits_34 : decode cX0_fits 34 = .ok (.invokevirtual 122, 3) := by decide +kernel
theorem dX0_fits_37 : decode cX0_fits 37 = .ok (.ldc2_w 118, 3) := by decide +kernel
theorem dX0_fits_40 : decode cX0_fits 40 = .ok (.lor, 1) := by decide +kernel
theorem dX0_fits_41 : decode cX0_fits 41 = .ok (.aload_n 0, 1) := by decide +kernel
theorem dX0_fits_42 : decode cX0_fits 42 = .ok (.getfield 53, 3) := by decide +kernel
theorem dX0_fits_45 : decode cX0_fits 45 = .ok (.iload_n 1, 1) := by decide +kernel
theorem dX0_fits_46 : decode cX0_fits 46 = .ok (.invokevirtual 122, 3) := by decide +kernel
theorem dX0_fits_49 : decode cX0_fits 49 = .ok (.lsub, 1) := by decide +kernel
theorem dX0_fits_50 : decode cX0_fits 50 = .ok (.lstore 7, 2) := by decide +kernel
theorem dX0_fits_52 : decode cX0_fits 52 = .ok (.iconst 0, 1) := by decide +kernel
theorem dX0_fits_53 : decode cX0_fits 53 = .ok (.istore 9, 2) := by decide +kernel
theorem dX0_fits_55 : decode cX0_fits 55 = .ok (.iload 9, 2) := by decide +kernel
theorem dX0_fits_57 : decode cX0_fits 57 = .ok (.iconst 5, 1) := by decide +kernel
theorem dX0_fits_58 : decode cX0_fits 58 = .ok (.if_icmp .ge 113, 3) := by decide +kernel
theorem dX0_fits_61 : decode cX0_fits 61 = .ok (.aload_n 0, 1) := by decide +kernel
theorem dX0_fits_62 : decode cX0_fits 62 = .ok (.getfield 67, 3) := by decide +kernel
theorem dX0_fits_65 : decode cX0_fits 65 = .ok (.iload 9, 2) := by decide +kernel
theorem dX0_fits_67 : decode cX0_fits 67 = .ok (.ishr, 1) := by decide +kernel
theorem dX0_fits_68 : decode cX0_fits 68 = .ok (.iconst 1, 1) := by decide +kernel
theorem dX0_fits_69 : decode cX0_fits 69 = .ok (.iand, 1) := by decide +kernel
theorem dX0_fits_70 : decode cX0_fits 70 = .ok (.ifCond .eq 7, 3) := by decide +kernel
theorem dX0_fits_73 : decode cX0_fits 73 = .ok (.iconst 1, 1) := by decide +kernel
theorem dX0_fits_74 : decode cX0_fits 74 = .ok (.goto 4, 3) := by decide +kernel
theorem dX0_fits_77 : decode cX0_fits 77 = .ok (.iconst 0, 1) := by decide +kernel
theorem dX0_fits_78 : decode cX0_fits 78 = .ok (.istore 10, 2) := by decide +kernel
theorem dX0_fits_80 : decode cX0_fits 80 = .ok (.lload_n 3, 1) := by decide +kernel
theorem dX0_fits_81 : decode cX0_fits 81 = .ok (.bipush 6, 2) := by decide +kernel
theorem dX0_fits_83 : decode cX0_fits 83 = .ok (.iload 9, 2) := by decide +kernel
theorem dX0_fits_85 : decode cX0_fits 85 = .ok (.imul, 1) := by decide +kernel
theorem dX0_fits_86 : decode cX0_fits 86 = .ok (.lshr, 1) := by decide +kernel
theorem dX0_fits_87 : decode cX0_fits 87 = .ok (.l2i, 1) := by decide +kernel
theorem dX0_fits_88 : decode cX0_fits 88 = .ok (.bipush 31, 2) := by decide +kernel
theorem dX0_fits_90 : decode cX0_fits 90 = .ok (.iand, 1) := by decide +kernel
theorem dX0_fits_91 : decode cX0_fits 91 = .ok (.istore 11, 2) := by decide +kernel
theorem dX0_fits_93 : decode cX0_fits 93 = .ok (.iload 10, 2) := by decide +kernel
theorem dX0_fits_95 : decode cX0_fits 95 = .ok (.ifCond .eq 70, 3) := by decide +kernel
theorem dX0_fits_98 : decode cX0_fits 98 = .ok (.iload 11, 2) := by decide +kernel
theorem dX0_fits_100 : decode cX0_fits 100 = .ok (.ifCond .le 65, 3) := by decide +kernel
theorem dX0_fits_103 : decode cX0_fits 103 = .ok (.lload 5, 2) := by decide +kernel
theorem dX0_fits_105 : decode cX0_fits 105 = .ok (.lload 7, 2) := by decide +kernel
theorem dX0_fits_107 : decode cX0_fits 107 = .ok (.land, 1) := by decide +kernel
theorem dX0_fits_108 : decode cX0_fits 108 = .ok (.ldc2_w 118, 3) := by decide +kernel
theorem dX0_fits_111 : decode cX0_fits 111 = .ok (.land, 1) := by decide +kernel
theorem dX0_fits_112 : decode cX0_fits 112 = .ok (.ldc2_w 118, 3) := by decide +kernel
theorem dX0_fits_115 : decode cX0_fits 115 = .ok (.lcmp, 1) := by decide +kernel
theorem dX0_fits_116 : decode cX0_fits 116 = .ok (.ifCond .eq 5, 3) := by decide +kernel
theorem dX0_fits_119 : decode cX0_fits 119 = .ok (.iconst 0, 1) := by decide +kernel
theorem dX0_fits_120 : decode cX0_fits 120 = .ok (.ireturn, 1) := by decide +kernel
theorem dX0_fits_121 : decode cX0_fits 121 = .ok (.lload 5, 2) := by decide +kernel
theorem dX0_fits_123 : decode cX0_fits 123 = .ok (.aload_n 0, 1) := by decide +kernel
theorem dX0_fits_124 : decode cX0_fits 124 = .ok (.getfield 53, 3) := by decide +kernel
theorem dX0_fits_127 : decode cX0_fits 127 = .ok (.aload_n 0, 1) := by decide +kernel
theorem dX0_fits_128 : decode cX0_fits 128 = .ok (.getfield 26, 3) := by decide +kernel
theorem dX0_fits_131 : decode cX0_fits 131 = .ok (.iload 9, 2) := by decide +kernel
theorem dX0_fits_133 : decode cX0_fits 133 = .ok (.iaload, 1) := by decide +kernel
theorem dX0_fits_134 : decode cX0_fits 134 = .ok (.invokevirtual 114, 3) := by decide +kernel
theorem dX0_fits_137 : decode cX0_fits 137 = .ok (.lsub, 1) := by decide +kernel
theorem dX0_fits_138 : decode cX0_fits 138 = .ok (.lstore 5, 2) := by decide +kernel
theorem dX0_fits_140 : decode cX0_fits 140 = .ok (.lload 7, 2) := by decide +kernel
theorem dX0_fits_142 : decode cX0_fits 142 = .ok (.aload_n 0, 1) := by decide +kernel
theorem dX0_fits_143 : decode cX0_fits 143 = .ok (.getfield 53, 3) := by decide +kernel
theorem dX0_fits_146 : decode cX0_fits 146 = .ok (.aload_n 0, 1) := by decide +kernel
theorem dX0_fits_147 : decode cX0_fits 147 = .ok (.getfield 26, 3) := by decide +kernel
theorem dX0_fits_150 : decode cX0_fits 150 = .ok (.iload 9, 2) := by decide +kernel
theorem dX0_fits_152 : decode cX0_fits 152 = .ok (.iaload, 1) := by decide +kernel
theorem dX0_fits_153 : decode cX0_fits 153 = .ok (.invokevirtual 122, 3) := by decide +kernel
theorem dX0_fits_156 : decode cX0_fits 156 = .ok (.lsub, 1) := by decide +kernel
theorem dX0_fits_157 : decode cX0_fits 157 = .ok (.lstore 7, 2) := by decide +kernel
theorem dX0_fits_159 : decode cX0_fits 159 = .ok (.iinc 11 (-1), 3) := by decide +kernel
theorem dX0_fits_162 : decode cX0_fits 162 = .ok (.goto (-69), 3) := by decide +kernel
theorem dX0_fits_165 : decode cX0_fits 165 = .ok (.iinc 9 1, 3) := by decide +kernel
theorem dX0_fits_168 : decode cX0_fits 168 = .ok (.goto (-113), 3) := by decide +kernel
theorem dX0_fits_171 : decode cX0_fits 171 = .ok (.lload 5, 2) := by decide +kernel
theorem dX0_fits_173 : decode cX0_fits 173 = .ok (.lload 7, 2) := by decide +kernel
theorem dX0_fits_175 : decode cX0_fits 175 = .ok (.land, 1) := by decide +kernel
theorem dX0_fits_176 : decode cX0_fits 176 = .ok (.ldc2_w 118, 3) := by decide +kernel
theorem dX0_fits_179 : decode cX0_fits 179 = .ok (.land, 1) := by decide +kernel
theorem dX0_fits_180 : decode cX0_fits 180 = .ok (.ldc2_w 118, 3) := by decide +kernel
theorem dX0_fits_183 : decode cX0_fits 183 = .ok (.lcmp, 1) := by decide +kernel
theorem dX0_fits_184 : decode cX0_fits 184 = .ok (.ifCond .ne 7, 3) := by decide +kernel
theorem dX0_fits_187 : decode cX0_fits 187 = .ok (.iconst 1, 1) := by decide +kernel
theorem dX0_fits_188 : decode cX0_fits 188 = .ok (.goto 4, 3) := by decide +kernel
theorem dX0_fits_191 : decode cX0_fits 191 = .ok (.iconst 0, 1) := by decide +kernel
theorem dX0_fits_192 : decode cX0_fits 192 = .ok (.ireturn, 1) := by decide +kernel
set_option maxRecDepth 20000 in
theorem ggX0_meetPlain_X8_codeOf : GoodIn wsX0_meetPlain wsX8_codeOf := goodIn_r _ [13, 14, 15, 171, 172, 173, 174, 175, 176, 177, 178, 179, 180, 181, 182, 183, 184, 185, 186, 187, 188, 189] rfl (by decide +kernel)
set_option maxRecDepth 20000 in
theorem gX0_meetPlain_X8_codeOf : GoodIn wsX0_meetPlain (wsV RX0 125 RX8 yX8_codeOf wsX8_codeOf) := goodIn_app (goodIn_of _ (by decide +kernel)) ggX0_meetPlain_X8_codeOf
set_option maxRecDepth 20000 in
theorem ggX0_meetPlain_X8_maskOf : GoodIn wsX0_meetPlain wsX8_maskOf := goodIn_r _ [19, 14, 20, 171, 172, 173, 174, 175, 176, 177, 178, 179, 180, 181, 182, 183, 184, 185, 186, 187, 188, 189] rfl (by decide +kernel)
set_option maxRecDepth 20000 in
theorem gX0_meetPlain_X8_maskOf : GoodIn wsX0_meetPlain (wsV RX0 128 RX8 yX8_maskOf wsX8_maskOf) := goodIn_app (goodIn_of _ (by decide +kernel)) ggX0_meetPlain_X8_maskOf
set_option maxRecDepth 20000 in
theorem ggX0_meetPlain_X8_put : GoodIn wsX0_meetPlain wsX8_put := goodIn_r _ [24, 25, 26, 27, 10, 11, 12, 13, 14, 15, 28, 17, 18, 19, 20, 29, 30, 31, 32, 33, 34, 35, 36, 37, 22, 23, 38, 39, 40, 41, 42, 43, 44, 45, 46, 47, 48, 49, 50, 51, 52, 53, 54, 55, 56, 57, 58, 59, 60, 61, 62, 63, 64, 65, 66, 67, 68, 69, 70, 71, 72, 73, 74, 75, 76, 77, 78, 79, 80, 81, 82, 83, 84, 85, 86, 87, 88, 89, 90, 91, 92, 93, 171, 172, 173, 174, 175, 176, 177, 178, 179, 180, 181, 182, 183, 184, 185, 186, 187, 188, 189, 190, 191, 192, 193, 194, 195, 196, 197] rfl (by decide +kernel)
set_option maxRecDepth 20000 in
theorem gX0_meetPlain_X8_put : GoodIn wsX0_meetPlain (wsV RX0 132 RX8 yX8_put wsX8_put) := goodIn_app (goodIn_of _ (by decide +kernel)) ggX0_meetPlain_X8_put
set_option maxRecDepth 20000 in
theorem ggX0_meetPlain_X8_giveBack : GoodIn wsX0_meetPlain wsX8_giveBack := goodIn_r _ [97, 14, 89, 87, 88, 98, 99, 100, 101, 102, 103, 104, 171, 172, 173, 174, 175, 176, 177, 178, 179, 180, 181, 182, 183, 184, 185, 186, 187, 188, 189] rfl (by decide +kernel)
set_option maxRecDepth 20000 in
theorem gX0_meetPlain_X8_giveBack : GoodIn wsX0_meetPlain (wsV RX0 136 RX8 yX8_giveBack wsX8_giveBack) := goodIn_app (goodIn_of _ (by decide +kernel)) ggX0_meetPlain_X8_giveBack
set_option maxRecDepth 20000 in
theorem ggX0_meetPlain_X0_bind : GoodIn wsX0_meetPlain wsX0_bind := goodIn_r _ [109, 5, 4, 151, 152, 153, 154, 155, 156, 157, 158, 159, 160, 161, 162, 163, 164, 165, 166, 167, 168, 169, 170] rfl (by decide +kernel)
set_option maxRecDepth 20000 in
theorem gX0_meetPlain_X0_bind : GoodIn wsX0_meetPlain (wsV RX0 140 RX0 yX0_bind wsX0_bind) := goodIn_app (goodIn_of _ (by decide +kernel)) ggX0_meetPlain_X0_bind
set_option maxRecDepth 20000 in
theorem ggX0_meetPlain_X0_fits : GoodIn wsX0_meetPlain wsX0_fits := goodIn_r _ [113, 3, 114, 115, 4, 5, 116, 117, 118, 12, 119, 14, 90, 120, 121, 122, 123, 91, 151, 152, 153, 154, 155, 156, 157, 158, 159, 160, 161, 162, 163, 164, 165, 166, 167, 168, 169, 170, 171, 172, 173, 174, 175, 176, 177, 178, 179, 180, 181, 182, 183, 184, 185, 186, 187, 188, 189] rfl (by decide +kernel)
set_option maxRecDepth 20000 in
theorem gX0_meetPlain_X0_fits : GoodIn wsX0_meetPlain (wsV RX0 76 RX0 yX0_fits wsX0_fits) := goodIn_app (goodIn_of _ (by decide +kernel)) ggX0_meetPlain_X0_fits
set_option maxRecDepth 20000 in
theorem ggX0_meetPlain_X8_kindAt : GoodIn wsX0_meetPlain wsX8_kindAt := goodIn_r _ [127, 51, 27, 10, 11, 12, 13, 14, 15, 42, 30, 43, 54, 55, 56, 57, 58, 59, 171, 172, 173, 174, 175, 176, 177, 178, 179, 180, 181, 182, 183, 184, 185, 186, 187, 188, 189, 190, 191, 192, 193, 194, 195, 196, 197] rfl (by decide +kernel)
set_option maxRecDepth 20000 in
theorem gX0_meetPlain_X8_kindAt : GoodIn wsX0_meetPlain (wsV RX0 85 RX8 yX8_kindAt wsX8_kindAt) := goodIn_app (goodIn_of _ (by decide +kernel)) ggX0_meetPlain_X8_kindAt
set_option maxRecDepth 20000 in
theorem ggX0_meetPlain_X0_addBranch : GoodIn wsX0_meetPlain wsX0_addBranch := goodIn_r _ [131, 132, 133, 134, 135, 136, 137, 138, 4, 139, 140, 151, 152, 153, 154, 155, 156, 157, 158, 159, 160, 161, 162, 163, 164, 165, 166, 167, 168, 169, 170] rfl (by decide +kernel)
set_option maxRecDepth 20000 in
theorem gX0_meetPlain_X0_addBranch : GoodIn wsX0_meetPlain (wsV RX0 144 RX0 yX0_addBranch wsX0_addBranch) := goodIn_app (goodIn_of _ (by decide +kernel)) ggX0_meetPlain_X0_addBranch
set_option maxRecDepth 20000 in
theorem ggX0_meetPlain_X0_meetParts : GoodIn wsX0_meetPlain wsX0_meetParts := goodIn_r _ [144, 1, 2, 6, 3, 9, 10, 11, 12, 13, 14, 15, 29, 30, 31, 145, 33, 34, 35, 36, 124, 125, 126, 127, 51, 27, 42, 43, 54, 55, 56, 57, 58, 59, 146, 147, 148, 108, 149, 140, 150, 151, 152, 153, 154, 155, 156, 157, 158, 159, 160, 161, 162, 163, 164, 165, 166, 167, 168, 169, 170, 171, 172, 173, 174, 175, 176, 177, 178, 179, 180, 181, 182, 183, 184, 185, 186, 187, 188, 189, 190, 191, 192, 193, 194, 195, 196, 197] rfl (by decide +kernel)
set_option maxRecDepth 20000 in
theorem gX0_meetPlain_X0_meetParts : GoodIn wsX0_meetPlain (wsV RX0 148 RX0 yX0_meetParts wsX0_meetParts) := goodIn_app (goodIn_of _ (by decide +kernel)) ggX0_meetPlain_X0_meetParts
theorem dX0_meetPlain_0 : decode cX0_meetPlain 0 = .ok (.iload_n 1, 1) := by decide +kernel
theorem dX0_meetPlain_1 : decode cX0_meetPlain 1 = .ok (.ifCond .lt 10, 3) := by decide +kernel
theorem dX0_meetPlain_4 : decode cX0_meetPlain 4 = .ok (.iload_n 1, 1) := by decide +kernel
theorem dX0_meetPlain_5 : decode cX0_meetPlain 5 = .ok (.sipush 256, 3) := by decide +kernel
theorem dX0_meetPlain_8 : decode cX0_meetPlain 8 = .ok (.if_icmp .lt 6, 3) := by decide +kernel
theorem dX0_meetPlain_11 : decode cX0_meetPlain 11 = .ok (.bipush (-2), 2) := by decide +kernel
theorem dX0_meetPlain_13 : decode cX0_meetPlain 13 = .ok (.ireturn, 1) := by decide +kernel
theorem dX0_meetPlain_14 : decode cX0_meetPlain 14 = .ok (.aload_n 0, 1) := by decide +kernel
theorem dX0_meetPlain_15 : decode cX0_meetPlain 15 = .ok (.getfield 13, 3) := by decide +kernel
theorem dX0_meetPlain_18 : decode cX0_meetPlain 18 = .ok (.iload_n 1, 1) := by decide +kernel
theorem dX0_meetPlain_19 : decode cX0_meetPlain 19 = .ok (.iaload, 1) := by decide +kernel
theorem dX0_meetPlain_20 : decode cX0_meetPlain 20 = .ok (.istore_n 2, 1) := by decide +kernel
theorem dX0_meetPlain_21 : decode cX0_meetPlain 21 = .ok (.aload_n 0, 1) := by decide +kernel
theorem dX0_meetPlain_22 : decode cX0_meetPlain 22 = .ok (.getfield 20, 3) := by decide +kernel
theorem dX0_meetPlain_25 : decode cX0_meetPlain 25 = .ok (.iload_n 1, 1) := by decide +kernel
theorem dX0_meetPlain_26 : decode cX0_meetPlain 26 = .ok (.iaload, 1) := by decide +kernel
theorem dX0_meetPlain_27 : decode cX0_meetPlain 27 = .ok (.istore_n 3, 1) := by decide +kernel
theorem dX0_meetPlain_28 : decode cX0_meetPlain 28 = .ok (.aload_n 0, 1) := by decide +kernel
theorem dX0_meetPlain_29 : decode cX0_meetPlain 29 = .ok (.getfield 53, 3) := by decide +kernel
theorem dX0_meetPlain_32 : decode cX0_meetPlain 32 = .ok (.iload_n 2, 1) := by decide +kernel
theorem dX0_meetPlain_33 : decode cX0_meetPlain 33 = .ok (.invokevirtual 125, 3) := by decide +kernel
theorem dX0_meetPlain_36 : decode cX0_meetPlain 36 = .ok (.istore 4, 2) := by decide +kernel
theorem dX0_meetPlain_38 : decode cX0_meetPlain 38 = .ok (.aload_n 0, 1) := by decide +kernel
theorem dX0_meetPlain_39 : decode cX0_meetPlain 39 = .ok (.getfield 53, 3) := by decide +kernel
theorem dX0_meetPlain_42 : decode cX0_meetPlain 42 = .ok (.iload_n 2, 1) := by decide +kernel
theorem dX0_meetPlain_43 : decode cX0_meetPlain 43 = .ok (.invokevirtual 128, 3) := by decide +kernel
theorem dX0_meetPlain_46 : decode cX0_meetPlain 46 = .ok (.aload_n 0, 1) := by decide +kernel
theorem dX0_meetPlain_47 : decode cX0_meetPlain 47 = .ok (.getfield 67, 3) := by decide +kernel
theorem dX0_meetPlain_50 : decode cX0_meetPlain 50 = .ok (.iconst (-1), 1) := by decide +kernel
theorem dX0_meetPlain_51 : decode cX0_meetPlain 51 = .ok (.ixor, 1) := by decide +kernel
theorem dX0_meetPlain_52 : decode cX0_meetPlain 52 = .ok (.iand, 1) := by decide +kernel
theorem dX0_meetPlain_53 : decode cX0_meetPlain 53 = .ok (.ifCond .ne 63, 3) := by decide +kernel
theorem dX0_meetPlain_56 : decode cX0_meetPlain 56 = .ok (.aload_n 0, 1) := by decide +kernel
theorem dX0_meetPlain_57 : decode cX0_meetPlain 57 = .ok (.getfield 53, 3) := by decide +kernel
theorem dX0_meetPlain_60 : decode cX0_meetPlain 60 = .ok (.getfield 131, 3) := by decide +kernel
theorem dX0_meetPlain_63 : decode cX0_meetPlain 63 = .ok (.istore 5, 2) := by decide +kernel
theorem dX0_meetPlain_65 : decode cX0_meetPlain 65 = .ok (.aload_n 0, 1) := by decide +kernel
theorem dX0_meetPlain_66 : decode cX0_meetPlain 66 = .ok (.getfield 53, 3) := by decide +kernel
theorem dX0_meetPlain_69 : decode cX0_meetPlain 69 = .ok (.iload_n 2, 1) := by decide +kernel
theorem dX0_meetPlain_70 : decode cX0_meetPlain 70 = .ok (.aload_n 0, 1) := by decide +kernel
theorem dX0_meetPlain_71 : decode cX0_meetPlain 71 = .ok (.getfield 26, 3) := by decide +kernel
theorem dX0_meetPlain_74 : decode cX0_meetPlain 74 = .ok (.iconst 0, 1) := by decide +kernel
theorem dX0_meetPlain_75 : decode cX0_meetPlain 75 = .ok (.iconst 0, 1) := by decide +kernel
theorem dX0_meetPlain_76 : decode cX0_meetPlain 76 = .ok (.invokevirtual 132, 3) := by decide +kernel
theorem dX0_meetPlain_79 : decode cX0_meetPlain 79 = .ok (.iload_n 3, 1) := by decide +kernel
theorem dX0_meetPlain_80 : decode cX0_meetPlain 80 = .ok (.if_icmp .ne 7, 3) := by decide +kernel
theorem dX0_meetPlain_83 : decode cX0_meetPlain 83 = .ok (.iconst 1, 1) := by decide +kernel
theorem dX0_meetPlain_84 : decode cX0_meetPlain 84 = .ok (.goto 4, 3) := by decide +kernel
theorem dX0_meetPlain_87 : decode cX0_meetPlain 87 = .ok (.iconst 0, 1) := by decide +kernel
theorem dX0_meetPlain_88 : decode cX0_meetPlain 88 = .ok (.istore 6, 2) := by decide +kernel
theorem dX0_meetPlain_90 : decode cX0_meetPlain 90 = .ok (.aload_n 0, 1) := by decide +kernel
theorem dX0_meetPlain_91 : decode cX0_meetPlain 91 = .ok (.getfield 53, 3) := by decide +kernel
theorem dX0_meetPlain_94 : decode cX0_meetPlain 94 = .ok (.iload 5, 2) := by decide +kernel
theorem dX0_meetPlain_96 : decode cX0_meetPlain 96 = .ok (.invokevirtual 136, 3) := by decide +kernel
theorem dX0_meetPlain_99 : decode cX0_meetPlain 99 = .ok (.iload 6, 2) := by decide +kernel
theorem dX0_meetPlain_101 : decode cX0_meetPlain 101 = .ok (.ifCond .eq 12, 3) := by decide +kernel
theorem dX0_meetPlain_104 : decode cX0_meetPlain 104 = .ok (.aload_n 0, 1) := by decide +kernel
theorem dX0_meetPlain_105 : decode cX0_meetPlain 105 = .ok (.getfield 23, 3) := by decide +kernel
theorem dX0_meetPlain_108 : decode cX0_meetPlain 108 = .ok (.iload_n 1, 1) := by decide +kernel
theorem dX0_meetPlain_109 : decode cX0_meetPlain 109 = .ok (.iaload, 1) := by decide +kernel
theorem dX0_meetPlain_110 : decode cX0_meetPlain 110 = .ok (.goto 5, 3) := by decide +kernel
theorem dX0_meetPlain_113 : decode cX0_meetPlain 113 = .ok (.bipush (-2), 2) := by decide +kernel
theorem dX0_meetPlain_115 : decode cX0_meetPlain 115 = .ok (.ireturn, 1) := by decide +kernel
theorem dX0_meetPlain_116 : decode cX0_meetPlain 116 = .ok (.iload 4, 2) := by decide +kernel
theorem dX0_meetPlain_118 : decode cX0_meetPlain 118 = .ok (.bipush 8, 2) := by decide +kernel
theorem dX0_meetPlain_120 : decode cX0_meetPlain 120 = .ok (.if_icmp .ge 37, 3) := by decide +kernel
theorem dX0_meetPlain_123 : decode cX0_meetPlain 123 = .ok (.aload_n 0, 1) := by decide +kernel
theorem dX0_meetPlain_124 : decode cX0_meetPlain 124 = .ok (.iload 4, 2) := by decide +kernel
theorem dX0_meetPlain_126 : decode cX0_meetPlain 126 = .ok (.iload_n 3, 1) := by decide +kernel
theorem dX0_meetPlain_127 : decode cX0_meetPlain 127 = .ok (.invokevirtual 140, 3) := by decide +kernel
theorem dX0_meetPlain_130 : decode cX0_meetPlain 130 = .ok (.aload_n 0, 1) := by decide +kernel
theorem dX0_meetPlain_131 : decode cX0_meetPlain 131 = .ok (.aload_n 0, 1) := by decide +kernel
theorem dX0_meetPlain_132 : decode cX0_meetPlain 132 = .ok (.getfield 70, 3) := by decide +kernel
theorem dX0_meetPlain_135 : decode cX0_meetPlain 135 = .ok (.aload_n 0, 1) := by decide +kernel
theorem dX0_meetPlain_136 : decode cX0_meetPlain 136 = .ok (.getfield 73, 3) := by decide +kernel
theorem dX0_meetPlain_139 : decode cX0_meetPlain 139 = .ok (.invokevirtual 76, 3) := by decide +kernel
theorem dX0_meetPlain_142 : decode cX0_meetPlain 142 = .ok (.ifCond .eq 12, 3) := by decide +kernel
theorem dX0_meetPlain_145 : decode cX0_meetPlain 145 = .ok (.aload_n 0, 1) := by decide +kernel
theorem dX0_meetPlain_146 : decode cX0_meetPlain 146 = .ok (.getfield 23, 3) := by decide +kernel
theorem dX0_meetPlain_149 : decode cX0_meetPlain 149 = .ok (.iload_n 1, 1) := by decide +kernel
theorem dX0_meetPlain_150 : decode cX0_meetPlain 150 = .ok (.iaload, 1) := by decide +kernel
theorem dX0_meetPlain_151 : decode cX0_meetPlain 151 = .ok (.goto 5, 3) := by decide +kernel
theorem dX0_meetPlain_154 : decode cX0_meetPlain 154 = .ok (.bipush (-2), 2) := by decide +kernel
theorem dX0_meetPlain_156 : decode cX0_meetPlain 156 = .ok (.ireturn, 1) := by decide +kernel
theorem dX0_meetPlain_157 : decode cX0_meetPlain 157 = .ok (.aload_n 0, 1) := by decide +kernel
theorem dX0_meetPlain_158 : decode cX0_meetPlain 158 = .ok (.getfield 53, 3) := by decide +kernel
theorem dX0_meetPlain_161 : decode cX0_meetPlain 161 = .ok (.iload_n 3, 1) := by decide +kernel
theorem dX0_meetPlain_162 : decode cX0_meetPlain 162 = .ok (.invokevirtual 125, 3) := by decide +kernel
theorem dX0_meetPlain_165 : decode cX0_meetPlain 165 = .ok (.iload 4, 2) := by decide +kernel
theorem dX0_meetPlain_167 : decode cX0_meetPlain 167 = .ok (.if_icmp .eq 6, 3) := by decide +kernel
theorem dX0_meetPlain_170 : decode cX0_meetPlain 170 = .ok (.bipush (-2), 2) := by decide +kernel
theorem dX0_meetPlain_172 : decode cX0_meetPlain 172 = .ok (.ireturn, 1) := by decide +kernel
theorem dX0_meetPlain_173 : decode cX0_meetPlain 173 = .ok (.aload_n 0, 1) := by decide +kernel
theorem dX0_meetPlain_174 : decode cX0_meetPlain 174 = .ok (.getfield 53, 3) := by decide +kernel
theorem dX0_meetPlain_177 : decode cX0_meetPlain 177 = .ok (.iload_n 2, 1) := by decide +kernel
theorem dX0_meetPlain_178 : decode cX0_meetPlain 178 = .ok (.invokevirtual 85, 3) := by decide +kernel
theorem dX0_meetPlain_181 : decode cX0_meetPlain 181 = .ok (.iconst 1, 1) := by decide +kernel
theorem dX0_meetPlain_182 : decode cX0_meetPlain 182 = .ok (.if_icmp .ne 13, 3) := by decide +kernel
theorem dX0_meetPlain_185 : decode cX0_meetPlain 185 = .ok (.aload_n 0, 1) := by decide +kernel
theorem dX0_meetPlain_186 : decode cX0_meetPlain 186 = .ok (.iload_n 1, 1) := by decide +kernel
theorem dX0_meetPlain_187 : decode cX0_meetPlain 187 = .ok (.iconst 0, 1) := by decide +kernel
theorem dX0_meetPlain_188 : decode cX0_meetPlain 188 = .ok (.iconst 2, 1) := by decide +kernel
theorem dX0_meetPlain_189 : decode cX0_meetPlain 189 = .ok (.invokevirtual 144, 3) := by decide +kernel
theorem dX0_meetPlain_192 : decode cX0_meetPlain 192 = .ok (.bipush (-2), 2) := by decide +kernel
theorem dX0_meetPlain_194 : decode cX0_meetPlain 194 = .ok (.ireturn, 1) := by decide +kernel
theorem dX0_meetPlain_195 : decode cX0_meetPlain 195 = .ok (.aload_n 0, 1) := by decide +kernel
theorem dX0_meetPlain_196 : decode cX0_meetPlain 196 = .ok (.iload_n 1, 1) := by decide +kernel
theorem dX0_meetPlain_197 : decode cX0_meetPlain 197 = .ok (.invokevirtual 148, 3) := by decide +kernel
theorem dX0_meetPlain_200 : decode cX0_meetPlain 200 = .ok (.ireturn, 1) := by decide +kernel
set_option maxRecDepth 20000 in
theorem ggX0_meetParts_X8_codeOf : GoodIn wsX0_meetParts wsX8_codeOf := goodIn_r _ [9, 10, 11, 61, 62, 63, 64, 65, 66, 67, 68, 69, 70, 71, 72, 73, 74, 75, 76, 77, 78, 79] rfl (by decide +kernel)
set_option maxRecDepth 20000 in
theorem gX0_meetParts_X8_codeOf : GoodIn wsX0_meetParts (wsV RX0 125 RX8 yX8_codeOf wsX8_codeOf) := goodIn_app (goodIn_of _ (by decide +kernel)) ggX0_meetParts_X8_codeOf
set_option maxRecDepth 20000 in
theorem ggX0_meetParts_X9_partsIn : GoodIn wsX0_meetParts wsX9_partsIn := goodIn_r _ [14] rfl (by decide +kernel)
set_option maxRecDepth 20000 in
theorem gX0_meetParts_X9_partsIn_n151 : GoodIn wsX0_meetParts (wsX9_partsIn) := ggX0_meetParts_X9_partsIn
set_option maxRecDepth 20000 in
theorem ggX0_meetParts_X8_partOf : GoodIn wsX0_meetParts wsX8_partOf := goodIn_r _ [18, 10, 19, 61, 62, 63, 64, 65, 66, 67, 68, 69, 70, 71, 72, 73, 74, 75, 76, 77, 78, 79] rfl (by decide +kernel)
set_option maxRecDepth 20000 in
theorem gX0_meetParts_X8_partOf : GoodIn wsX0_meetParts (wsV RX0 154 RX8 yX8_partOf wsX8_partOf) := goodIn_app (goodIn_of _ (by decide +kernel)) ggX0_meetParts_X8_partOf
set_option maxRecDepth 20000 in
theorem ggX0_meetParts_X8_kindAt : GoodIn wsX0_meetParts wsX8_kindAt := goodIn_r _ [23, 24, 25, 6, 7, 8, 9, 10, 11, 26, 13, 27, 28, 29, 30, 31, 32, 33, 61, 62, 63, 64, 65, 66, 67, 68, 69, 70, 71, 72, 73, 74, 75, 76, 77, 78, 79, 80, 81, 82, 83, 84, 85, 86, 87] rfl (by decide +kernel)
set_option maxRecDepth 20000 in
theorem gX0_meetParts_X8_kindAt : GoodIn wsX0_meetParts (wsV RX0 85 RX8 yX8_kindAt wsX8_kindAt) := goodIn_app (goodIn_of _ (by decide +kernel)) ggX0_meetParts_X8_kindAt
set_option maxRecDepth 20000 in
theorem ggX0_meetParts_X0_addGoal : GoodIn wsX0_meetParts wsX0_addGoal := goodIn_r _ [38, 39, 1, 40, 2, 3, 41, 42, 43, 44, 45, 46, 47, 48, 49, 50, 51, 52, 53, 54, 55, 56, 57, 58, 59, 60] rfl (by decide +kernel)
set_option maxRecDepth 20000 in
theorem gX0_meetParts_X0_addGoal : GoodIn wsX0_meetParts (wsV RX0 80 RX0 yX0_addGoal wsX0_addGoal) := goodIn_app (goodIn_of _ (by decide +kernel)) ggX0_meetParts_X0_addGoal
theorem dX0_meetParts_0 : decode cX0_meetParts 0 = .ok (.iload_n 1, 1) := by decide +kernel
theorem dX0_meetParts_1 : decode cX0_meetParts 1 = .ok (.ifCond .lt 10, 3) := by decide +kernel
theorem dX0_meetParts_4 : decode cX0_meetParts 4 = .ok (.iload_n 1, 1) := by decide +kernel
theorem dX0_meetParts_5 : decode cX0_meetParts 5 = .ok (.sipush 256, 3) := by decide +kernel
theorem dX0_meetParts_8 : decode cX0_meetParts 8 = .ok (.if_icmp .lt 6, 3) := by decide +kernel
theorem dX0_meetParts_11 : decode cX0_meetParts 11 = .ok (.bipush (-2), 2) := by decide +kernel
theorem dX0_meetParts_13 : decode cX0_meetParts 13 = .ok (.ireturn, 1) := by decide +kernel
theorem dX0_meetParts_14 : decode cX0_meetParts 14 = .ok (.aload_n 0, 1) := by decide +kernel
theorem dX0_meetParts_15 : decode cX0_meetParts 15 = .ok (.getfield 13, 3) := by decide +kernel
theorem dX0_meetParts_18 : decode cX0_meetParts 18 = .ok (.iload_n 1, 1) := by decide +kernel
theorem dX0_meetParts_19 : decode cX0_meetParts 19 = .ok (.iaload, 1) := by decide +kernel
theorem dX0_meetParts_20 : decode cX0_meetParts 20 = .ok (.istore_n 2, 1) := by decide +kernel
theorem dX0_meetParts_21 : decode cX0_meetParts 21 = .ok (.aload_n 0, 1) := by decide +kernel
theorem dX0_meetParts_22 : decode cX0_meetParts 22 = .ok (.getfield 20, 3) := by decide +kernel
theorem dX0_meetParts_25 : decode cX0_meetParts 25 = .ok (.iload_n 1, 1) := by decide +kernel
theorem dX0_meetParts_26 : decode cX0_meetParts 26 = .ok (.iaload, 1) := by decide +kernel
theorem dX0_meetParts_27 : decode cX0_meetParts 27 = .ok (.istore_n 3, 1) := by decide +kernel
theorem dX0_meetParts_28 : decode cX0_meetParts 28 = .ok (.aload_n 0, 1) := by decide +kernel
theorem dX0_meetParts_29 : decode cX0_meetParts 29 = .ok (.getfield 23, 3) := by decide +kernel
theorem dX0_meetParts_32 : decode cX0_meetParts 32 = .ok (.iload_n 1, 1) := by decide +kernel
theorem dX0_meetParts_33 : decode cX0_meetParts 33 = .ok (.iaload, 1) := by decide +kernel
theorem dX0_meetParts_34 : decode cX0_meetParts 34 = .ok (.istore 4, 2) := by decide +kernel
theorem dX0_meetParts_36 : decode cX0_meetParts 36 = .ok (.aload_n 0, 1) := by decide +kernel
theorem dX0_meetParts_37 : decode cX0_meetParts 37 = .ok (.getfield 53, 3) := by decide +kernel
theorem dX0_meetParts_40 : decode cX0_meetParts 40 = .ok (.iload_n 2, 1) := by decide +kernel
theorem dX0_meetParts_41 : decode cX0_meetParts 41 = .ok (.invokevirtual 125, 3) := by decide +kernel
theorem dX0_meetParts_44 : decode cX0_meetParts 44 = .ok (.invokestatic 151, 3) := by decide +kernel
theorem dX0_meetParts_47 : decode cX0_meetParts 47 = .ok (.istore 5, 2) := by decide +kernel
theorem dX0_meetParts_49 : decode cX0_meetParts 49 = .ok (.iconst 0, 1) := by decide +kernel
theorem dX0_meetParts_50 : decode cX0_meetParts 50 = .ok (.istore 6, 2) := by decide +kernel
theorem dX0_meetParts_52 : decode cX0_meetParts 52 = .ok (.iload 6, 2) := by decide +kernel
theorem dX0_meetParts_54 : decode cX0_meetParts 54 = .ok (.iconst 2, 1) := by decide +kernel
theorem dX0_meetParts_55 : decode cX0_meetParts 55 = .ok (.if_icmp .ge 95, 3) := by decide +kernel
theorem dX0_meetParts_58 : decode cX0_meetParts 58 = .ok (.iload 5, 2) := by decide +kernel
theorem dX0_meetParts_60 : decode cX0_meetParts 60 = .ok (.iconst 1, 1) := by decide +kernel
theorem dX0_meetParts_61 : decode cX0_meetParts 61 = .ok (.isub, 1) := by decide +kernel
theorem dX0_meetParts_62 : decode cX0_meetParts 62 = .ok (.istore 7, 2) := by decide +kernel
theorem dX0_meetParts_64 : decode cX0_meetParts 64 = .ok (.iload 7, 2) := by decide +kernel
theorem dX0_meetParts_66 : decode cX0_meetParts 66 = .ok (.ifCond .lt 78, 3) := by decide +kernel
theorem dX0_meetParts_69 : decode cX0_meetParts 69 = .ok (.aload_n 0, 1) := by decide +kernel
theorem dX0_meetParts_70 : decode cX0_meetParts 70 = .ok (.getfield 53, 3) := by decide +kernel
theorem dX0_meetParts_73 : decode cX0_meetParts 73 = .ok (.iload_n 2, 1) := by decide +kernel
theorem dX0_meetParts_74 : decode cX0_meetParts 74 = .ok (.iload 7, 2) := by decide +kernel
theorem dX0_meetParts_76 : decode cX0_meetParts 76 = .ok (.invokevirtual 154, 3) := by decide +kernel
theorem dX0_meetParts_79 : decode cX0_meetParts 79 = .ok (.istore 8, 2) := by decide +kernel
theorem dX0_meetParts_81 : decode cX0_meetParts 81 = .ok (.aload_n 0, 1) := by decide +kernel
theorem dX0_meetParts_82 : decode cX0_meetParts 82 = .ok (.getfield 53, 3) := by decide +kernel
theorem dX0_meetParts_85 : decode cX0_meetParts 85 = .ok (.iload 8, 2) := by decide +kernel
theorem dX0_meetParts_87 : decode cX0_meetParts 87 = .ok (.invokevirtual 85, 3) := by decide +kernel
theorem dX0_meetParts_90 : decode cX0_meetParts 90 = .ok (.ifCond .ne 7, 3) := by decide +kernel
theorem dX0_meetParts_93 : decode cX0_meetParts 93 = .ok (.iconst 1, 1) := by decide +kernel
theorem dX0_meetParts_94 : decode cX0_meetParts 94 = .ok (.goto 4, 3) := by decide +kernel
theorem dX0_meetParts_97 : decode cX0_meetParts 97 = .ok (.iconst 0, 1) := by decide +kernel
theorem dX0_meetParts_98 : decode cX0_meetParts 98 = .ok (.istore 9, 2) := by decide +kernel
theorem dX0_meetParts_100 : decode cX0_meetParts 100 = .ok (.iload 9, 2) := by decide +kernel
theorem dX0_meetParts_102 : decode cX0_meetParts 102 = .ok (.iload 6, 2) := by decide +kernel
theorem dX0_meetParts_104 : decode cX0_meetParts 104 = .ok (.iconst 1, 1) := by decide +kernel
theorem dX0_meetParts_105 : decode cX0_meetParts 105 = .ok (.if_icmp .ne 7, 3) := by decide +kernel
theorem dX0_meetParts_108 : decode cX0_meetParts 108 = .ok (.iconst 1, 1) := by decide +kernel
theorem dX0_meetParts_109 : decode cX0_meetParts 109 = .ok (.goto 4, 3) := by decide +kernel
theorem dX0_meetParts_112 : decode cX0_meetParts 112 = .ok (.iconst 0, 1) := by decide +kernel
theorem dX0_meetParts_113 : decode cX0_meetParts 113 = .ok (.if_icmp .ne 25, 3) := by decide +kernel
theorem dX0_meetParts_116 : decode cX0_meetParts 116 = .ok (.aload_n 0, 1) := by decide +kernel
theorem dX0_meetParts_117 : decode cX0_meetParts 117 = .ok (.iload 8, 2) := by decide +kernel
theorem dX0_meetParts_119 : decode cX0_meetParts 119 = .ok (.bipush 63, 2) := by decide +kernel
theorem dX0_meetParts_121 : decode cX0_meetParts 121 = .ok (.aload_n 0, 1) := by decide +kernel
theorem dX0_meetParts_122 : decode cX0_meetParts 122 = .ok (.getfield 53, 3) := by decide +kernel
theorem dX0_meetParts_125 : decode cX0_meetParts 125 = .ok (.iload_n 3, 1) := by decide +kernel
theorem dX0_meetParts_126 : decode cX0_meetParts 126 = .ok (.iload 7, 2) := by decide +kernel
theorem dX0_meetParts_128 : decode cX0_meetParts 128 = .ok (.invokevirtual 154, 3) := by decide +kernel
theorem dX0_meetParts_131 : decode cX0_meetParts 131 = .ok (.iload 4, 2) := by decide +kernel
theorem dX0_meetParts_133 : decode cX0_meetParts 133 = .ok (.invokevirtual 80, 3) := by decide +kernel
theorem dX0_meetParts_136 : decode cX0_meetParts 136 = .ok (.istore 4, 2) := by decide +kernel
theorem dX0_meetParts_138 : decode cX0_meetParts 138 = .ok (.iinc 7 (-1), 3) := by decide +kernel
theorem dX0_meetParts_141 : decode cX0_meetParts 141 = .ok (.goto (-77), 3) := by decide +kernel
theorem dX0_meetParts_144 : decode cX0_meetParts 144 = .ok (.iinc 6 1, 3) := by decide +kernel
theorem dX0_meetParts_147 : decode cX0_meetParts 147 = .ok (.goto (-95), 3) := by decide +kernel
theorem dX0_meetParts_150 : decode cX0_meetParts 150 = .ok (.iload 4, 2) := by decide +kernel
theorem dX0_meetParts_152 : decode cX0_meetParts 152 = .ok (.ireturn, 1) := by decide +kernel
set_option maxRecDepth 20000 in
theorem ggX0_meetSum_X8_codeOf : GoodIn wsX0_meetSum wsX8_codeOf := goodIn_r _ [11, 12, 13, 199, 200, 201, 202, 203, 204, 205, 206, 207, 208, 209, 210, 211, 212, 213, 214, 215, 216, 217] rfl (by decide +kernel)
set_option maxRecDepth 20000 in
theorem gX0_meetSum_X8_codeOf : GoodIn wsX0_meetSum (wsV RX0 125 RX8 yX8_codeOf wsX8_codeOf) := goodIn_app (goodIn_of _ (by decide +kernel)) ggX0_meetSum_X8_codeOf
set_option maxRecDepth 20000 in
theorem ggX0_meetSum_X9_operatorIn : GoodIn wsX0_meetSum wsX9_operatorIn := goodIn_r _ [16] rfl (by decide +kernel)
set_option maxRecDepth 20000 in
theorem gX0_meetSum_X9_operatorIn_n158 : GoodIn wsX0_meetSum (wsX9_operatorIn) := ggX0_meetSum_X9_operatorIn
set_option maxRecDepth 20000 in
theorem ggX0_meetSum_X9_partsIn : GoodIn wsX0_meetSum wsX9_partsIn := goodIn_r _ [18] rfl (by decide +kernel)
set_option maxRecDepth 20000 in
theorem gX0_meetSum_X9_partsIn_n151 : GoodIn wsX0_meetSum (wsX9_partsIn) := ggX0_meetSum_X9_partsIn
set_option maxRecDepth 20000 in
theorem ggX0_meetSum_X8_partsAsSum : GoodIn wsX0_meetSum wsX8_partsAsSum := goodIn_r _ [22, 23, 24, 8, 9, 10, 11, 12, 13, 14, 15, 16, 17, 18, 25, 26, 27, 28, 29, 30, 199, 200, 201, 202, 203, 204, 205, 206, 207, 208, 209, 210, 211, 212, 213, 214, 215, 216, 217, 218, 219, 220, 221, 222, 223, 224, 225] rfl (by decide +kernel)
set_option maxRecDepth 20000 in
theorem gX0_meetSum_X8_partsAsSum : GoodIn wsX0_meetSum (wsV RX0 161 RX8 yX8_partsAsSum wsX8_partsAsSum) := goodIn_app (goodIn_of _ (by decide +kernel)) ggX0_meetSum_X8_partsAsSum
set_option maxRecDepth 20000 in
theorem ggX0_meetSum_X8_partOf : GoodIn wsX0_meetSum wsX8_partOf := goodIn_r _ [34, 12, 35, 199, 200, 201, 202, 203, 204, 205, 206, 207, 208, 209, 210, 211, 212, 213, 214, 215, 216, 217] rfl (by decide +kernel)
set_option maxRecDepth 20000 in
theorem gX0_meetSum_X8_partOf : GoodIn wsX0_meetSum (wsV RX0 154 RX8 yX8_partOf wsX8_partOf) := goodIn_app (goodIn_of _ (by decide +kernel)) ggX0_meetSum_X8_partOf
set_option maxRecDepth 20000 in
theorem ggX0_meetSum_X8_maskOf : GoodIn wsX0_meetSum wsX8_maskOf := goodIn_r _ [39, 12, 40, 199, 200, 201, 202, 203, 204, 205, 206, 207, 208, 209, 210, 211, 212, 213, 214, 215, 216, 217] rfl (by decide +kernel)
set_option maxRecDepth 20000 in
theorem gX0_meetSum_X8_maskOf : GoodIn wsX0_meetSum (wsV RX0 128 RX8 yX8_maskOf wsX8_maskOf) := goodIn_app (goodIn_of _ (by decide +kernel)) ggX0_meetSum_X8_maskOf
set_option maxRecDepth 20000 in
theorem ggX0_meetSum_X8_put : GoodIn wsX0_meetSum wsX8_put := goodIn_r _ [44, 45, 46, 24, 8, 9, 10, 11, 12, 13, 47, 37, 38, 39, 40, 17, 15, 18, 48, 32, 33, 34, 35, 49, 42, 43, 50, 51, 52, 53, 14, 16, 54, 55, 56, 57, 58, 59, 60, 23, 61, 62, 63, 64, 65, 28, 66, 67, 25, 26, 27, 29, 30, 68, 69, 70, 71, 72, 73, 74, 75, 76, 77, 78, 79, 80, 81, 82, 83, 84, 85, 86, 87, 88, 89, 90, 91, 92, 93, 94, 95, 96, 199, 200, 201, 202, 203, 204, 205, 206, 207, 208, 209, 210, 211, 212, 213, 214, 215, 216, 217, 218, 219, 220, 221, 222, 223, 224, 225] rfl (by decide +kernel)
set_option maxRecDepth 20000 in
theorem gX0_meetSum_X8_put : GoodIn wsX0_meetSum (wsV RX0 132 RX8 yX8_put wsX8_put) := goodIn_app (goodIn_of _ (by decide +kernel)) ggX0_meetSum_X8_put
set_option maxRecDepth 20000 in
theorem ggX0_meetSum_X8_without : GoodIn wsX0_meetSum wsX8_without := goodIn_r _ [100, 101, 20, 21, 10, 22, 23, 24, 8, 9, 11, 12, 13, 14, 15, 16, 17, 18, 25, 26, 27, 28, 29, 30, 102, 103, 104, 105, 35, 199, 200, 201, 202, 203, 204, 205, 206, 207, 208, 209, 210, 211, 212, 213, 214, 215, 216, 217, 218, 219, 220, 221, 222, 223, 224, 225] rfl (by decide +kernel)
set_option maxRecDepth 20000 in
theorem gX0_meetSum_X8_without : GoodIn wsX0_meetSum (wsV RX0 164 RX8 yX8_without wsX8_without) := goodIn_app (goodIn_of _ (by decide +kernel)) ggX0_meetSum_X8_without
set_option maxRecDepth 20000 in
theorem ggX0_meetSum_X8_giveBack : GoodIn wsX0_meetSum wsX8_giveBack := goodIn_r _ [109, 12, 92, 90, 91, 110, 111, 112, 113, 114, 115, 116, 199, 200, 201, 202, 203, 204, 205, 206, 207, 208, 209, 210, 211, 212, 213, 214, 215, 216, 217] rfl (by decide +kernel)
set_option maxRecDepth 20000 in
theorem gX0_meetSum_X8_giveBack : GoodIn wsX0_meetSum (wsV RX0 136 RX8 yX8_giveBack wsX8_giveBack) := goodIn_app (goodIn_of _ (by decide +kernel)) ggX0_meetSum_X8_giveBack
set_option maxRecDepth 20000 in
theorem ggX0_meetSum_X0_remainder : GoodIn wsX0_meetSum wsX0_remainder := goodIn_r _ [121, 1, 3, 122, 2, 7, 8, 9, 10, 11, 12, 13, 14, 15, 16, 123, 124, 125, 126, 23, 127, 128, 129, 28, 130, 30, 131, 132, 79, 133, 134, 135, 136, 137, 138, 139, 140, 72, 102, 103, 104, 105, 35, 25, 26, 27, 29, 85, 86, 87, 88, 89, 40, 90, 91, 92, 93, 94, 95, 96, 141, 142, 143, 120, 144, 145, 4, 146, 147, 148, 149, 31, 32, 33, 34, 179, 180, 181, 182, 183, 184, 185, 186, 187, 188, 189, 190, 191, 192, 193, 194, 195, 196, 197, 198, 199, 200, 201, 202, 203, 204, 205, 206, 207, 208, 209, 210, 211, 212, 213, 214, 215, 216, 217, 218, 219, 220, 221, 222, 223, 224, 225] rfl (by decide +kernel)
set_option maxRecDepth 20000 in
theorem gX0_meetSum_X0_remainder : GoodIn wsX0_meetSum (wsV RX0 167 RX0 yX0_remainder wsX0_remainder) := goodIn_app (goodIn_of _ (by decide +kernel)) ggX0_meetSum_X0_remainder
set_option maxRecDepth 20000 in
theorem ggX0_meetSum_J6_bitCount_0f7a4 : GoodIn wsX0_meetSum wsJ6_bitCount_0f7a4 := goodIn_r _ [133, 134, 135, 136] rfl (by decide +kernel)
set_option maxRecDepth 20000 in
theorem gX0_meetSum_J6_bitCount_0f7a4 : GoodIn wsX0_meetSum (va_wsS RX0 171 yJ6_bitCount_0f7a4 wsJ6_bitCount_0f7a4) := goodIn_app (goodIn_of _ (by decide +kernel)) ggX0_meetSum_J6_bitCount_0f7a4
set_option maxRecDepth 20000 in
theorem ggX0_meetSum_X0_branchOverSum : GoodIn wsX0_meetSum wsX0_branchOverSum := goodIn_r _ [153, 1, 4, 3, 2, 31, 32, 33, 10, 34, 12, 35, 154, 155, 156, 120, 157, 158, 159, 160, 161, 162, 13, 23, 163, 164, 165, 166, 93, 7, 8, 9, 11, 14, 15, 16, 19, 20, 21, 22, 24, 17, 18, 25, 26, 27, 28, 29, 30, 167, 168, 169, 170, 171, 172, 173, 174, 175, 176, 177, 5, 178, 145, 179, 180, 181, 182, 183, 184, 185, 186, 187, 188, 189, 190, 191, 192, 193, 194, 195, 196, 197, 198, 199, 200, 201, 202, 203, 204, 205, 206, 207, 208, 209, 210, 211, 212, 213, 214, 215, 216, 217, 218, 219, 220, 221, 222, 223, 224, 225] rfl (by decide +kernel)
set_option maxRecDepth 20000 in
theorem gX0_meetSum_X0_branchOverSum : GoodIn wsX0_meetSum (wsV RX0 176 RX0 yX0_branchOverSum wsX0_branchOverSum) := goodIn_app (goodIn_of _ (by decide +kernel)) ggX0_meetSum_X0_branchOverSum
theorem dX0_meetSum_0 : decode cX0_meetSum 0 = .ok (.iload_n 1, 1) := by decide +kernel
theorem dX0_meetSum_1 : decode cX0_meetSum 1 = .ok (.ifCond .lt 10, 3) := by decide +kernel
theorem dX0_meetSum_4 : decode cX0_meetSum 4 = .ok (.iload_n 1, 1) := by decide +kernel
theorem dX0_meetSum_5 : decode cX0_meetSum 5 = .ok (.sipush 256, 3) := by decide +kernel
theorem dX0_meetSum_8 : decode cX0_meetSum 8 = .ok (.if_icmp .lt 6, 3) := by decide +kernel
theorem dX0_meetSum_11 : decode cX0_meetSum 11 = .ok (.bipush (-2), 2) := by decide +kernel
theorem dX0_meetSum_13 : decode cX0_meetSum 13 = .ok (.ireturn, 1) := by decide +kernel
theorem dX0_meetSum_14 : decode cX0_meetSum 14 = .ok (.aload_n 0, 1) := by decide +kernel
theorem dX0_meetSum_15 : decode cX0_meetSum 15 = .ok (.getfield 13, 3) := by decide +kernel
theorem dX0_meetSum_18 : decode cX0_meetSum 18 = .ok (.iload_n 1, 1) := by decide +kernel
theorem dX0_meetSum_19 : decode cX0_meetSum 19 = .ok (.iaload, 1) := by decide +kernel
theorem dX0_meetSum_20 : decode cX0_meetSum 20 = .ok (.istore_n 2, 1) := by decide +kernel
theorem dX0_meetSum_21 : decode cX0_meetSum 21 = .ok (.aload_n 0, 1) := by decide +kernel
theorem dX0_meetSum_22 : decode cX0_meetSum 22 = .ok (.getfield 20, 3) := by decide +kernel
theorem dX0_meetSum_25 : decode cX0_meetSum 25 = .ok (.iload_n 1, 1) := by decide +kernel
theorem dX0_meetSum_26 : decode cX0_meetSum 26 = .ok (.iaload, 1) := by decide +kernel
theorem dX0_meetSum_27 : decode cX0_meetSum 27 = .ok (.istore_n 3, 1) := by decide +kernel
theorem dX0_meetSum_28 : decode cX0_meetSum 28 = .ok (.aload_n 0, 1) := by decide +kernel
theorem dX0_meetSum_29 : decode cX0_meetSum 29 = .ok (.getfield 53, 3) := by decide +kernel
theorem dX0_meetSum_32 : decode cX0_meetSum 32 = .ok (.iload_n 2, 1) := by decide +kernel
theorem dX0_meetSum_33 : decode cX0_meetSum 33 = .ok (.invokevirtual 125, 3) := by decide +kernel
theorem dX0_meetSum_36 : decode cX0_meetSum 36 = .ok (.istore 4, 2) := by decide +kernel
theorem dX0_meetSum_38 : decode cX0_meetSum 38 = .ok (.iload 4, 2) := by decide +kernel
theorem dX0_meetSum_40 : decode cX0_meetSum 40 = .ok (.invokestatic 158, 3) := by decide +kernel
theorem dX0_meetSum_43 : decode cX0_meetSum 43 = .ok (.istore 5, 2) := by decide +kernel
theorem dX0_meetSum_45 : decode cX0_meetSum 45 = .ok (.iload 4, 2) := by decide +kernel
theorem dX0_meetSum_47 : decode cX0_meetSum 47 = .ok (.invokestatic 151, 3) := by decide +kernel
theorem dX0_meetSum_50 : decode cX0_meetSum 50 = .ok (.istore 6, 2) := by decide +kernel
theorem dX0_meetSum_52 : decode cX0_meetSum 52 = .ok (.aload_n 0, 1) := by decide +kernel
theorem dX0_meetSum_53 : decode cX0_meetSum 53 = .ok (.getfield 17, 3) := by decide +kernel
theorem dX0_meetSum_56 : decode cX0_meetSum 56 = .ok (.iload_n 1, 1) := by decide +kernel
theorem dX0_meetSum_57 : decode cX0_meetSum 57 = .ok (.iaload, 1) := by decide +kernel
theorem dX0_meetSum_58 : decode cX0_meetSum 58 = .ok (.iconst 1, 1) := by decide +kernel
theorem dX0_meetSum_59 : decode cX0_meetSum 59 = .ok (.iload 6, 2) := by decide +kernel
theorem dX0_meetSum_61 : decode cX0_meetSum 61 = .ok (.ishl, 1) := by decide +kernel
theorem dX0_meetSum_62 : decode cX0_meetSum 62 = .ok (.iconst 1, 1) := by decide +kernel
theorem dX0_meetSum_63 : decode cX0_meetSum 63 = .ok (.isub, 1) := by decide +kernel
theorem dX0_meetSum_64 : decode cX0_meetSum 64 = .ok (.iand, 1) := by decide +kernel
theorem dX0_meetSum_65 : decode cX0_meetSum 65 = .ok (.istore 7, 2) := by decide +kernel
theorem dX0_meetSum_67 : decode cX0_meetSum 67 = .ok (.iconst 1, 1) := by decide +kernel
theorem dX0_meetSum_68 : decode cX0_meetSum 68 = .ok (.aload_n 0, 1) := by decide +kernel
theorem dX0_meetSum_69 : decode cX0_meetSum 69 = .ok (.getfield 53, 3) := by decide +kernel
theorem dX0_meetSum_72 : decode cX0_meetSum 72 = .ok (.iload_n 3, 1) := by decide +kernel
theorem dX0_meetSum_73 : decode cX0_meetSum 73 = .ok (.iload 5, 2) := by decide +kernel
theorem dX0_meetSum_75 : decode cX0_meetSum 75 = .ok (.invokevirtual 161, 3) := by decide +kernel
theorem dX0_meetSum_78 : decode cX0_meetSum 78 = .ok (.ishl, 1) := by decide +kernel
theorem dX0_meetSum_79 : decode cX0_meetSum 79 = .ok (.iconst 1, 1) := by decide +kernel
theorem dX0_meetSum_80 : decode cX0_meetSum 80 = .ok (.isub, 1) := by decide +kernel
theorem dX0_meetSum_81 : decode cX0_meetSum 81 = .ok (.istore 8, 2) := by decide +kernel
theorem dX0_meetSum_83 : decode cX0_meetSum 83 = .ok (.iconst 0, 1) := by decide +kernel
theorem dX0_meetSum_84 : decode cX0_meetSum 84 = .ok (.istore 9, 2) := by decide +kernel
theorem dX0_meetSum_86 : decode cX0_meetSum 86 = .ok (.iload 9, 2) := by decide +kernel
theorem dX0_meetSum_88 : decode cX0_meetSum 88 = .ok (.iload 6, 2) := by decide +kernel
theorem dX0_meetSum_90 : decode cX0_meetSum 90 = .ok (.if_icmp .ge 126, 3) := by decide +kernel
theorem dX0_meetSum_93 : decode cX0_meetSum 93 = .ok (.iload 8, 2) := by decide +kernel
theorem dX0_meetSum_95 : decode cX0_meetSum 95 = .ok (.ifCond .lt 121, 3) := by decide +kernel
theorem dX0_meetSum_98 : decode cX0_meetSum 98 = .ok (.aload_n 0, 1) := by decide +kernel
theorem dX0_meetSum_99 : decode cX0_meetSum 99 = .ok (.getfield 53, 3) := by decide +kernel
theorem dX0_meetSum_102 : decode cX0_meetSum 102 = .ok (.iload_n 2, 1) := by decide +kernel
theorem dX0_meetSum_103 : decode cX0_meetSum 103 = .ok (.iload 9, 2) := by decide +kernel
theorem dX0_meetSum_105 : decode cX0_meetSum 105 = .ok (.invokevirtual 154, 3) := by decide +kernel
theorem dX0_meetSum_108 : decode cX0_meetSum 108 = .ok (.istore 10, 2) := by decide +kernel
theorem dX0_meetSum_110 : decode cX0_meetSum 110 = .ok (.iload 7, 2) := by decide +kernel
theorem dX0_meetSum_112 : decode cX0_meetSum 112 = .ok (.iload 9, 2) := by decide +kernel
theorem dX0_meetSum_114 : decode cX0_meetSum 114 = .ok (.ishr, 1) := by decide +kernel
theorem dX0_meetSum_115 : decode cX0_meetSum 115 = .ok (.iconst 1, 1) := by decide +kernel
theorem dX0_meetSum_116 : decode cX0_meetSum 116 = .ok (.iand, 1) := by decide +kernel
theorem dX0_meetSum_117 : decode cX0_meetSum 117 = .ok (.ifCond .eq 93, 3) := by decide +kernel
theorem dX0_meetSum_120 : decode cX0_meetSum 120 = .ok (.aload_n 0, 1) := by decide +kernel
theorem dX0_meetSum_121 : decode cX0_meetSum 121 = .ok (.getfield 53, 3) := by decide +kernel
theorem dX0_meetSum_124 : decode cX0_meetSum 124 = .ok (.iload 10, 2) := by decide +kernel
theorem dX0_meetSum_126 : decode cX0_meetSum 126 = .ok (.invokevirtual 128, 3) := by decide +kernel
theorem dX0_meetSum_129 : decode cX0_meetSum 129 = .ok (.aload_n 0, 1) := by decide +kernel
theorem dX0_meetSum_130 : decode cX0_meetSum 130 = .ok (.getfield 67, 3) := by decide +kernel
theorem dX0_meetSum_133 : decode cX0_meetSum 133 = .ok (.iconst (-1), 1) := by decide +kernel
theorem dX0_meetSum_134 : decode cX0_meetSum 134 = .ok (.ixor, 1) := by decide +kernel
theorem dX0_meetSum_135 : decode cX0_meetSum 135 = .ok (.iand, 1) := by decide +kernel
theorem dX0_meetSum_136 : decode cX0_meetSum 136 = .ok (.ifCond .ne 74, 3) := by decide +kernel
theorem dX0_meetSum_139 : decode cX0_meetSum 139 = .ok (.aload_n 0, 1) := by decide +kernel
theorem dX0_meetSum_140 : decode cX0_meetSum 140 = .ok (.getfield 53, 3) := by decide +kernel
theorem dX0_meetSum_143 : decode cX0_meetSum 143 = .ok (.getfield 131, 3) := by decide +kernel
theorem dX0_meetSum_146 : decode cX0_meetSum 146 = .ok (.istore 11, 2) := by decide +kernel
theorem dX0_meetSum_148 : decode cX0_meetSum 148 = .ok (.aload_n 0, 1) := by decide +kernel
theorem dX0_meetSum_149 : decode cX0_meetSum 149 = .ok (.getfield 53, 3) := by decide +kernel
theorem dX0_meetSum_152 : decode cX0_meetSum 152 = .ok (.iload 10, 2) := by decide +kernel
theorem dX0_meetSum_154 : decode cX0_meetSum 154 = .ok (.aload_n 0, 1) := by decide +kernel
theorem dX0_meetSum_155 : decode cX0_meetSum 155 = .ok (.getfield 26, 3) := by decide +kernel
theorem dX0_meetSum_158 : decode cX0_meetSum 158 = .ok (.iconst 0, 1) := by decide +kernel
theorem dX0_meetSum_159 : decode cX0_meetSum 159 = .ok (.iconst 0, 1) := by decide +kernel
theorem dX0_meetSum_160 : decode cX0_meetSum 160 = .ok (.invokevirtual 132, 3) := by decide +kernel
theorem dX0_meetSum_163 : decode cX0_meetSum 163 = .ok (.istore 12, 2) := by decide +kernel
theorem dX0_meetSum_165 : decode cX0_meetSum 165 = .ok (.iload 12, 2) := by decide +kernel
theorem dX0_meetSum_167 : decode cX0_meetSum 167 = .ok (.ifCond .ge 7, 3) := by decide +kernel
theorem dX0_meetSum_170 : decode cX0_meetSum 170 = .ok (.iconst (-1), 1) := by decide +kernel
theorem dX0_meetSum_171 : decode cX0_meetSum 171 = .ok (.goto 17, 3) := by decide +kernel
theorem dX0_meetSum_174 : decode cX0_meetSum 174 = .ok (.aload_n 0, 1) := by decide +kernel
theorem dX0_meetSum_175 : decode cX0_meetSum 175 = .ok (.getfield 53, 3) := by decide +kernel
theorem dX0_meetSum_178 : decode cX0_meetSum 178 = .ok (.iload_n 3, 1) := by decide +kernel
theorem dX0_meetSum_179 : decode cX0_meetSum 179 = .ok (.iload 5, 2) := by decide +kernel
theorem dX0_meetSum_181 : decode cX0_meetSum 181 = .ok (.iload 8, 2) := by decide +kernel
theorem dX0_meetSum_183 : decode cX0_meetSum 183 = .ok (.iload 12, 2) := by decide +kernel
theorem dX0_meetSum_185 : decode cX0_meetSum 185 = .ok (.invokevirtual 164, 3) := by decide +kernel
theorem dX0_meetSum_188 : decode cX0_meetSum 188 = .ok (.istore 8, 2) := by decide +kernel
theorem dX0_meetSum_190 : decode cX0_meetSum 190 = .ok (.aload_n 0, 1) := by decide +kernel
theorem dX0_meetSum_191 : decode cX0_meetSum 191 = .ok (.getfield 53, 3) := by decide +kernel
theorem dX0_meetSum_194 : decode cX0_meetSum 194 = .ok (.iload 11, 2) := by decide +kernel
theorem dX0_meetSum_196 : decode cX0_meetSum 196 = .ok (.invokevirtual 136, 3) := by decide +kernel
theorem dX0_meetSum_199 : decode cX0_meetSum 199 = .ok (.iload 7, 2) := by decide +kernel
theorem dX0_meetSum_201 : decode cX0_meetSum 201 = .ok (.iconst 1, 1) := by decide +kernel
theorem dX0_meetSum_202 : decode cX0_meetSum 202 = .ok (.iload 9, 2) := by decide +kernel
theorem dX0_meetSum_204 : decode cX0_meetSum 204 = .ok (.ishl, 1) := by decide +kernel
theorem dX0_meetSum_205 : decode cX0_meetSum 205 = .ok (.iconst (-1), 1) := by decide +kernel
theorem dX0_meetSum_206 : decode cX0_meetSum 206 = .ok (.ixor, 1) := by decide +kernel
theorem dX0_meetSum_207 : decode cX0_meetSum 207 = .ok (.iand, 1) := by decide +kernel
theorem dX0_meetSum_208 : decode cX0_meetSum 208 = .ok (.istore 7, 2) := by decide +kernel
theorem dX0_meetSum_210 : decode cX0_meetSum 210 = .ok (.iinc 9 1, 3) := by decide +kernel
theorem dX0_meetSum_213 : decode cX0_meetSum 213 = .ok (.goto (-127), 3) := by decide +kernel
theorem dX0_meetSum_216 : decode cX0_meetSum 216 = .ok (.iload 8, 2) := by decide +kernel
theorem dX0_meetSum_218 : decode cX0_meetSum 218 = .ok (.ifCond .ge 6, 3) := by decide +kernel
theorem dX0_meetSum_221 : decode cX0_meetSum 221 = .ok (.bipush (-2), 2) := by decide +kernel
theorem dX0_meetSum_223 : decode cX0_meetSum 223 = .ok (.ireturn, 1) := by decide +kernel
theorem dX0_meetSum_224 : decode cX0_meetSum 224 = .ok (.aload_n 0, 1) := by decide +kernel
theorem dX0_meetSum_225 : decode cX0_meetSum 225 = .ok (.iload_n 1, 1) := by decide +kernel
theorem dX0_meetSum_226 : decode cX0_meetSum 226 = .ok (.iload 7, 2) := by decide +kernel
theorem dX0_meetSum_228 : decode cX0_meetSum 228 = .ok (.iload 8, 2) := by decide +kernel
theorem dX0_meetSum_230 : decode cX0_meetSum 230 = .ok (.invokevirtual 167, 3) := by decide +kernel
theorem dX0_meetSum_233 : decode cX0_meetSum 233 = .ok (.istore 9, 2) := by decide +kernel
theorem dX0_meetSum_235 : decode cX0_meetSum 235 = .ok (.iload 9, 2) := by decide +kernel
theorem dX0_meetSum_237 : decode cX0_meetSum 237 = .ok (.ifCond .lt 12, 3) := by decide +kernel
theorem dX0_meetSum_240 : decode cX0_meetSum 240 = .ok (.iload 7, 2) := by decide +kernel
theorem dX0_meetSum_242 : decode cX0_meetSum 242 = .ok (.invokestatic 171, 3) := by decide +kernel
theorem dX0_meetSum_245 : decode cX0_meetSum 245 = .ok (.iconst 2, 1) := by decide +kernel
theorem dX0_meetSum_246 : decode cX0_meetSum 246 = .ok (.if_icmp .ge 6, 3) := by decide +kernel
theorem dX0_meetSum_249 : decode cX0_meetSum 249 = .ok (.iload 9, 2) := by decide +kernel
theorem dX0_meetSum_251 : decode cX0_meetSum 251 = .ok (.ireturn, 1) := by decide +kernel
theorem dX0_meetSum_252 : decode cX0_meetSum 252 = .ok (.aload_n 0, 1) := by decide +kernel
theorem dX0_meetSum_253 : decode cX0_meetSum 253 = .ok (.iload 9, 2) := by decide +kernel
theorem dX0_meetSum_255 : decode cX0_meetSum 255 = .ok (.invokevirtual 176, 3) := by decide +kernel
theorem dX0_meetSum_258 : decode cX0_meetSum 258 = .ok (.bipush (-2), 2) := by decide +kernel
theorem dX0_meetSum_260 : decode cX0_meetSum 260 = .ok (.ireturn, 1) := by decide +kernel
set_option maxRecDepth 20000 in
theorem ggX0_remainder_X8_codeOf : GoodIn wsX0_remainder wsX8_codeOf := goodIn_r _ [9, 10, 11, 95, 96, 97, 98, 99, 100, 101, 102, 103, 104, 105, 106, 107, 108, 109, 110, 111, 112, 113] rfl (by decide +kernel)
set_option maxRecDepth 20000 in
theorem gX0_remainder_X8_codeOf : GoodIn wsX0_remainder (wsV RX0 125 RX8 yX8_codeOf wsX8_codeOf) := goodIn_app (goodIn_of _ (by decide +kernel)) ggX0_remainder_X8_codeOf
set_option maxRecDepth 20000 in
theorem ggX0_remainder_X9_operatorIn : GoodIn wsX0_remainder wsX9_operatorIn := goodIn_r _ [14] rfl (by decide +kernel)
set_option maxRecDepth 20000 in
theorem gX0_remainder_X9_operatorIn_n158 : GoodIn wsX0_remainder (wsX9_operatorIn) := ggX0_remainder_X9_operatorIn
set_option maxRecDepth 20000 in
theorem ggX0_remainder_X8_hasUnit : GoodIn wsX0_remainder wsX8_hasUnit := goodIn_r _ [18, 19, 20, 21, 22, 23, 24, 25, 95, 96, 97, 98, 99, 100, 101, 102, 103, 104, 105, 106, 107, 108, 109, 110, 111, 112, 113, 114, 115, 116, 117, 118, 119, 120, 121] rfl (by decide +kernel)
set_option maxRecDepth 20000 in
theorem gX0_remainder_X8_hasUnit : GoodIn wsX0_remainder (wsV RX0 179 RX8 yX8_hasUnit wsX8_hasUnit) := goodIn_app (goodIn_of _ (by decide +kernel)) ggX0_remainder_X8_hasUnit
set_option maxRecDepth 20000 in
theorem ggX0_remainder_J6_bitCount_0f7a4 : GoodIn wsX0_remainder wsJ6_bitCount_0f7a4 := goodIn_r _ [29, 30, 31, 32] rfl (by decide +kernel)
set_option maxRecDepth 20000 in
theorem gX0_remainder_J6_bitCount_0f7a4 : GoodIn wsX0_remainder (va_wsS RX0 171 yJ6_bitCount_0f7a4 wsJ6_bitCount_0f7a4) := goodIn_app (goodIn_of _ (by decide +kernel)) ggX0_remainder_J6_bitCount_0f7a4
set_option maxRecDepth 20000 in
theorem ggX0_remainder_X8_subSum : GoodIn wsX0_remainder wsX8_subSum := goodIn_r _ [36, 37, 19, 38, 39, 40, 8, 41, 10, 11, 42, 43, 44, 45, 23, 46, 25, 47, 48, 49, 50, 51, 52, 53, 54, 55, 56, 57, 58, 13, 59, 95, 96, 97, 98, 99, 100, 101, 102, 103, 104, 105, 106, 107, 108, 109, 110, 111, 112, 113, 114, 115, 116, 117, 118, 119, 120, 121] rfl (by decide +kernel)
set_option maxRecDepth 20000 in
theorem gX0_remainder_X8_subSum : GoodIn wsX0_remainder (wsV RX0 183 RX8 yX8_subSum wsX8_subSum) := goodIn_app (goodIn_of _ (by decide +kernel)) ggX0_remainder_X8_subSum
set_option maxRecDepth 20000 in
theorem ggX0_remainder_X0_addGoal : GoodIn wsX0_remainder wsX0_addGoal := goodIn_r _ [64, 65, 1, 66, 4, 3, 75, 76, 77, 78, 79, 80, 81, 82, 83, 84, 85, 86, 87, 88, 89, 90, 91, 92, 93, 94] rfl (by decide +kernel)
set_option maxRecDepth 20000 in
theorem gX0_remainder_X0_addGoal : GoodIn wsX0_remainder (wsV RX0 80 RX0 yX0_addGoal wsX0_addGoal) := goodIn_app (goodIn_of _ (by decide +kernel)) ggX0_remainder_X0_addGoal
set_option maxRecDepth 20000 in
theorem ggX0_remainder_J6_numberOfTrailingZeros_0f7a4 : GoodIn wsX0_remainder wsJ6_numberOfTrailingZeros_0f7a4 := goodIn_r _ [69, 70] rfl (by decide +kernel)
set_option maxRecDepth 20000 in
theorem gX0_remainder_J6_numberOfTrailingZeros_0f7a4 : GoodIn wsX0_remainder (va_wsS RX0 186 yJ6_numberOfTrailingZeros_0f7a4 wsJ6_numberOfTrailingZeros_0f7a4) := goodIn_app (goodIn_of _ (by decide +kernel)) ggX0_remainder_J6_numberOfTrailingZeros_0f7a4
set_option maxRecDepth 20000 in
theorem ggX0_remainder_X8_partOf : GoodIn wsX0_remainder wsX8_partOf := goodIn_r _ [74, 10, 42, 95, 96, 97, 98, 99, 100, 101, 102, 103, 104, 105, 106, 107, 108, 109, 110, 111, 112, 113] rfl (by decide +kernel)
set_option maxRecDepth 20000 in
theorem gX0_remainder_X8_partOf : GoodIn wsX0_remainder (wsV RX0 154 RX8 yX8_partOf wsX8_partOf) := goodIn_app (goodIn_of _ (by decide +kernel)) ggX0_remainder_X8_partOf
theorem dX0_remainder_0 : decode cX0_remainder 0 = .ok (.iload_n 1, 1) := by decide +kernel
theorem dX0_remainder_1 : decode cX0_remainder 1 = .ok (.ifCond .lt 10, 3) := by decide +kernel
theorem dX0_remainder_4 : decode cX0_remainder 4 = .ok (.iload_n 1, 1) := by decide +kernel
theorem dX0_remainder_5 : decode cX0_remainder 5 = .ok (.sipush 256, 3) := by decide +kernel
theorem dX0_remainder_8 : decode cX0_remainder 8 = .ok (.if_icmp .lt 6, 3) := by decide +kernel
theorem dX0_remainder_11 : decode cX0_remainder 11 = .ok (.bipush (-2), 2) := by decide +kernel
theorem dX0_remainder_13 : decode cX0_remainder 13 = .ok (.ireturn, 1) := by decide +kernel
theorem dX0_remainder_14 : decode cX0_remainder 14 = .ok (.aload_n 0, 1) := by decide +kernel
theorem dX0_remainder_15 : decode cX0_remainder 15 = .ok (.getfield 13, 3) := by decide +kernel
theorem dX0_remainder_18 : decode cX0_remainder 18 = .ok (.iload_n 1, 1) := by decide +kernel
theorem dX0_remainder_19 : decode cX0_remainder 19 = .ok (.iaload, 1) := by decide +kernel
theorem dX0_remainder_20 : decode cX0_remainder 20 = .ok (.istore 4, 2) := by decide +kernel
theorem dX0_remainder_22 : decode cX0_remainder 22 = .ok (.aload_n 0, 1) := by decide +kernel
theorem dX0_remainder_23 : decode cX0_remainder 23 = .ok (.getfield 53, 3) := by decide +kernel
theorem dX0_remainder_26 : decode cX0_remainder 26 = .ok (.iload 4, 2) := by decide +kernel
theorem dX0_remainder_28 : decode cX0_remainder 28 = .ok (.invokevirtual 125, 3) := by decide +kernel
theorem dX0_remainder_31 : decode cX0_remainder 31 = .ok (.invokestatic 158, 3) := by decide +kernel
theorem dX0_remainder_34 : decode cX0_remainder 34 = .ok (.istore 5, 2) := by decide +kernel
theorem dX0_remainder_36 : decode cX0_remainder 36 = .ok (.iload_n 2, 1) := by decide +kernel
theorem dX0_remainder_37 : decode cX0_remainder 37 = .ok (.ifCond .ne 19, 3) := by decide +kernel
theorem dX0_remainder_40 : decode cX0_remainder 40 = .ok (.iload_n 3, 1) := by decide +kernel
theorem dX0_remainder_41 : decode cX0_remainder 41 = .ok (.ifCond .ne 12, 3) := by decide +kernel
theorem dX0_remainder_44 : decode cX0_remainder 44 = .ok (.aload_n 0, 1) := by decide +kernel
theorem dX0_remainder_45 : decode cX0_remainder 45 = .ok (.getfield 23, 3) := by decide +kernel
theorem dX0_remainder_48 : decode cX0_remainder 48 = .ok (.iload_n 1, 1) := by decide +kernel
theorem dX0_remainder_49 : decode cX0_remainder 49 = .ok (.iaload, 1) := by decide +kernel
theorem dX0_remainder_50 : decode cX0_remainder 50 = .ok (.goto 5, 3) := by decide +kernel
theorem dX0_remainder_53 : decode cX0_remainder 53 = .ok (.bipush (-2), 2) := by decide +kernel
theorem dX0_remainder_55 : decode cX0_remainder 55 = .ok (.ireturn, 1) := by decide +kernel
theorem dX0_remainder_56 : decode cX0_remainder 56 = .ok (.aload_n 0, 1) := by decide +kernel
theorem dX0_remainder_57 : decode cX0_remainder 57 = .ok (.getfield 53, 3) := by decide +kernel
theorem dX0_remainder_60 : decode cX0_remainder 60 = .ok (.iload 5, 2) := by decide +kernel
theorem dX0_remainder_62 : decode cX0_remainder 62 = .ok (.invokevirtual 179, 3) := by decide +kernel
theorem dX0_remainder_65 : decode cX0_remainder 65 = .ok (.ifCond .ne 17, 3) := by decide +kernel
theorem dX0_remainder_68 : decode cX0_remainder 68 = .ok (.iload_n 3, 1) := by decide +kernel
theorem dX0_remainder_69 : decode cX0_remainder 69 = .ok (.invokestatic 171, 3) := by decide +kernel
theorem dX0_remainder_72 : decode cX0_remainder 72 = .ok (.iload_n 2, 1) := by decide +kernel
theorem dX0_remainder_73 : decode cX0_remainder 73 = .ok (.invokestatic 171, 3) := by decide +kernel
theorem dX0_remainder_76 : decode cX0_remainder 76 = .ok (.if_icmp .ge 6, 3) := by decide +kernel
theorem dX0_remainder_79 : decode cX0_remainder 79 = .ok (.bipush (-2), 2) := by decide +kernel
theorem dX0_remainder_81 : decode cX0_remainder 81 = .ok (.ireturn, 1) := by decide +kernel
theorem dX0_remainder_82 : decode cX0_remainder 82 = .ok (.aload_n 0, 1) := by decide +kernel
theorem dX0_remainder_83 : decode cX0_remainder 83 = .ok (.getfield 53, 3) := by decide +kernel
theorem dX0_remainder_86 : decode cX0_remainder 86 = .ok (.aload_n 0, 1) := by decide +kernel
theorem dX0_remainder_87 : decode cX0_remainder 87 = .ok (.getfield 20, 3) := by decide +kernel
theorem dX0_remainder_90 : decode cX0_remainder 90 = .ok (.iload_n 1, 1) := by decide +kernel
theorem dX0_remainder_91 : decode cX0_remainder 91 = .ok (.iaload, 1) := by decide +kernel
theorem dX0_remainder_92 : decode cX0_remainder 92 = .ok (.iload 5, 2) := by decide +kernel
theorem dX0_remainder_94 : decode cX0_remainder 94 = .ok (.iload_n 3, 1) := by decide +kernel
theorem dX0_remainder_95 : decode cX0_remainder 95 = .ok (.invokevirtual 183, 3) := by decide +kernel
theorem dX0_remainder_98 : decode cX0_remainder 98 = .ok (.istore 6, 2) := by decide +kernel
theorem dX0_remainder_100 : decode cX0_remainder 100 = .ok (.iload_n 2, 1) := by decide +kernel
theorem dX0_remainder_101 : decode cX0_remainder 101 = .ok (.invokestatic 171, 3) := by decide +kernel
theorem dX0_remainder_104 : decode cX0_remainder 104 = .ok (.iconst 1, 1) := by decide +kernel
theorem dX0_remainder_105 : decode cX0_remainder 105 = .ok (.if_icmp .le 19, 3) := by decide +kernel
theorem dX0_remainder_108 : decode cX0_remainder 108 = .ok (.aload_n 0, 1) := by decide +kernel
theorem dX0_remainder_109 : decode cX0_remainder 109 = .ok (.iload 4, 2) := by decide +kernel
theorem dX0_remainder_111 : decode cX0_remainder 111 = .ok (.iload_n 2, 1) := by decide +kernel
theorem dX0_remainder_112 : decode cX0_remainder 112 = .ok (.iload 6, 2) := by decide +kernel
theorem dX0_remainder_114 : decode cX0_remainder 114 = .ok (.aload_n 0, 1) := by decide +kernel
theorem dX0_remainder_115 : decode cX0_remainder 115 = .ok (.getfield 23, 3) := by decide +kernel
theorem dX0_remainder_118 : decode cX0_remainder 118 = .ok (.iload_n 1, 1) := by decide +kernel
theorem dX0_remainder_119 : decode cX0_remainder 119 = .ok (.iaload, 1) := by decide +kernel
theorem dX0_remainder_120 : decode cX0_remainder 120 = .ok (.invokevirtual 80, 3) := by decide +kernel
theorem dX0_remainder_123 : decode cX0_remainder 123 = .ok (.ireturn, 1) := by decide +kernel
theorem dX0_remainder_124 : decode cX0_remainder 124 = .ok (.aload_n 0, 1) := by decide +kernel
theorem dX0_remainder_125 : decode cX0_remainder 125 = .ok (.getfield 53, 3) := by decide +kernel
theorem dX0_remainder_128 : decode cX0_remainder 128 = .ok (.iload 4, 2) := by decide +kernel
theorem dX0_remainder_130 : decode cX0_remainder 130 = .ok (.iload_n 2, 1) := by decide +kernel
theorem dX0_remainder_131 : decode cX0_remainder 131 = .ok (.invokestatic 186, 3) := by decide +kernel
theorem dX0_remainder_134 : decode cX0_remainder 134 = .ok (.invokevirtual 154, 3) := by decide +kernel
theorem dX0_remainder_137 : decode cX0_remainder 137 = .ok (.istore 7, 2) := by decide +kernel
theorem dX0_remainder_139 : decode cX0_remainder 139 = .ok (.aload_n 0, 1) := by decide +kernel
theorem dX0_remainder_140 : decode cX0_remainder 140 = .ok (.iload 7, 2) := by decide +kernel
theorem dX0_remainder_142 : decode cX0_remainder 142 = .ok (.bipush 63, 2) := by decide +kernel
theorem dX0_remainder_144 : decode cX0_remainder 144 = .ok (.iload 6, 2) := by decide +kernel
theorem dX0_remainder_146 : decode cX0_remainder 146 = .ok (.aload_n 0, 1) := by decide +kernel
theorem dX0_remainder_147 : decode cX0_remainder 147 = .ok (.getfield 23, 3) := by decide +kernel
theorem dX0_remainder_150 : decode cX0_remainder 150 = .ok (.iload_n 1, 1) := by decide +kernel
theorem dX0_remainder_151 : decode cX0_remainder 151 = .ok (.iaload, 1) := by decide +kernel
theorem dX0_remainder_152 : decode cX0_remainder 152 = .ok (.invokevirtual 80, 3) := by decide +kernel
theorem dX0_remainder_155 : decode cX0_remainder 155 = .ok (.ireturn, 1) := by decide +kernel
set_option maxRecDepth 20000 in
theorem ggX0_branchOverSum_X8_partOf : GoodIn wsX0_branchOverSum wsX8_partOf := goodIn_r _ [9, 10, 11, 83, 84, 85, 86, 87, 88, 89, 90, 91, 92, 93, 94, 95, 96, 97, 98, 99, 100, 101] rfl (by decide +kernel)
set_option maxRecDepth 20000 in
theorem gX0_branchOverSum_X8_partOf : GoodIn wsX0_branchOverSum (wsV RX0 154 RX8 yX8_partOf wsX8_partOf) := goodIn_app (goodIn_of _ (by decide +kernel)) ggX0_branchOverSum_X8_partOf
set_option maxRecDepth 20000 in
theorem ggX0_branchOverSum_X0_worthOf : GoodIn wsX0_branchOverSum wsX0_worthOf := goodIn_r _ [16, 3, 17, 18, 19, 20, 8, 21, 10, 22, 23, 24, 25, 26, 27, 28, 29, 30, 31, 32, 63, 64, 65, 66, 67, 68, 69, 70, 71, 72, 73, 74, 75, 76, 77, 78, 79, 80, 81, 82, 83, 84, 85, 86, 87, 88, 89, 90, 91, 92, 93, 94, 95, 96, 97, 98, 99, 100, 101, 102, 103, 104, 105, 106, 107, 108, 109] rfl (by decide +kernel)
set_option maxRecDepth 20000 in
theorem gX0_branchOverSum_X0_worthOf : GoodIn wsX0_branchOverSum (wsV RX0 189 RX0 yX0_worthOf wsX0_worthOf) := goodIn_app (goodIn_of _ (by decide +kernel)) ggX0_branchOverSum_X0_worthOf
set_option maxRecDepth 20000 in
theorem ggX0_branchOverSum_X8_codeOf : GoodIn wsX0_branchOverSum wsX8_codeOf := goodIn_r _ [32, 10, 22, 83, 84, 85, 86, 87, 88, 89, 90, 91, 92, 93, 94, 95, 96, 97, 98, 99, 100, 101] rfl (by decide +kernel)
set_option maxRecDepth 20000 in
theorem gX0_branchOverSum_X8_codeOf : GoodIn wsX0_branchOverSum (wsV RX0 125 RX8 yX8_codeOf wsX8_codeOf) := goodIn_app (goodIn_of _ (by decide +kernel)) ggX0_branchOverSum_X8_codeOf
set_option maxRecDepth 20000 in
theorem ggX0_branchOverSum_X9_operatorIn : GoodIn wsX0_branchOverSum wsX9_operatorIn := goodIn_r _ [35] rfl (by decide +kernel)
set_option maxRecDepth 20000 in
theorem gX0_branchOverSum_X9_operatorIn_n158 : GoodIn wsX0_branchOverSum (wsX9_operatorIn) := ggX0_branchOverSum_X9_operatorIn
set_option maxRecDepth 20000 in
theorem ggX0_branchOverSum_X8_partsAsSum : GoodIn wsX0_branchOverSum wsX8_partsAsSum := goodIn_r _ [39, 23, 40, 30, 31, 8, 32, 10, 22, 33, 34, 35, 41, 42, 43, 44, 45, 46, 47, 48, 83, 84, 85, 86, 87, 88, 89, 90, 91, 92, 93, 94, 95, 96, 97, 98, 99, 100, 101, 102, 103, 104, 105, 106, 107, 108, 109] rfl (by decide +kernel)
set_option maxRecDepth 20000 in
theorem gX0_branchOverSum_X8_partsAsSum : GoodIn wsX0_branchOverSum (wsV RX0 161 RX8 yX8_partsAsSum wsX8_partsAsSum) := goodIn_app (goodIn_of _ (by decide +kernel)) ggX0_branchOverSum_X8_partsAsSum
set_option maxRecDepth 20000 in
theorem ggX0_branchOverSum_X8_sortOf : GoodIn wsX0_branchOverSum wsX8_sortOf := goodIn_r _ [21, 10, 22, 23, 83, 84, 85, 86, 87, 88, 89, 90, 91, 92, 93, 94, 95, 96, 97, 98, 99, 100, 101, 102, 103, 104, 105, 106, 107, 108, 109] rfl (by decide +kernel)
set_option maxRecDepth 20000 in
theorem gX0_branchOverSum_X8_sortOf : GoodIn wsX0_branchOverSum (wsV RX0 192 RX8 yX8_sortOf wsX8_sortOf) := goodIn_app (goodIn_of _ (by decide +kernel)) ggX0_branchOverSum_X8_sortOf
set_option maxRecDepth 20000 in
theorem ggX0_branchOverSum_X0_addBranch : GoodIn wsX0_branchOverSum wsX0_addBranch := goodIn_r _ [52, 53, 54, 55, 56, 57, 58, 59, 60, 61, 62, 63, 64, 65, 66, 67, 68, 69, 70, 71, 72, 73, 74, 75, 76, 77, 78, 79, 80, 81, 82] rfl (by decide +kernel)
set_option maxRecDepth 20000 in
theorem gX0_branchOverSum_X0_addBranch : GoodIn wsX0_branchOverSum (wsV RX0 144 RX0 yX0_addBranch wsX0_addBranch) := goodIn_app (goodIn_of _ (by decide +kernel)) ggX0_branchOverSum_X0_addBranch
theorem dX0_branchOverSum_0 : decode cX0_branchOverSum 0 = .ok (.iload_n 1, 1) := by decide +kernel
theorem dX0_branchOverSum_1 : decode cX0_branchOverSum 1 = .ok (.ifCond .lt 10, 3) := by decide +kernel
theorem dX0_branchOverSum_4 : decode cX0_branchOverSum 4 = .ok (.iload_n 1, 1) := by decide +kernel
theorem dX0_branchOverSum_5 : decode cX0_branchOverSum 5 = .ok (.sipush 256, 3) := by decide +kernel
theorem dX0_branchOverSum_8 : decode cX0_branchOverSum 8 = .ok (.if_icmp .lt 4, 3) := by decide +kernel
theorem dX0_branchOverSum_11 : decode cX0_branchOverSum 11 = .ok (.return_, 1) := by decide +kernel
theorem dX0_branchOverSum_12 : decode cX0_branchOverSum 12 = .ok (.aload_n 0, 1) := by decide +kernel
theorem dX0_branchOverSum_13 : decode cX0_branchOverSum 13 = .ok (.getfield 13, 3) := by decide +kernel
theorem dX0_branchOverSum_16 : decode cX0_branchOverSum 16 = .ok (.iload_n 1, 1) := by decide +kernel
theorem dX0_branchOverSum_17 : decode cX0_branchOverSum 17 = .ok (.iaload, 1) := by decide +kernel
theorem dX0_branchOverSum_18 : decode cX0_branchOverSum 18 = .ok (.istore_n 2, 1) := by decide +kernel
theorem dX0_branchOverSum_19 : decode cX0_branchOverSum 19 = .ok (.aload_n 0, 1) := by decide +kernel
theorem dX0_branchOverSum_20 : decode cX0_branchOverSum 20 = .ok (.getfield 17, 3) := by decide +kernel
theorem dX0_branchOverSum_23 : decode cX0_branchOverSum 23 = .ok (.iload_n 1, 1) := by decide +kernel
theorem dX0_branchOverSum_24 : decode cX0_branchOverSum 24 = .ok (.iaload, 1) := by decide +kernel
theorem dX0_branchOverSum_25 : decode cX0_branchOverSum 25 = .ok (.istore_n 3, 1) := by decide +kernel
theorem dX0_branchOverSum_26 : decode cX0_branchOverSum 26 = .ok (.iconst (-1), 1) := by decide +kernel
theorem dX0_branchOverSum_27 : decode cX0_branchOverSum 27 = .ok (.istore 4, 2) := by decide +kernel
theorem dX0_branchOverSum_29 : decode cX0_branchOverSum 29 = .ok (.iconst 0, 1) := by decide +kernel
theorem dX0_branchOverSum_30 : decode cX0_branchOverSum 30 = .ok (.istore 5, 2) := by decide +kernel
theorem dX0_branchOverSum_32 : decode cX0_branchOverSum 32 = .ok (.iconst 0, 1) := by decide +kernel
theorem dX0_branchOverSum_33 : decode cX0_branchOverSum 33 = .ok (.istore 6, 2) := by decide +kernel
theorem dX0_branchOverSum_35 : decode cX0_branchOverSum 35 = .ok (.iload 6, 2) := by decide +kernel
theorem dX0_branchOverSum_37 : decode cX0_branchOverSum 37 = .ok (.bipush 6, 2) := by decide +kernel
theorem dX0_branchOverSum_39 : decode cX0_branchOverSum 39 = .ok (.if_icmp .ge 53, 3) := by decide +kernel
theorem dX0_branchOverSum_42 : decode cX0_branchOverSum 42 = .ok (.iload_n 3, 1) := by decide +kernel
theorem dX0_branchOverSum_43 : decode cX0_branchOverSum 43 = .ok (.iload 6, 2) := by decide +kernel
theorem dX0_branchOverSum_45 : decode cX0_branchOverSum 45 = .ok (.ishr, 1) := by decide +kernel
theorem dX0_branchOverSum_46 : decode cX0_branchOverSum 46 = .ok (.iconst 1, 1) := by decide +kernel
theorem dX0_branchOverSum_47 : decode cX0_branchOverSum 47 = .ok (.iand, 1) := by decide +kernel
theorem dX0_branchOverSum_48 : decode cX0_branchOverSum 48 = .ok (.ifCond .eq 20, 3) := by decide +kernel
theorem dX0_branchOverSum_51 : decode cX0_branchOverSum 51 = .ok (.aload_n 0, 1) := by decide +kernel
theorem dX0_branchOverSum_52 : decode cX0_branchOverSum 52 = .ok (.aload_n 0, 1) := by decide +kernel
theorem dX0_branchOverSum_53 : decode cX0_branchOverSum 53 = .ok (.getfield 53, 3) := by decide +kernel
theorem dX0_branchOverSum_56 : decode cX0_branchOverSum 56 = .ok (.iload_n 2, 1) := by decide +kernel
theorem dX0_branchOverSum_57 : decode cX0_branchOverSum 57 = .ok (.iload 6, 2) := by decide +kernel
theorem dX0_branchOverSum_59 : decode cX0_branchOverSum 59 = .ok (.invokevirtual 154, 3) := by decide +kernel
theorem dX0_branchOverSum_62 : decode cX0_branchOverSum 62 = .ok (.invokevirtual 189, 3) := by decide +kernel
theorem dX0_branchOverSum_65 : decode cX0_branchOverSum 65 = .ok (.goto 4, 3) := by decide +kernel
theorem dX0_branchOverSum_68 : decode cX0_branchOverSum 68 = .ok (.iconst 0, 1) := by decide +kernel
theorem dX0_branchOverSum_69 : decode cX0_branchOverSum 69 = .ok (.istore 7, 2) := by decide +kernel
theorem dX0_branchOverSum_71 : decode cX0_branchOverSum 71 = .ok (.iload 7, 2) := by decide +kernel
theorem dX0_branchOverSum_73 : decode cX0_branchOverSum 73 = .ok (.iload 5, 2) := by decide +kernel
theorem dX0_branchOverSum_75 : decode cX0_branchOverSum 75 = .ok (.if_icmp .le 11, 3) := by decide +kernel
theorem dX0_branchOverSum_78 : decode cX0_branchOverSum 78 = .ok (.iload 6, 2) := by decide +kernel
theorem dX0_branchOverSum_80 : decode cX0_branchOverSum 80 = .ok (.istore 4, 2) := by decide +kernel
theorem dX0_branchOverSum_82 : decode cX0_branchOverSum 82 = .ok (.iload 7, 2) := by decide +kernel
theorem dX0_branchOverSum_84 : decode cX0_branchOverSum 84 = .ok (.istore 5, 2) := by decide +kernel
theorem dX0_branchOverSum_86 : decode cX0_branchOverSum 86 = .ok (.iinc 6 1, 3) := by decide +kernel
theorem dX0_branchOverSum_89 : decode cX0_branchOverSum 89 = .ok (.goto (-54), 3) := by decide +kernel
theorem dX0_branchOverSum_92 : decode cX0_branchOverSum 92 = .ok (.aload_n 0, 1) := by decide +kernel
theorem dX0_branchOverSum_93 : decode cX0_branchOverSum 93 = .ok (.getfield 53, 3) := by decide +kernel
theorem dX0_branchOverSum_96 : decode cX0_branchOverSum 96 = .ok (.aload_n 0, 1) := by decide +kernel
theorem dX0_branchOverSum_97 : decode cX0_branchOverSum 97 = .ok (.getfield 20, 3) := by decide +kernel
theorem dX0_branchOverSum_100 : decode cX0_branchOverSum 100 = .ok (.iload_n 1, 1) := by decide +kernel
theorem dX0_branchOverSum_101 : decode cX0_branchOverSum 101 = .ok (.iaload, 1) := by decide +kernel
theorem dX0_branchOverSum_102 : decode cX0_branchOverSum 102 = .ok (.aload_n 0, 1) := by decide +kernel
theorem dX0_branchOverSum_103 : decode cX0_branchOverSum 103 = .ok (.getfield 53, 3) := by decide +kernel
theorem dX0_branchOverSum_106 : decode cX0_branchOverSum 106 = .ok (.iload_n 2, 1) := by decide +kernel
theorem dX0_branchOverSum_107 : decode cX0_branchOverSum 107 = .ok (.invokevirtual 125, 3) := by decide +kernel
theorem dX0_branchOverSum_110 : decode cX0_branchOverSum 110 = .ok (.invokestatic 158, 3) := by decide +kernel
theorem dX0_branchOverSum_113 : decode cX0_branchOverSum 113 = .ok (.invokevirtual 161, 3) := by decide +kernel
theorem dX0_branchOverSum_116 : decode cX0_branchOverSum 116 = .ok (.istore 6, 2) := by decide +kernel
theorem dX0_branchOverSum_118 : decode cX0_branchOverSum 118 = .ok (.aload_n 0, 1) := by decide +kernel
theorem dX0_branchOverSum_119 : decode cX0_branchOverSum 119 = .ok (.getfield 53, 3) := by decide +kernel
theorem dX0_branchOverSum_122 : decode cX0_branchOverSum 122 = .ok (.aload_n 0, 1) := by decide +kernel
theorem dX0_branchOverSum_123 : decode cX0_branchOverSum 123 = .ok (.getfield 53, 3) := by decide +kernel
theorem dX0_branchOverSum_126 : decode cX0_branchOverSum 126 = .ok (.iload_n 2, 1) := by decide +kernel
theorem dX0_branchOverSum_127 : decode cX0_branchOverSum 127 = .ok (.iload 4, 2) := by decide +kernel
theorem dX0_branchOverSum_129 : decode cX0_branchOverSum 129 = .ok (.invokevirtual 154, 3) := by decide +kernel
theorem dX0_branchOverSum_132 : decode cX0_branchOverSum 132 = .ok (.invokevirtual 192, 3) := by decide +kernel
theorem dX0_branchOverSum_135 : decode cX0_branchOverSum 135 = .ok (.iconst 2, 1) := by decide +kernel
theorem dX0_branchOverSum_136 : decode cX0_branchOverSum 136 = .ok (.if_icmp .ne 7, 3) := by decide +kernel
theorem dX0_branchOverSum_139 : decode cX0_branchOverSum 139 = .ok (.iconst 1, 1) := by decide +kernel
theorem dX0_branchOverSum_140 : decode cX0_branchOverSum 140 = .ok (.goto 4, 3) := by decide +kernel
theorem dX0_branchOverSum_143 : decode cX0_branchOverSum 143 = .ok (.iconst 0, 1) := by decide +kernel
theorem dX0_branchOverSum_144 : decode cX0_branchOverSum 144 = .ok (.istore 7, 2) := by decide +kernel
theorem dX0_branchOverSum_146 : decode cX0_branchOverSum 146 = .ok (.aload_n 0, 1) := by decide +kernel
theorem dX0_branchOverSum_147 : decode cX0_branchOverSum 147 = .ok (.iload_n 1, 1) := by decide +kernel
theorem dX0_branchOverSum_148 : decode cX0_branchOverSum 148 = .ok (.iload 4, 2) := by decide +kernel
theorem dX0_branchOverSum_150 : decode cX0_branchOverSum 150 = .ok (.iload 7, 2) := by decide +kernel
theorem dX0_branchOverSum_152 : decode cX0_branchOverSum 152 = .ok (.ifCond .eq 8, 3) := by decide +kernel
theorem dX0_branchOverSum_155 : decode cX0_branchOverSum 155 = .ok (.iload 6, 2) := by decide +kernel
theorem dX0_branchOverSum_157 : decode cX0_branchOverSum 157 = .ok (.goto 7, 3) := by decide +kernel
theorem dX0_branchOverSum_160 : decode cX0_branchOverSum 160 = .ok (.iconst 1, 1) := by decide +kernel
theorem dX0_branchOverSum_161 : decode cX0_branchOverSum 161 = .ok (.iload 6, 2) := by decide +kernel
theorem dX0_branchOverSum_163 : decode cX0_branchOverSum 163 = .ok (.ishl, 1) := by decide +kernel
theorem dX0_branchOverSum_164 : decode cX0_branchOverSum 164 = .ok (.invokevirtual 144, 3) := by decide +kernel
theorem dX0_branchOverSum_167 : decode cX0_branchOverSum 167 = .ok (.return_, 1) := by decide +kernel
set_option maxRecDepth 20000 in
theorem ggX0_worthOf_X8_sortOf : GoodIn wsX0_worthOf wsX8_sortOf := goodIn_r _ [7, 8, 9, 10, 40, 41, 42, 43, 44, 45, 46, 47, 48, 49, 50, 51, 52, 53, 54, 55, 56, 57, 58, 59, 60, 61, 62, 63, 64, 65, 66] rfl (by decide +kernel)
set_option maxRecDepth 20000 in
theorem gX0_worthOf_X8_sortOf : GoodIn wsX0_worthOf (wsV RX0 192 RX8 yX8_sortOf wsX8_sortOf) := goodIn_app (goodIn_of _ (by decide +kernel)) ggX0_worthOf_X8_sortOf
set_option maxRecDepth 20000 in
theorem ggX0_worthOf_X8_lowOf : GoodIn wsX0_worthOf wsX8_lowOf := goodIn_r _ [14, 8, 15, 40, 41, 42, 43, 44, 45, 46, 47, 48, 49, 50, 51, 52, 53, 54, 55, 56, 57, 58] rfl (by decide +kernel)
set_option maxRecDepth 20000 in
theorem gX0_worthOf_X8_lowOf : GoodIn wsX0_worthOf (wsV RX0 114 RX8 yX8_lowOf wsX8_lowOf) := goodIn_app (goodIn_of _ (by decide +kernel)) ggX0_worthOf_X8_lowOf
set_option maxRecDepth 20000 in
theorem ggX0_worthOf_X8_codeOf : GoodIn wsX0_worthOf wsX8_codeOf := goodIn_r _ [19, 8, 9, 40, 41, 42, 43, 44, 45, 46, 47, 48, 49, 50, 51, 52, 53, 54, 55, 56, 57, 58] rfl (by decide +kernel)
set_option maxRecDepth 20000 in
theorem gX0_worthOf_X8_codeOf : GoodIn wsX0_worthOf (wsV RX0 125 RX8 yX8_codeOf wsX8_codeOf) := goodIn_app (goodIn_of _ (by decide +kernel)) ggX0_worthOf_X8_codeOf
theorem dX0_worthOf_0 : decode cX0_worthOf 0 = .ok (.aload_n 0, 1) := by decide +kernel
theorem dX0_worthOf_1 : decode cX0_worthOf 1 = .ok (.getfield 53, 3) := by decide +kernel
theorem dX0_worthOf_4 : decode cX0_worthOf 4 = .ok (.iload_n 1, 1) := by decide +kernel
theorem dX0_worthOf_5 : decode cX0_worthOf 5 = .ok (.invokevirtual 192, 3) := by decide +kernel
theorem dX0_worthOf_8 : decode cX0_worthOf 8 = .ok (.istore_n 2, 1) := by decide +kernel
theorem dX0_worthOf_9 : decode cX0_worthOf 9 = .ok (.iload_n 2, 1) := by decide +kernel
theorem dX0_worthOf_10 : decode cX0_worthOf 10 = .ok (.iconst 2, 1) := by decide +kernel
theorem dX0_worthOf_11 : decode cX0_worthOf 11 = .ok (.if_icmp .ne 6, 3) := by decide +kernel
theorem dX0_worthOf_14 : decode cX0_worthOf 14 = .ok (.bipush 22, 2) := by decide +kernel
theorem dX0_worthOf_16 : decode cX0_worthOf 16 = .ok (.ireturn, 1) := by decide +kernel
theorem dX0_worthOf_17 : decode cX0_worthOf 17 = .ok (.iload_n 2, 1) := by decide +kernel
theorem dX0_worthOf_18 : decode cX0_worthOf 18 = .ok (.iconst 1, 1) := by decide +kernel
theorem dX0_worthOf_19 : decode cX0_worthOf 19 = .ok (.if_icmp .ne 5, 3) := by decide +kernel
theorem dX0_worthOf_22 : decode cX0_worthOf 22 = .ok (.iconst 2, 1) := by decide +kernel
theorem dX0_worthOf_23 : decode cX0_worthOf 23 = .ok (.ireturn, 1) := by decide +kernel
theorem dX0_worthOf_24 : decode cX0_worthOf 24 = .ok (.aload_n 0, 1) := by decide +kernel
theorem dX0_worthOf_25 : decode cX0_worthOf 25 = .ok (.getfield 53, 3) := by decide +kernel
theorem dX0_worthOf_28 : decode cX0_worthOf 28 = .ok (.aload_n 0, 1) := by decide +kernel
theorem dX0_worthOf_29 : decode cX0_worthOf 29 = .ok (.getfield 70, 3) := by decide +kernel
theorem dX0_worthOf_32 : decode cX0_worthOf 32 = .ok (.invokevirtual 114, 3) := by decide +kernel
theorem dX0_worthOf_35 : decode cX0_worthOf 35 = .ok (.bipush 6, 2) := by decide +kernel
theorem dX0_worthOf_37 : decode cX0_worthOf 37 = .ok (.aload_n 0, 1) := by decide +kernel
theorem dX0_worthOf_38 : decode cX0_worthOf 38 = .ok (.getfield 53, 3) := by decide +kernel
theorem dX0_worthOf_41 : decode cX0_worthOf 41 = .ok (.iload_n 1, 1) := by decide +kernel
theorem dX0_worthOf_42 : decode cX0_worthOf 42 = .ok (.invokevirtual 125, 3) := by decide +kernel
theorem dX0_worthOf_45 : decode cX0_worthOf 45 = .ok (.imul, 1) := by decide +kernel
theorem dX0_worthOf_46 : decode cX0_worthOf 46 = .ok (.lshr, 1) := by decide +kernel
theorem dX0_worthOf_47 : decode cX0_worthOf 47 = .ok (.l2i, 1) := by decide +kernel
theorem dX0_worthOf_48 : decode cX0_worthOf 48 = .ok (.bipush 31, 2) := by decide +kernel
theorem dX0_worthOf_50 : decode cX0_worthOf 50 = .ok (.iand, 1) := by decide +kernel
theorem dX0_worthOf_51 : decode cX0_worthOf 51 = .ok (.istore_n 3, 1) := by decide +kernel
theorem dX0_worthOf_52 : decode cX0_worthOf 52 = .ok (.iload_n 3, 1) := by decide +kernel
theorem dX0_worthOf_53 : decode cX0_worthOf 53 = .ok (.iconst 1, 1) := by decide +kernel
theorem dX0_worthOf_54 : decode cX0_worthOf 54 = .ok (.if_icmp .le 9, 3) := by decide +kernel
theorem dX0_worthOf_57 : decode cX0_worthOf 57 = .ok (.iload_n 3, 1) := by decide +kernel
theorem dX0_worthOf_58 : decode cX0_worthOf 58 = .ok (.iconst 1, 1) := by decide +kernel
theorem dX0_worthOf_59 : decode cX0_worthOf 59 = .ok (.iadd, 1) := by decide +kernel
theorem dX0_worthOf_60 : decode cX0_worthOf 60 = .ok (.goto 4, 3) := by decide +kernel
theorem dX0_worthOf_63 : decode cX0_worthOf 63 = .ok (.iconst 1, 1) := by decide +kernel
theorem dX0_worthOf_64 : decode cX0_worthOf 64 = .ok (.ireturn, 1) := by decide +kernel
theorem dX0_addBranch_0 : decode cX0_addBranch 0 = .ok (.aload_n 0, 1) := by decide +kernel
theorem dX0_addBranch_1 : decode cX0_addBranch 1 = .ok (.getfield 64, 3) := by decide +kernel
theorem dX0_addBranch_4 : decode cX0_addBranch 4 = .ok (.ifCond .lt 12, 3) := by decide +kernel
theorem dX0_addBranch_7 : decode cX0_addBranch 7 = .ok (.aload_n 0, 1) := by decide +kernel
theorem dX0_addBranch_8 : decode cX0_addBranch 8 = .ok (.getfield 64, 3) := by decide +kernel
theorem dX0_addBranch_11 : decode cX0_addBranch 11 = .ok (.bipush 64, 2) := by decide +kernel
theorem dX0_addBranch_13 : decode cX0_addBranch 13 = .ok (.if_icmp .lt 11, 3) := by decide +kernel
theorem dX0_addBranch_16 : decode cX0_addBranch 16 = .ok (.aload_n 0, 1) := by decide +kernel
theorem dX0_addBranch_17 : decode cX0_addBranch 17 = .ok (.sipush 301, 3) := by decide +kernel
theorem dX0_addBranch_20 : decode cX0_addBranch 20 = .ok (.putfield 57, 3) := by decide +kernel
theorem dX0_addBranch_23 : decode cX0_addBranch 23 = .ok (.return_, 1) := by decide +kernel
theorem dX0_addBranch_24 : decode cX0_addBranch 24 = .ok (.aload_n 0, 1) := by decide +kernel
theorem dX0_addBranch_25 : decode cX0_addBranch 25 = .ok (.getfield 29, 3) := by decide +kernel
theorem dX0_addBranch_28 : decode cX0_addBranch 28 = .ok (.aload_n 0, 1) := by decide +kernel
theorem dX0_addBranch_29 : decode cX0_addBranch 29 = .ok (.getfield 64, 3) := by decide +kernel
theorem dX0_addBranch_32 : decode cX0_addBranch 32 = .ok (.iload_n 1, 1) := by decide +kernel
theorem dX0_addBranch_33 : decode cX0_addBranch 33 = .ok (.iastore, 1) := by decide +kernel
theorem dX0_addBranch_34 : decode cX0_addBranch 34 = .ok (.aload_n 0, 1) := by decide +kernel
theorem dX0_addBranch_35 : decode cX0_addBranch 35 = .ok (.getfield 32, 3) := by decide +kernel
theorem dX0_addBranch_38 : decode cX0_addBranch 38 = .ok (.aload_n 0, 1) := by decide +kernel
theorem dX0_addBranch_39 : decode cX0_addBranch 39 = .ok (.getfield 64, 3) := by decide +kernel
theorem dX0_addBranch_42 : decode cX0_addBranch 42 = .ok (.iload_n 2, 1) := by decide +kernel
theorem dX0_addBranch_43 : decode cX0_addBranch 43 = .ok (.iastore, 1) := by decide +kernel
theorem dX0_addBranch_44 : decode cX0_addBranch 44 = .ok (.aload_n 0, 1) := by decide +kernel
theorem dX0_addBranch_45 : decode cX0_addBranch 45 = .ok (.getfield 35, 3) := by decide +kernel
theorem dX0_addBranch_48 : decode cX0_addBranch 48 = .ok (.aload_n 0, 1) := by decide +kernel
theorem dX0_addBranch_49 : decode cX0_addBranch 49 = .ok (.getfield 64, 3) := by decide +kernel
theorem dX0_addBranch_52 : decode cX0_addBranch 52 = .ok (.iconst (-1), 1) := by decide +kernel
theorem dX0_addBranch_53 : decode cX0_addBranch 53 = .ok (.iastore, 1) := by decide +kernel
theorem dX0_addBranch_54 : decode cX0_addBranch 54 = .ok (.aload_n 0, 1) := by decide +kernel
theorem dX0_addBranch_55 : decode cX0_addBranch 55 = .ok (.getfield 38, 3) := by decide +kernel
theorem dX0_addBranch_58 : decode cX0_addBranch 58 = .ok (.aload_n 0, 1) := by decide +kernel
theorem dX0_addBranch_59 : decode cX0_addBranch 59 = .ok (.getfield 64, 3) := by decide +kernel
theorem dX0_addBranch_62 : decode cX0_addBranch 62 = .ok (.iload_n 3, 1) := by decide +kernel
theorem dX0_addBranch_63 : decode cX0_addBranch 63 = .ok (.iastore, 1) := by decide +kernel
theorem dX0_addBranch_64 : decode cX0_addBranch 64 = .ok (.aload_n 0, 1) := by decide +kernel
theorem dX0_addBranch_65 : decode cX0_addBranch 65 = .ok (.getfield 41, 3) := by decide +kernel
theorem dX0_addBranch_68 : decode cX0_addBranch 68 = .ok (.aload_n 0, 1) := by decide +kernel
theorem dX0_addBranch_69 : decode cX0_addBranch 69 = .ok (.getfield 64, 3) := by decide +kernel
theorem dX0_addBranch_72 : decode cX0_addBranch 72 = .ok (.aload_n 0, 1) := by decide +kernel
theorem dX0_addBranch_73 : decode cX0_addBranch 73 = .ok (.getfield 67, 3) := by decide +kernel
theorem dX0_addBranch_76 : decode cX0_addBranch 76 = .ok (.iastore, 1) := by decide +kernel
theorem dX0_addBranch_77 : decode cX0_addBranch 77 = .ok (.aload_n 0, 1) := by decide +kernel
theorem dX0_addBranch_78 : decode cX0_addBranch 78 = .ok (.getfield 44, 3) := by decide +kernel
theorem dX0_addBranch_81 : decode cX0_addBranch 81 = .ok (.aload_n 0, 1) := by decide +kernel
theorem dX0_addBranch_82 : decode cX0_addBranch 82 = .ok (.getfield 64, 3) := by decide +kernel
theorem dX0_addBranch_85 : decode cX0_addBranch 85 = .ok (.aload_n 0, 1) := by decide +kernel
theorem dX0_addBranch_86 : decode cX0_addBranch 86 = .ok (.getfield 61, 3) := by decide +kernel
theorem dX0_addBranch_89 : decode cX0_addBranch 89 = .ok (.iastore, 1) := by decide +kernel
theorem dX0_addBranch_90 : decode cX0_addBranch 90 = .ok (.aload_n 0, 1) := by decide +kernel
theorem dX0_addBranch_91 : decode cX0_addBranch 91 = .ok (.dup, 1) := by decide +kernel
theorem dX0_addBranch_92 : decode cX0_addBranch 92 = .ok (.getfield 64, 3) := by decide +kernel
theorem dX0_addBranch_95 : decode cX0_addBranch 95 = .ok (.iconst 1, 1) := by decide +kernel
theorem dX0_addBranch_96 : decode cX0_addBranch 96 = .ok (.iadd, 1) := by decide +kernel
theorem dX0_addBranch_97 : decode cX0_addBranch 97 = .ok (.putfield 64, 3) := by decide +kernel
theorem dX0_addBranch_100 : decode cX0_addBranch 100 = .ok (.return_, 1) := by decide +kernel
theorem dX0_hasWay_0 : decode cX0_hasWay 0 = .ok (.aload_n 0, 1) := by decide +kernel
theorem dX0_hasWay_1 : decode cX0_hasWay 1 = .ok (.getfield 64, 3) := by decide +kernel
theorem dX0_hasWay_4 : decode cX0_hasWay 4 = .ok (.iconst 1, 1) := by decide +kernel
theorem dX0_hasWay_5 : decode cX0_hasWay 5 = .ok (.isub, 1) := by decide +kernel
theorem dX0_hasWay_6 : decode cX0_hasWay 6 = .ok (.istore_n 1, 1) := by decide +kernel
theorem dX0_hasWay_7 : decode cX0_hasWay 7 = .ok (.iload_n 1, 1) := by decide +kernel
theorem dX0_hasWay_8 : decode cX0_hasWay 8 = .ok (.ifCond .lt 9, 3) := by decide +kernel
theorem dX0_hasWay_11 : decode cX0_hasWay 11 = .ok (.iload_n 1, 1) := by decide +kernel
theorem dX0_hasWay_12 : decode cX0_hasWay 12 = .ok (.bipush 64, 2) := by decide +kernel
theorem dX0_hasWay_14 : decode cX0_hasWay 14 = .ok (.if_icmp .lt 5, 3) := by decide +kernel
theorem dX0_hasWay_17 : decode cX0_hasWay 17 = .ok (.iconst 0, 1) := by decide +kernel
theorem dX0_hasWay_18 : decode cX0_hasWay 18 = .ok (.ireturn, 1) := by decide +kernel
theorem dX0_hasWay_19 : decode cX0_hasWay 19 = .ok (.aload_n 0, 1) := by decide +kernel
theorem dX0_hasWay_20 : decode cX0_hasWay 20 = .ok (.aload_n 0, 1) := by decide +kernel
theorem dX0_hasWay_21 : decode cX0_hasWay 21 = .ok (.getfield 41, 3) := by decide +kernel
theorem dX0_hasWay_24 : decode cX0_hasWay 24 = .ok (.iload_n 1, 1) := by decide +kernel
theorem dX0_hasWay_25 : decode cX0_hasWay 25 = .ok (.iaload, 1) := by decide +kernel
theorem dX0_hasWay_26 : decode cX0_hasWay 26 = .ok (.putfield 67, 3) := by decide +kernel
theorem dX0_hasWay_29 : decode cX0_hasWay 29 = .ok (.aload_n 0, 1) := by decide +kernel
theorem dX0_hasWay_30 : decode cX0_hasWay 30 = .ok (.aload_n 0, 1) := by decide +kernel
theorem dX0_hasWay_31 : decode cX0_hasWay 31 = .ok (.getfield 44, 3) := by decide +kernel
theorem dX0_hasWay_34 : decode cX0_hasWay 34 = .ok (.iload_n 1, 1) := by decide +kernel
theorem dX0_hasWay_35 : decode cX0_hasWay 35 = .ok (.iaload, 1) := by decide +kernel
theorem dX0_hasWay_36 : decode cX0_hasWay 36 = .ok (.putfield 61, 3) := by decide +kernel
theorem dX0_hasWay_39 : decode cX0_hasWay 39 = .ok (.aload_n 0, 1) := by decide +kernel
theorem dX0_hasWay_40 : decode cX0_hasWay 40 = .ok (.getfield 35, 3) := by decide +kernel
theorem dX0_hasWay_43 : decode cX0_hasWay 43 = .ok (.iload_n 1, 1) := by decide +kernel
theorem dX0_hasWay_44 : decode cX0_hasWay 44 = .ok (.dup2, 1) := by decide +kernel
theorem dX0_hasWay_45 : decode cX0_hasWay 45 = .ok (.iaload, 1) := by decide +kernel
theorem dX0_hasWay_46 : decode cX0_hasWay 46 = .ok (.iconst 1, 1) := by decide +kernel
theorem dX0_hasWay_47 : decode cX0_hasWay 47 = .ok (.iadd, 1) := by decide +kernel
theorem dX0_hasWay_48 : decode cX0_hasWay 48 = .ok (.iastore, 1) := by decide +kernel
theorem dX0_hasWay_49 : decode cX0_hasWay 49 = .ok (.aload_n 0, 1) := by decide +kernel
theorem dX0_hasWay_50 : decode cX0_hasWay 50 = .ok (.getfield 35, 3) := by decide +kernel
theorem dX0_hasWay_53 : decode cX0_hasWay 53 = .ok (.iload_n 1, 1) := by decide +kernel
theorem dX0_hasWay_54 : decode cX0_hasWay 54 = .ok (.iaload, 1) := by decide +kernel
theorem dX0_hasWay_55 : decode cX0_hasWay 55 = .ok (.aload_n 0, 1) := by decide +kernel
theorem dX0_hasWay_56 : decode cX0_hasWay 56 = .ok (.getfield 38, 3) := by decide +kernel
theorem dX0_hasWay_59 : decode cX0_hasWay 59 = .ok (.iload_n 1, 1) := by decide +kernel
theorem dX0_hasWay_60 : decode cX0_hasWay 60 = .ok (.iaload, 1) := by decide +kernel
theorem dX0_hasWay_61 : decode cX0_hasWay 61 = .ok (.if_icmp .ge 5, 3) := by decide +kernel
theorem dX0_hasWay_64 : decode cX0_hasWay 64 = .ok (.iconst 1, 1) := by decide +kernel
theorem dX0_hasWay_65 : decode cX0_hasWay 65 = .ok (.ireturn, 1) := by decide +kernel
theorem dX0_hasWay_66 : decode cX0_hasWay 66 = .ok (.aload_n 0, 1) := by decide +kernel
theorem dX0_hasWay_67 : decode cX0_hasWay 67 = .ok (.dup, 1) := by decide +kernel
theorem dX0_hasWay_68 : decode cX0_hasWay 68 = .ok (.getfield 64, 3) := by decide +kernel
theorem dX0_hasWay_71 : decode cX0_hasWay 71 = .ok (.iconst 1, 1) := by decide +kernel
theorem dX0_hasWay_72 : decode cX0_hasWay 72 = .ok (.isub, 1) := by decide +kernel
theorem dX0_hasWay_73 : decode cX0_hasWay 73 = .ok (.putfield 64, 3) := by decide +kernel
theorem dX0_hasWay_76 : decode cX0_hasWay 76 = .ok (.iconst 0, 1) := by decide +kernel
theorem dX0_hasWay_77 : decode cX0_hasWay 77 = .ok (.ireturn, 1) := by decide +kernel
set_option maxRecDepth 20000 in
theorem ggX0_lastIsPair_X8_kindAt : GoodIn wsX0_lastIsPair wsX8_kindAt := goodIn_r _ [9, 10, 11, 12, 13, 8, 14, 15, 16, 17, 18, 19, 20, 21, 22, 23, 24, 25, 46, 47, 48, 49, 50, 51, 52, 53, 54, 55, 56, 57, 58, 59, 60, 61, 62, 63, 64, 65, 66, 67, 68, 69, 70, 71, 72] rfl (by decide +kernel)
set_option maxRecDepth 20000 in
theorem gX0_lastIsPair_X8_kindAt : GoodIn wsX0_lastIsPair (wsV RX0 85 RX8 yX8_kindAt wsX8_kindAt) := goodIn_app (goodIn_of _ (by decide +kernel)) ggX0_lastIsPair_X8_kindAt
theorem dX0_lastIsPair_0 : decode cX0_lastIsPair 0 = .ok (.aload_n 0, 1) := by decide +kernel
theorem dX0_lastIsPair_1 : decode cX0_lastIsPair 1 = .ok (.getfield 64, 3) := by decide +kernel
theorem dX0_lastIsPair_4 : decode cX0_lastIsPair 4 = .ok (.iconst 1, 1) := by decide +kernel
theorem dX0_lastIsPair_5 : decode cX0_lastIsPair 5 = .ok (.isub, 1) := by decide +kernel
theorem dX0_lastIsPair_6 : decode cX0_lastIsPair 6 = .ok (.istore_n 1, 1) := by decide +kernel
theorem dX0_lastIsPair_7 : decode cX0_lastIsPair 7 = .ok (.iload_n 1, 1) := by decide +kernel
theorem dX0_lastIsPair_8 : decode cX0_lastIsPair 8 = .ok (.ifCond .lt 18, 3) := by decide +kernel
theorem dX0_lastIsPair_11 : decode cX0_lastIsPair 11 = .ok (.iload_n 1, 1) := by decide +kernel
theorem dX0_lastIsPair_12 : decode cX0_lastIsPair 12 = .ok (.bipush 64, 2) := by decide +kernel
theorem dX0_lastIsPair_14 : decode cX0_lastIsPair 14 = .ok (.if_icmp .ge 12, 3) := by decide +kernel
theorem dX0_lastIsPair_17 : decode cX0_lastIsPair 17 = .ok (.aload_n 0, 1) := by decide +kernel
theorem dX0_lastIsPair_18 : decode cX0_lastIsPair 18 = .ok (.getfield 29, 3) := by decide +kernel
theorem dX0_lastIsPair_21 : decode cX0_lastIsPair 21 = .ok (.iload_n 1, 1) := by decide +kernel
theorem dX0_lastIsPair_22 : decode cX0_lastIsPair 22 = .ok (.iaload, 1) := by decide +kernel
theorem dX0_lastIsPair_23 : decode cX0_lastIsPair 23 = .ok (.goto 4, 3) := by decide +kernel
theorem dX0_lastIsPair_26 : decode cX0_lastIsPair 26 = .ok (.iconst (-1), 1) := by decide +kernel
theorem dX0_lastIsPair_27 : decode cX0_lastIsPair 27 = .ok (.istore_n 2, 1) := by decide +kernel
theorem dX0_lastIsPair_28 : decode cX0_lastIsPair 28 = .ok (.iload_n 2, 1) := by decide +kernel
theorem dX0_lastIsPair_29 : decode cX0_lastIsPair 29 = .ok (.ifCond .lt 31, 3) := by decide +kernel
theorem dX0_lastIsPair_32 : decode cX0_lastIsPair 32 = .ok (.iload_n 2, 1) := by decide +kernel
theorem dX0_lastIsPair_33 : decode cX0_lastIsPair 33 = .ok (.sipush 256, 3) := by decide +kernel
theorem dX0_lastIsPair_36 : decode cX0_lastIsPair 36 = .ok (.if_icmp .ge 24, 3) := by decide +kernel
theorem dX0_lastIsPair_39 : decode cX0_lastIsPair 39 = .ok (.aload_n 0, 1) := by decide +kernel
theorem dX0_lastIsPair_40 : decode cX0_lastIsPair 40 = .ok (.getfield 53, 3) := by decide +kernel
theorem dX0_lastIsPair_43 : decode cX0_lastIsPair 43 = .ok (.aload_n 0, 1) := by decide +kernel
theorem dX0_lastIsPair_44 : decode cX0_lastIsPair 44 = .ok (.getfield 13, 3) := by decide +kernel
theorem dX0_lastIsPair_47 : decode cX0_lastIsPair 47 = .ok (.iload_n 2, 1) := by decide +kernel
theorem dX0_lastIsPair_48 : decode cX0_lastIsPair 48 = .ok (.iaload, 1) := by decide +kernel
theorem dX0_lastIsPair_49 : decode cX0_lastIsPair 49 = .ok (.invokevirtual 85, 3) := by decide +kernel
theorem dX0_lastIsPair_52 : decode cX0_lastIsPair 52 = .ok (.iconst 1, 1) := by decide +kernel
theorem dX0_lastIsPair_53 : decode cX0_lastIsPair 53 = .ok (.if_icmp .ne 7, 3) := by decide +kernel
theorem dX0_lastIsPair_56 : decode cX0_lastIsPair 56 = .ok (.iconst 1, 1) := by decide +kernel
theorem dX0_lastIsPair_57 : decode cX0_lastIsPair 57 = .ok (.goto 4, 3) := by decide +kernel
theorem dX0_lastIsPair_60 : decode cX0_lastIsPair 60 = .ok (.iconst 0, 1) := by decide +kernel
theorem dX0_lastIsPair_61 : decode cX0_lastIsPair 61 = .ok (.ireturn, 1) := by decide +kernel
set_option maxRecDepth 20000 in
theorem ggX0_meetPair_X8_partOf : GoodIn wsX0_meetPair wsX8_partOf := goodIn_r _ [11, 12, 13, 41, 42, 43, 44, 45, 46, 47, 48, 49, 50, 51, 52, 53, 54, 55, 56, 57, 58, 59] rfl (by decide +kernel)
set_option maxRecDepth 20000 in
theorem gX0_meetPair_X8_partOf : GoodIn wsX0_meetPair (wsV RX0 154 RX8 yX8_partOf wsX8_partOf) := goodIn_app (goodIn_of _ (by decide +kernel)) ggX0_meetPair_X8_partOf
set_option maxRecDepth 20000 in
theorem ggX0_meetPair_X0_addGoal : GoodIn wsX0_meetPair wsX0_addGoal := goodIn_r _ [18, 19, 3, 20, 5, 6, 21, 22, 23, 24, 25, 26, 27, 28, 29, 30, 31, 32, 33, 34, 35, 36, 37, 38, 39, 40] rfl (by decide +kernel)
set_option maxRecDepth 20000 in
theorem gX0_meetPair_X0_addGoal : GoodIn wsX0_meetPair (wsV RX0 80 RX0 yX0_addGoal wsX0_addGoal) := goodIn_app (goodIn_of _ (by decide +kernel)) ggX0_meetPair_X0_addGoal
theorem dX0_meetPair_0 : decode cX0_meetPair 0 = .ok (.iload_n 1, 1) := by decide +kernel
theorem dX0_meetPair_1 : decode cX0_meetPair 1 = .ok (.ifCond .lt 18, 3) := by decide +kernel
theorem dX0_meetPair_4 : decode cX0_meetPair 4 = .ok (.iload_n 1, 1) := by decide +kernel
theorem dX0_meetPair_5 : decode cX0_meetPair 5 = .ok (.bipush 64, 2) := by decide +kernel
theorem dX0_meetPair_7 : decode cX0_meetPair 7 = .ok (.if_icmp .ge 12, 3) := by decide +kernel
theorem dX0_meetPair_10 : decode cX0_meetPair 10 = .ok (.aload_n 0, 1) := by decide +kernel
theorem dX0_meetPair_11 : decode cX0_meetPair 11 = .ok (.getfield 29, 3) := by decide +kernel
theorem dX0_meetPair_14 : decode cX0_meetPair 14 = .ok (.iload_n 1, 1) := by decide +kernel
theorem dX0_meetPair_15 : decode cX0_meetPair 15 = .ok (.iaload, 1) := by decide +kernel
theorem dX0_meetPair_16 : decode cX0_meetPair 16 = .ok (.goto 4, 3) := by decide +kernel
theorem dX0_meetPair_19 : decode cX0_meetPair 19 = .ok (.iconst (-1), 1) := by decide +kernel
theorem dX0_meetPair_20 : decode cX0_meetPair 20 = .ok (.istore_n 2, 1) := by decide +kernel
theorem dX0_meetPair_21 : decode cX0_meetPair 21 = .ok (.iload_n 2, 1) := by decide +kernel
theorem dX0_meetPair_22 : decode cX0_meetPair 22 = .ok (.ifCond .lt 10, 3) := by decide +kernel
theorem dX0_meetPair_25 : decode cX0_meetPair 25 = .ok (.iload_n 2, 1) := by decide +kernel
theorem dX0_meetPair_26 : decode cX0_meetPair 26 = .ok (.sipush 256, 3) := by decide +kernel
theorem dX0_meetPair_29 : decode cX0_meetPair 29 = .ok (.if_icmp .lt 6, 3) := by decide +kernel
theorem dX0_meetPair_32 : decode cX0_meetPair 32 = .ok (.bipush (-2), 2) := by decide +kernel
theorem dX0_meetPair_34 : decode cX0_meetPair 34 = .ok (.ireturn, 1) := by decide +kernel
theorem dX0_meetPair_35 : decode cX0_meetPair 35 = .ok (.aload_n 0, 1) := by decide +kernel
theorem dX0_meetPair_36 : decode cX0_meetPair 36 = .ok (.getfield 35, 3) := by decide +kernel
theorem dX0_meetPair_39 : decode cX0_meetPair 39 = .ok (.iload_n 1, 1) := by decide +kernel
theorem dX0_meetPair_40 : decode cX0_meetPair 40 = .ok (.iaload, 1) := by decide +kernel
theorem dX0_meetPair_41 : decode cX0_meetPair 41 = .ok (.istore_n 3, 1) := by decide +kernel
theorem dX0_meetPair_42 : decode cX0_meetPair 42 = .ok (.aload_n 0, 1) := by decide +kernel
theorem dX0_meetPair_43 : decode cX0_meetPair 43 = .ok (.getfield 13, 3) := by decide +kernel
theorem dX0_meetPair_46 : decode cX0_meetPair 46 = .ok (.iload_n 2, 1) := by decide +kernel
theorem dX0_meetPair_47 : decode cX0_meetPair 47 = .ok (.iaload, 1) := by decide +kernel
theorem dX0_meetPair_48 : decode cX0_meetPair 48 = .ok (.istore 4, 2) := by decide +kernel
theorem dX0_meetPair_50 : decode cX0_meetPair 50 = .ok (.aload_n 0, 1) := by decide +kernel
theorem dX0_meetPair_51 : decode cX0_meetPair 51 = .ok (.getfield 53, 3) := by decide +kernel
theorem dX0_meetPair_54 : decode cX0_meetPair 54 = .ok (.aload_n 0, 1) := by decide +kernel
theorem dX0_meetPair_55 : decode cX0_meetPair 55 = .ok (.getfield 20, 3) := by decide +kernel
theorem dX0_meetPair_58 : decode cX0_meetPair 58 = .ok (.iload_n 2, 1) := by decide +kernel
theorem dX0_meetPair_59 : decode cX0_meetPair 59 = .ok (.iaload, 1) := by decide +kernel
theorem dX0_meetPair_60 : decode cX0_meetPair 60 = .ok (.iload_n 3, 1) := by decide +kernel
theorem dX0_meetPair_61 : decode cX0_meetPair 61 = .ok (.invokevirtual 154, 3) := by decide +kernel
theorem dX0_meetPair_64 : decode cX0_meetPair 64 = .ok (.istore 5, 2) := by decide +kernel
theorem dX0_meetPair_66 : decode cX0_meetPair 66 = .ok (.aload_n 0, 1) := by decide +kernel
theorem dX0_meetPair_67 : decode cX0_meetPair 67 = .ok (.getfield 53, 3) := by decide +kernel
theorem dX0_meetPair_70 : decode cX0_meetPair 70 = .ok (.aload_n 0, 1) := by decide +kernel
theorem dX0_meetPair_71 : decode cX0_meetPair 71 = .ok (.getfield 20, 3) := by decide +kernel
theorem dX0_meetPair_74 : decode cX0_meetPair 74 = .ok (.iload_n 2, 1) := by decide +kernel
theorem dX0_meetPair_75 : decode cX0_meetPair 75 = .ok (.iaload, 1) := by decide +kernel
theorem dX0_meetPair_76 : decode cX0_meetPair 76 = .ok (.iconst 1, 1) := by decide +kernel
theorem dX0_meetPair_77 : decode cX0_meetPair 77 = .ok (.iload_n 3, 1) := by decide +kernel
theorem dX0_meetPair_78 : decode cX0_meetPair 78 = .ok (.isub, 1) := by decide +kernel
theorem dX0_meetPair_79 : decode cX0_meetPair 79 = .ok (.invokevirtual 154, 3) := by decide +kernel
theorem dX0_meetPair_82 : decode cX0_meetPair 82 = .ok (.istore 6, 2) := by decide +kernel
theorem dX0_meetPair_84 : decode cX0_meetPair 84 = .ok (.iload_n 3, 1) := by decide +kernel
theorem dX0_meetPair_85 : decode cX0_meetPair 85 = .ok (.iconst 1, 1) := by decide +kernel
theorem dX0_meetPair_86 : decode cX0_meetPair 86 = .ok (.if_icmp .ne 13, 3) := by decide +kernel
theorem dX0_meetPair_89 : decode cX0_meetPair 89 = .ok (.iload 5, 2) := by decide +kernel
theorem dX0_meetPair_91 : decode cX0_meetPair 91 = .ok (.iload 6, 2) := by decide +kernel
theorem dX0_meetPair_93 : decode cX0_meetPair 93 = .ok (.if_icmp .ne 6, 3) := by decide +kernel
theorem dX0_meetPair_96 : decode cX0_meetPair 96 = .ok (.bipush (-2), 2) := by decide +kernel
theorem dX0_meetPair_98 : decode cX0_meetPair 98 = .ok (.ireturn, 1) := by decide +kernel
theorem dX0_meetPair_99 : decode cX0_meetPair 99 = .ok (.aload_n 0, 1) := by decide +kernel
theorem dX0_meetPair_100 : decode cX0_meetPair 100 = .ok (.aload_n 0, 1) := by decide +kernel
theorem dX0_meetPair_101 : decode cX0_meetPair 101 = .ok (.getfield 53, 3) := by decide +kernel
theorem dX0_meetPair_104 : decode cX0_meetPair 104 = .ok (.iload 4, 2) := by decide +kernel
theorem dX0_meetPair_106 : decode cX0_meetPair 106 = .ok (.iconst 1, 1) := by decide +kernel
theorem dX0_meetPair_107 : decode cX0_meetPair 107 = .ok (.invokevirtual 154, 3) := by decide +kernel
theorem dX0_meetPair_110 : decode cX0_meetPair 110 = .ok (.bipush 63, 2) := by decide +kernel
theorem dX0_meetPair_112 : decode cX0_meetPair 112 = .ok (.iload 6, 2) := by decide +kernel
theorem dX0_meetPair_114 : decode cX0_meetPair 114 = .ok (.aload_n 0, 1) := by decide +kernel
theorem dX0_meetPair_115 : decode cX0_meetPair 115 = .ok (.getfield 23, 3) := by decide +kernel
theorem dX0_meetPair_118 : decode cX0_meetPair 118 = .ok (.iload_n 2, 1) := by decide +kernel
theorem dX0_meetPair_119 : decode cX0_meetPair 119 = .ok (.iaload, 1) := by decide +kernel
theorem dX0_meetPair_120 : decode cX0_meetPair 120 = .ok (.invokevirtual 80, 3) := by decide +kernel
theorem dX0_meetPair_123 : decode cX0_meetPair 123 = .ok (.istore 7, 2) := by decide +kernel
theorem dX0_meetPair_125 : decode cX0_meetPair 125 = .ok (.aload_n 0, 1) := by decide +kernel
theorem dX0_meetPair_126 : decode cX0_meetPair 126 = .ok (.aload_n 0, 1) := by decide +kernel
theorem dX0_meetPair_127 : decode cX0_meetPair 127 = .ok (.getfield 53, 3) := by decide +kernel
theorem dX0_meetPair_130 : decode cX0_meetPair 130 = .ok (.iload 4, 2) := by decide +kernel
theorem dX0_meetPair_132 : decode cX0_meetPair 132 = .ok (.iconst 0, 1) := by decide +kernel
theorem dX0_meetPair_133 : decode cX0_meetPair 133 = .ok (.invokevirtual 154, 3) := by decide +kernel
theorem dX0_meetPair_136 : decode cX0_meetPair 136 = .ok (.bipush 63, 2) := by decide +kernel
theorem dX0_meetPair_138 : decode cX0_meetPair 138 = .ok (.iload 5, 2) := by decide +kernel
theorem dX0_meetPair_140 : decode cX0_meetPair 140 = .ok (.iload 7, 2) := by decide +kernel
theorem dX0_meetPair_142 : decode cX0_meetPair 142 = .ok (.invokevirtual 80, 3) := by decide +kernel
theorem dX0_meetPair_145 : decode cX0_meetPair 145 = .ok (.ireturn, 1) := by decide +kernel
set_option maxRecDepth 20000 in
theorem ggX0_share_X8_codeOf : GoodIn wsX0_share wsX8_codeOf := goodIn_r _ [14, 15, 16, 144, 145, 146, 147, 148, 149, 150, 151, 152, 153, 154, 155, 156, 157, 158, 159, 160, 161, 162] rfl (by decide +kernel)
set_option maxRecDepth 20000 in
theorem gX0_share_X8_codeOf : GoodIn wsX0_share (wsV RX0 125 RX8 yX8_codeOf wsX8_codeOf) := goodIn_app (goodIn_of _ (by decide +kernel)) ggX0_share_X8_codeOf
set_option maxRecDepth 20000 in
theorem ggX0_share_X9_operatorIn : GoodIn wsX0_share wsX9_operatorIn := goodIn_r _ [19] rfl (by decide +kernel)
set_option maxRecDepth 20000 in
theorem gX0_share_X9_operatorIn_n158 : GoodIn wsX0_share (wsX9_operatorIn) := ggX0_share_X9_operatorIn
set_option maxRecDepth 20000 in
theorem ggX0_share_X8_partOf : GoodIn wsX0_share wsX8_partOf := goodIn_r _ [23, 15, 24, 144, 145, 146, 147, 148, 149, 150, 151, 152, 153, 154, 155, 156, 157, 158, 159, 160, 161, 162] rfl (by decide +kernel)
set_option maxRecDepth 20000 in
theorem gX0_share_X8_partOf : GoodIn wsX0_share (wsV RX0 154 RX8 yX8_partOf wsX8_partOf) := goodIn_app (goodIn_of _ (by decide +kernel)) ggX0_share_X8_partOf
set_option maxRecDepth 20000 in
theorem ggX0_share_X8_sortOf : GoodIn wsX0_share wsX8_sortOf := goodIn_r _ [28, 15, 16, 29, 144, 145, 146, 147, 148, 149, 150, 151, 152, 153, 154, 155, 156, 157, 158, 159, 160, 161, 162, 163, 164, 165, 166, 167, 168, 169, 170] rfl (by decide +kernel)
set_option maxRecDepth 20000 in
theorem gX0_share_X8_sortOf : GoodIn wsX0_share (wsV RX0 192 RX8 yX8_sortOf wsX8_sortOf) := goodIn_app (goodIn_of _ (by decide +kernel)) ggX0_share_X8_sortOf
set_option maxRecDepth 20000 in
theorem ggX0_share_X8_isFirstChoice : GoodIn wsX0_share wsX8_isFirstChoice := goodIn_r _ [33, 34, 35, 36, 13, 37, 15, 16, 24, 144, 145, 146, 147, 148, 149, 150, 151, 152, 153, 154, 155, 156, 157, 158, 159, 160, 161, 162] rfl (by decide +kernel)
set_option maxRecDepth 20000 in
theorem gX0_share_X8_isFirstChoice : GoodIn wsX0_share (wsV RX0 195 RX8 yX8_isFirstChoice wsX8_isFirstChoice) := goodIn_app (goodIn_of _ (by decide +kernel)) ggX0_share_X8_isFirstChoice
set_option maxRecDepth 20000 in
theorem ggX0_share_X8_hasUnit : GoodIn wsX0_share wsX8_hasUnit := goodIn_r _ [41, 29, 42, 43, 44, 45, 46, 47, 144, 145, 146, 147, 148, 149, 150, 151, 152, 153, 154, 155, 156, 157, 158, 159, 160, 161, 162, 163, 164, 165, 166, 167, 168, 169, 170] rfl (by decide +kernel)
set_option maxRecDepth 20000 in
theorem gX0_share_X8_hasUnit : GoodIn wsX0_share (wsV RX0 179 RX8 yX8_hasUnit wsX8_hasUnit) := goodIn_app (goodIn_of _ (by decide +kernel)) ggX0_share_X8_hasUnit
set_option maxRecDepth 20000 in
theorem ggX0_share_X8_subSum : GoodIn wsX0_share wsX8_subSum := goodIn_r _ [51, 52, 29, 34, 35, 36, 13, 37, 15, 16, 24, 53, 54, 55, 45, 56, 47, 57, 58, 59, 60, 61, 62, 63, 64, 65, 66, 67, 68, 18, 69, 144, 145, 146, 147, 148, 149, 150, 151, 152, 153, 154, 155, 156, 157, 158, 159, 160, 161, 162, 163, 164, 165, 166, 167, 168, 169, 170] rfl (by decide +kernel)
set_option maxRecDepth 20000 in
theorem gX0_share_X8_subSum : GoodIn wsX0_share (wsV RX0 183 RX8 yX8_subSum wsX8_subSum) := goodIn_app (goodIn_of _ (by decide +kernel)) ggX0_share_X8_subSum
set_option maxRecDepth 20000 in
theorem ggX0_share_X8_partsAsSum : GoodIn wsX0_share wsX8_partsAsSum := goodIn_r _ [73, 29, 74, 11, 12, 13, 14, 15, 16, 17, 18, 19, 75, 76, 53, 54, 55, 45, 56, 47, 144, 145, 146, 147, 148, 149, 150, 151, 152, 153, 154, 155, 156, 157, 158, 159, 160, 161, 162, 163, 164, 165, 166, 167, 168, 169, 170] rfl (by decide +kernel)
set_option maxRecDepth 20000 in
theorem gX0_share_X8_partsAsSum : GoodIn wsX0_share (wsV RX0 161 RX8 yX8_partsAsSum wsX8_partsAsSum) := goodIn_app (goodIn_of _ (by decide +kernel)) ggX0_share_X8_partsAsSum
set_option maxRecDepth 20000 in
theorem ggX0_share_X8_without : GoodIn wsX0_share wsX8_without := goodIn_r _ [80, 81, 71, 72, 13, 73, 29, 74, 11, 12, 14, 15, 16, 17, 18, 19, 75, 76, 53, 54, 55, 45, 56, 47, 34, 35, 36, 37, 24, 144, 145, 146, 147, 148, 149, 150, 151, 152, 153, 154, 155, 156, 157, 158, 159, 160, 161, 162, 163, 164, 165, 166, 167, 168, 169, 170] rfl (by decide +kernel)
set_option maxRecDepth 20000 in
theorem gX0_share_X8_without : GoodIn wsX0_share (wsV RX0 164 RX8 yX8_without wsX8_without) := goodIn_app (goodIn_of _ (by decide +kernel)) ggX0_share_X8_without
set_option maxRecDepth 20000 in
theorem ggX0_share_X0_fits : GoodIn wsX0_share wsX0_fits := goodIn_r _ [86, 4, 87, 88, 89, 90, 91, 92, 93, 13, 94, 15, 66, 95, 96, 97, 98, 67, 124, 125, 126, 127, 128, 129, 130, 131, 132, 133, 134, 135, 136, 137, 138, 139, 140, 141, 142, 143, 144, 145, 146, 147, 148, 149, 150, 151, 152, 153, 154, 155, 156, 157, 158, 159, 160, 161, 162] rfl (by decide +kernel)
set_option maxRecDepth 20000 in
theorem gX0_share_X0_fits : GoodIn wsX0_share (wsV RX0 76 RX0 yX0_fits wsX0_fits) := goodIn_app (goodIn_of _ (by decide +kernel)) ggX0_share_X0_fits
set_option maxRecDepth 20000 in
theorem ggX0_share_X0_bind : GoodIn wsX0_share wsX0_bind := goodIn_r _ [102, 90, 89, 124, 125, 126, 127, 128, 129, 130, 131, 132, 133, 134, 135, 136, 137, 138, 139, 140, 141, 142, 143] rfl (by decide +kernel)
set_option maxRecDepth 20000 in
theorem gX0_share_X0_bind : GoodIn wsX0_share (wsV RX0 140 RX0 yX0_bind wsX0_bind) := goodIn_app (goodIn_of _ (by decide +kernel)) ggX0_share_X0_bind
set_option maxRecDepth 20000 in
theorem ggX0_share_X0_remainder : GoodIn wsX0_share wsX0_remainder := goodIn_r _ [106, 2, 4, 107, 3, 10, 11, 12, 13, 14, 15, 16, 17, 18, 19, 38, 39, 40, 41, 29, 42, 43, 44, 45, 46, 47, 108, 109, 110, 111, 112, 113, 114, 48, 49, 50, 51, 52, 34, 35, 36, 37, 24, 53, 54, 55, 56, 57, 58, 59, 60, 61, 62, 63, 64, 65, 66, 67, 68, 69, 115, 116, 117, 85, 118, 119, 7, 120, 121, 122, 123, 20, 21, 22, 23, 124, 125, 126, 127, 128, 129, 130, 131, 132, 133, 134, 135, 136, 137, 138, 139, 140, 141, 142, 143, 144, 145, 146, 147, 148, 149, 150, 151, 152, 153, 154, 155, 156, 157, 158, 159, 160, 161, 162, 163, 164, 165, 166, 167, 168, 169, 170] rfl (by decide +kernel)
set_option maxRecDepth 20000 in
theorem gX0_share_X0_remainder : GoodIn wsX0_share (wsV RX0 167 RX0 yX0_remainder wsX0_remainder) := goodIn_app (goodIn_of _ (by decide +kernel)) ggX0_share_X0_remainder
set_option maxRecDepth 20000 in
theorem ggX0_share_X0_addGoal : GoodIn wsX0_share wsX0_addGoal := goodIn_r _ [118, 119, 2, 7, 3, 107, 124, 125, 126, 127, 128, 129, 130, 131, 132, 133, 134, 135, 136, 137, 138, 139, 140, 141, 142, 143] rfl (by decide +kernel)
set_option maxRecDepth 20000 in
theorem gX0_share_X0_addGoal : GoodIn wsX0_share (wsV RX0 80 RX0 yX0_addGoal wsX0_addGoal) := goodIn_app (goodIn_of _ (by decide +kernel)) ggX0_share_X0_addGoal
theorem dX0_share_0 : decode cX0_share 0 = .ok (.iload_n 1, 1) := by decide +kernel
theorem dX0_share_1 : decode cX0_share 1 = .ok (.ifCond .lt 18, 3) := by decide +kernel
theorem dX0_share_4 : decode cX0_share 4 = .ok (.iload_n 1, 1) := by decide +kernel
theorem dX0_share_5 : decode cX0_share 5 = .ok (.bipush 64, 2) := by decide +kernel
theorem dX0_share_7 : decode cX0_share 7 = .ok (.if_icmp .ge 12, 3) := by decide +kernel
theorem dX0_share_10 : decode cX0_share 10 = .ok (.aload_n 0, 1) := by decide +kernel
theorem dX0_share_11 : decode cX0_share 11 = .ok (.getfield 29, 3) := by decide +kernel
theorem dX0_share_14 : decode cX0_share 14 = .ok (.iload_n 1, 1) := by decide +kernel
theorem dX0_share_15 : decode cX0_share 15 = .ok (.iaload, 1) := by decide +kernel
theorem dX0_share_16 : decode cX0_share 16 = .ok (.goto 4, 3) := by decide +kernel
theorem dX0_share_19 : decode cX0_share 19 = .ok (.iconst (-1), 1) := by decide +kernel
theorem dX0_share_20 : decode cX0_share 20 = .ok (.istore_n 2, 1) := by decide +kernel
theorem dX0_share_21 : decode cX0_share 21 = .ok (.iload_n 2, 1) := by decide +kernel
theorem dX0_share_22 : decode cX0_share 22 = .ok (.ifCond .lt 10, 3) := by decide +kernel
theorem dX0_share_25 : decode cX0_share 25 = .ok (.iload_n 2, 1) := by decide +kernel
theorem dX0_share_26 : decode cX0_share 26 = .ok (.sipush 256, 3) := by decide +kernel
theorem dX0_share_29 : decode cX0_share 29 = .ok (.if_icmp .lt 6, 3) := by decide +kernel
theorem dX0_share_32 : decode cX0_share 32 = .ok (.bipush (-2), 2) := by decide +kernel
theorem dX0_share_34 : decode cX0_share 34 = .ok (.ireturn, 1) := by decide +kernel
theorem dX0_share_35 : decode cX0_share 35 = .ok (.aload_n 0, 1) := by decide +kernel
theorem dX0_share_36 : decode cX0_share 36 = .ok (.getfield 13, 3) := by decide +kernel
theorem dX0_share_39 : decode cX0_share 39 = .ok (.iload_n 2, 1) := by decide +kernel
theorem dX0_share_40 : decode cX0_share 40 = .ok (.iaload, 1) := by decide +kernel
theorem dX0_share_41 : decode cX0_share 41 = .ok (.istore_n 3, 1) := by decide +kernel
theorem dX0_share_42 : decode cX0_share 42 = .ok (.aload_n 0, 1) := by decide +kernel
theorem dX0_share_43 : decode cX0_share 43 = .ok (.getfield 20, 3) := by decide +kernel
theorem dX0_share_46 : decode cX0_share 46 = .ok (.iload_n 2, 1) := by decide +kernel
theorem dX0_share_47 : decode cX0_share 47 = .ok (.iaload, 1) := by decide +kernel
theorem dX0_share_48 : decode cX0_share 48 = .ok (.istore 4, 2) := by decide +kernel
theorem dX0_share_50 : decode cX0_share 50 = .ok (.aload_n 0, 1) := by decide +kernel
theorem dX0_share_51 : decode cX0_share 51 = .ok (.getfield 53, 3) := by decide +kernel
theorem dX0_share_54 : decode cX0_share 54 = .ok (.iload_n 3, 1) := by decide +kernel
theorem dX0_share_55 : decode cX0_share 55 = .ok (.invokevirtual 125, 3) := by decide +kernel
theorem dX0_share_58 : decode cX0_share 58 = .ok (.invokestatic 158, 3) := by decide +kernel
theorem dX0_share_61 : decode cX0_share 61 = .ok (.istore 5, 2) := by decide +kernel
theorem dX0_share_63 : decode cX0_share 63 = .ok (.aload_n 0, 1) := by decide +kernel
theorem dX0_share_64 : decode cX0_share 64 = .ok (.getfield 53, 3) := by decide +kernel
theorem dX0_share_67 : decode cX0_share 67 = .ok (.iload_n 3, 1) := by decide +kernel
theorem dX0_share_68 : decode cX0_share 68 = .ok (.aload_n 0, 1) := by decide +kernel
theorem dX0_share_69 : decode cX0_share 69 = .ok (.getfield 32, 3) := by decide +kernel
theorem dX0_share_72 : decode cX0_share 72 = .ok (.iload_n 1, 1) := by decide +kernel
theorem dX0_share_73 : decode cX0_share 73 = .ok (.iaload, 1) := by decide +kernel
theorem dX0_share_74 : decode cX0_share 74 = .ok (.invokevirtual 154, 3) := by decide +kernel
theorem dX0_share_77 : decode cX0_share 77 = .ok (.istore 6, 2) := by decide +kernel
theorem dX0_share_79 : decode cX0_share 79 = .ok (.aload_n 0, 1) := by decide +kernel
theorem dX0_share_80 : decode cX0_share 80 = .ok (.getfield 53, 3) := by decide +kernel
theorem dX0_share_83 : decode cX0_share 83 = .ok (.iload 6, 2) := by decide +kernel
theorem dX0_share_85 : decode cX0_share 85 = .ok (.invokevirtual 192, 3) := by decide +kernel
theorem dX0_share_88 : decode cX0_share 88 = .ok (.istore 7, 2) := by decide +kernel
theorem dX0_share_90 : decode cX0_share 90 = .ok (.aload_n 0, 1) := by decide +kernel
theorem dX0_share_91 : decode cX0_share 91 = .ok (.getfield 35, 3) := by decide +kernel
theorem dX0_share_94 : decode cX0_share 94 = .ok (.iload_n 1, 1) := by decide +kernel
theorem dX0_share_95 : decode cX0_share 95 = .ok (.iaload, 1) := by decide +kernel
theorem dX0_share_96 : decode cX0_share 96 = .ok (.istore 8, 2) := by decide +kernel
theorem dX0_share_98 : decode cX0_share 98 = .ok (.iload 7, 2) := by decide +kernel
theorem dX0_share_100 : decode cX0_share 100 = .ok (.iconst 2, 1) := by decide +kernel
theorem dX0_share_101 : decode cX0_share 101 = .ok (.if_icmp .ne 10, 3) := by decide +kernel
theorem dX0_share_104 : decode cX0_share 104 = .ok (.iconst 1, 1) := by decide +kernel
theorem dX0_share_105 : decode cX0_share 105 = .ok (.iload 8, 2) := by decide +kernel
theorem dX0_share_107 : decode cX0_share 107 = .ok (.ishl, 1) := by decide +kernel
theorem dX0_share_108 : decode cX0_share 108 = .ok (.goto 5, 3) := by decide +kernel
theorem dX0_share_111 : decode cX0_share 111 = .ok (.iload 8, 2) := by decide +kernel
theorem dX0_share_113 : decode cX0_share 113 = .ok (.istore 9, 2) := by decide +kernel
theorem dX0_share_115 : decode cX0_share 115 = .ok (.aload_n 0, 1) := by decide +kernel
theorem dX0_share_116 : decode cX0_share 116 = .ok (.getfield 53, 3) := by decide +kernel
theorem dX0_share_119 : decode cX0_share 119 = .ok (.iload 4, 2) := by decide +kernel
theorem dX0_share_121 : decode cX0_share 121 = .ok (.iload 5, 2) := by decide +kernel
theorem dX0_share_123 : decode cX0_share 123 = .ok (.iload 9, 2) := by decide +kernel
theorem dX0_share_125 : decode cX0_share 125 = .ok (.invokevirtual 195, 3) := by decide +kernel
theorem dX0_share_128 : decode cX0_share 128 = .ok (.ifCond .eq 20, 3) := by decide +kernel
theorem dX0_share_131 : decode cX0_share 131 = .ok (.iload 9, 2) := by decide +kernel
theorem dX0_share_133 : decode cX0_share 133 = .ok (.ifCond .ne 18, 3) := by decide +kernel
theorem dX0_share_136 : decode cX0_share 136 = .ok (.aload_n 0, 1) := by decide +kernel
theorem dX0_share_137 : decode cX0_share 137 = .ok (.getfield 53, 3) := by decide +kernel
theorem dX0_share_140 : decode cX0_share 140 = .ok (.iload 5, 2) := by decide +kernel
theorem dX0_share_142 : decode cX0_share 142 = .ok (.invokevirtual 179, 3) := by decide +kernel
theorem dX0_share_145 : decode cX0_share 145 = .ok (.ifCond .ne 6, 3) := by decide +kernel
theorem dX0_share_148 : decode cX0_share 148 = .ok (.bipush (-2), 2) := by decide +kernel
theorem dX0_share_150 : decode cX0_share 150 = .ok (.ireturn, 1) := by decide +kernel
theorem dX0_share_151 : decode cX0_share 151 = .ok (.aload_n 0, 1) := by decide +kernel
theorem dX0_share_152 : decode cX0_share 152 = .ok (.getfield 53, 3) := by decide +kernel
theorem dX0_share_155 : decode cX0_share 155 = .ok (.iload 6, 2) := by decide +kernel
theorem dX0_share_157 : decode cX0_share 157 = .ok (.invokevirtual 125, 3) := by decide +kernel
theorem dX0_share_160 : decode cX0_share 160 = .ok (.istore 10, 2) := by decide +kernel
theorem dX0_share_162 : decode cX0_share 162 = .ok (.aload_n 0, 1) := by decide +kernel
theorem dX0_share_163 : decode cX0_share 163 = .ok (.getfield 53, 3) := by decide +kernel
theorem dX0_share_166 : decode cX0_share 166 = .ok (.iload 4, 2) := by decide +kernel
theorem dX0_share_168 : decode cX0_share 168 = .ok (.iload 5, 2) := by decide +kernel
theorem dX0_share_170 : decode cX0_share 170 = .ok (.iload 9, 2) := by decide +kernel
theorem dX0_share_172 : decode cX0_share 172 = .ok (.invokevirtual 183, 3) := by decide +kernel
theorem dX0_share_175 : decode cX0_share 175 = .ok (.istore 11, 2) := by decide +kernel
theorem dX0_share_177 : decode cX0_share 177 = .ok (.iload 7, 2) := by decide +kernel
theorem dX0_share_179 : decode cX0_share 179 = .ok (.iconst 2, 1) := by decide +kernel
theorem dX0_share_180 : decode cX0_share 180 = .ok (.if_icmp .ne 26, 3) := by decide +kernel
theorem dX0_share_183 : decode cX0_share 183 = .ok (.aload_n 0, 1) := by decide +kernel
theorem dX0_share_184 : decode cX0_share 184 = .ok (.getfield 53, 3) := by decide +kernel
theorem dX0_share_187 : decode cX0_share 187 = .ok (.iload 11, 2) := by decide +kernel
theorem dX0_share_189 : decode cX0_share 189 = .ok (.invokevirtual 125, 3) := by decide +kernel
theorem dX0_share_192 : decode cX0_share 192 = .ok (.invokestatic 158, 3) := by decide +kernel
theorem dX0_share_195 : decode cX0_share 195 = .ok (.iload 10, 2) := by decide +kernel
theorem dX0_share_197 : decode cX0_share 197 = .ok (.invokestatic 158, 3) := by decide +kernel
theorem dX0_share_200 : decode cX0_share 200 = .ok (.if_icmp .eq 6, 3) := by decide +kernel
theorem dX0_share_203 : decode cX0_share 203 = .ok (.bipush (-2), 2) := by decide +kernel
theorem dX0_share_205 : decode cX0_share 205 = .ok (.ireturn, 1) := by decide +kernel
theorem dX0_share_206 : decode cX0_share 206 = .ok (.aload_n 0, 1) := by decide +kernel
theorem dX0_share_207 : decode cX0_share 207 = .ok (.getfield 17, 3) := by decide +kernel
theorem dX0_share_210 : decode cX0_share 210 = .ok (.iload_n 2, 1) := by decide +kernel
theorem dX0_share_211 : decode cX0_share 211 = .ok (.iaload, 1) := by decide +kernel
theorem dX0_share_212 : decode cX0_share 212 = .ok (.istore 12, 2) := by decide +kernel
theorem dX0_share_214 : decode cX0_share 214 = .ok (.iconst 1, 1) := by decide +kernel
theorem dX0_share_215 : decode cX0_share 215 = .ok (.aload_n 0, 1) := by decide +kernel
theorem dX0_share_216 : decode cX0_share 216 = .ok (.getfield 53, 3) := by decide +kernel
theorem dX0_share_219 : decode cX0_share 219 = .ok (.iload 4, 2) := by decide +kernel
theorem dX0_share_221 : decode cX0_share 221 = .ok (.iload 5, 2) := by decide +kernel
theorem dX0_share_223 : decode cX0_share 223 = .ok (.invokevirtual 161, 3) := by decide +kernel
theorem dX0_share_226 : decode cX0_share 226 = .ok (.ishl, 1) := by decide +kernel
theorem dX0_share_227 : decode cX0_share 227 = .ok (.iconst 1, 1) := by decide +kernel
theorem dX0_share_228 : decode cX0_share 228 = .ok (.isub, 1) := by decide +kernel
theorem dX0_share_229 : decode cX0_share 229 = .ok (.istore 13, 2) := by decide +kernel
theorem dX0_share_231 : decode cX0_share 231 = .ok (.iconst 0, 1) := by decide +kernel
theorem dX0_share_232 : decode cX0_share 232 = .ok (.istore 14, 2) := by decide +kernel
theorem dX0_share_234 : decode cX0_share 234 = .ok (.iload 14, 2) := by decide +kernel
theorem dX0_share_236 : decode cX0_share 236 = .ok (.bipush 6, 2) := by decide +kernel
theorem dX0_share_238 : decode cX0_share 238 = .ok (.if_icmp .ge 95, 3) := by decide +kernel
theorem dX0_share_241 : decode cX0_share 241 = .ok (.iload 13, 2) := by decide +kernel
theorem dX0_share_243 : decode cX0_share 243 = .ok (.ifCond .lt 90, 3) := by decide +kernel
theorem dX0_share_246 : decode cX0_share 246 = .ok (.iload 14, 2) := by decide +kernel
theorem dX0_share_248 : decode cX0_share 248 = .ok (.aload_n 0, 1) := by decide +kernel
theorem dX0_share_249 : decode cX0_share 249 = .ok (.getfield 32, 3) := by decide +kernel
theorem dX0_share_252 : decode cX0_share 252 = .ok (.iload_n 1, 1) := by decide +kernel
theorem dX0_share_253 : decode cX0_share 253 = .ok (.iaload, 1) := by decide +kernel
theorem dX0_share_254 : decode cX0_share 254 = .ok (.if_icmp .eq 23, 3) := by decide +kernel
theorem dX0_share_257 : decode cX0_share 257 = .ok (.iload 7, 2) := by decide +kernel
theorem dX0_share_259 : decode cX0_share 259 = .ok (.ifCond .ne 22, 3) := by decide +kernel
theorem dX0_share_262 : decode cX0_share 262 = .ok (.aload_n 0, 1) := by decide +kernel
theorem dX0_share_263 : decode cX0_share 263 = .ok (.getfield 53, 3) := by decide +kernel
theorem dX0_share_266 : decode cX0_share 266 = .ok (.iload_n 3, 1) := by decide +kernel
theorem dX0_share_267 : decode cX0_share 267 = .ok (.iload 14, 2) := by decide +kernel
theorem dX0_share_269 : decode cX0_share 269 = .ok (.invokevirtual 154, 3) := by decide +kernel
theorem dX0_share_272 : decode cX0_share 272 = .ok (.iload 6, 2) := by decide +kernel
theorem dX0_share_274 : decode cX0_share 274 = .ok (.if_icmp .ne 7, 3) := by decide +kernel
theorem dX0_share_277 : decode cX0_share 277 = .ok (.iconst 1, 1) := by decide +kernel
theorem dX0_share_278 : decode cX0_share 278 = .ok (.goto 4, 3) := by decide +kernel
theorem dX0_share_281 : decode cX0_share 281 = .ok (.iconst 0, 1) := by decide +kernel
theorem dX0_share_282 : decode cX0_share 282 = .ok (.istore 15, 2) := by decide +kernel
theorem dX0_share_284 : decode cX0_share 284 = .ok (.iload 12, 2) := by decide +kernel
theorem dX0_share_286 : decode cX0_share 286 = .ok (.iload 14, 2) := by decide +kernel
theorem dX0_share_288 : decode cX0_share 288 = .ok (.ishr, 1) := by decide +kernel
theorem dX0_share_289 : decode cX0_share 289 = .ok (.iconst 1, 1) := by decide +kernel
theorem dX0_share_290 : decode cX0_share 290 = .ok (.iand, 1) := by decide +kernel
theorem dX0_share_291 : decode cX0_share 291 = .ok (.ifCond .eq 36, 3) := by decide +kernel
theorem dX0_share_294 : decode cX0_share 294 = .ok (.iload 15, 2) := by decide +kernel
theorem dX0_share_296 : decode cX0_share 296 = .ok (.ifCond .eq 31, 3) := by decide +kernel
theorem dX0_share_299 : decode cX0_share 299 = .ok (.iload 12, 2) := by decide +kernel
theorem dX0_share_301 : decode cX0_share 301 = .ok (.iconst 1, 1) := by decide +kernel
theorem dX0_share_302 : decode cX0_share 302 = .ok (.iload 14, 2) := by decide +kernel
theorem dX0_share_304 : decode cX0_share 304 = .ok (.ishl, 1) := by decide +kernel
theorem dX0_share_305 : decode cX0_share 305 = .ok (.iconst (-1), 1) := by decide +kernel
theorem dX0_share_306 : decode cX0_share 306 = .ok (.ixor, 1) := by decide +kernel
theorem dX0_share_307 : decode cX0_share 307 = .ok (.iand, 1) := by decide +kernel
theorem dX0_share_308 : decode cX0_share 308 = .ok (.istore 12, 2) := by decide +kernel
theorem dX0_share_310 : decode cX0_share 310 = .ok (.aload_n 0, 1) := by decide +kernel
theorem dX0_share_311 : decode cX0_share 311 = .ok (.getfield 53, 3) := by decide +kernel
theorem dX0_share_314 : decode cX0_share 314 = .ok (.iload 4, 2) := by decide +kernel
theorem dX0_share_316 : decode cX0_share 316 = .ok (.iload 5, 2) := by decide +kernel
theorem dX0_share_318 : decode cX0_share 318 = .ok (.iload 13, 2) := by decide +kernel
theorem dX0_share_320 : decode cX0_share 320 = .ok (.iload 11, 2) := by decide +kernel
theorem dX0_share_322 : decode cX0_share 322 = .ok (.invokevirtual 164, 3) := by decide +kernel
theorem dX0_share_325 : decode cX0_share 325 = .ok (.istore 13, 2) := by decide +kernel
theorem dX0_share_327 : decode cX0_share 327 = .ok (.iinc 14 1, 3) := by decide +kernel
theorem dX0_share_330 : decode cX0_share 330 = .ok (.goto (-96), 3) := by decide +kernel
theorem dX0_share_333 : decode cX0_share 333 = .ok (.iload 13, 2) := by decide +kernel
theorem dX0_share_335 : decode cX0_share 335 = .ok (.ifCond .lt 19, 3) := by decide +kernel
theorem dX0_share_338 : decode cX0_share 338 = .ok (.iload 7, 2) := by decide +kernel
theorem dX0_share_340 : decode cX0_share 340 = .ok (.ifCond .eq 17, 3) := by decide +kernel
theorem dX0_share_343 : decode cX0_share 343 = .ok (.aload_n 0, 1) := by decide +kernel
theorem dX0_share_344 : decode cX0_share 344 = .ok (.iload 6, 2) := by decide +kernel
theorem dX0_share_346 : decode cX0_share 346 = .ok (.iload 11, 2) := by decide +kernel
theorem dX0_share_348 : decode cX0_share 348 = .ok (.invokevirtual 76, 3) := by decide +kernel
theorem dX0_share_351 : decode cX0_share 351 = .ok (.ifCond .ne 6, 3) := by decide +kernel
theorem dX0_share_354 : decode cX0_share 354 = .ok (.bipush (-2), 2) := by decide +kernel
theorem dX0_share_356 : decode cX0_share 356 = .ok (.ireturn, 1) := by decide +kernel
theorem dX0_share_357 : decode cX0_share 357 = .ok (.iload 7, 2) := by decide +kernel
theorem dX0_share_359 : decode cX0_share 359 = .ok (.ifCond .ne 41, 3) := by decide +kernel
theorem dX0_share_362 : decode cX0_share 362 = .ok (.aload_n 0, 1) := by decide +kernel
theorem dX0_share_363 : decode cX0_share 363 = .ok (.iload 10, 2) := by decide +kernel
theorem dX0_share_365 : decode cX0_share 365 = .ok (.iload 11, 2) := by decide +kernel
theorem dX0_share_367 : decode cX0_share 367 = .ok (.invokevirtual 140, 3) := by decide +kernel
theorem dX0_share_370 : decode cX0_share 370 = .ok (.aload_n 0, 1) := by decide +kernel
theorem dX0_share_371 : decode cX0_share 371 = .ok (.aload_n 0, 1) := by decide +kernel
theorem dX0_share_372 : decode cX0_share 372 = .ok (.getfield 70, 3) := by decide +kernel
theorem dX0_share_375 : decode cX0_share 375 = .ok (.aload_n 0, 1) := by decide +kernel
theorem dX0_share_376 : decode cX0_share 376 = .ok (.getfield 73, 3) := by decide +kernel
theorem dX0_share_379 : decode cX0_share 379 = .ok (.invokevirtual 76, 3) := by decide +kernel
theorem dX0_share_382 : decode cX0_share 382 = .ok (.ifCond .eq 15, 3) := by decide +kernel
theorem dX0_share_385 : decode cX0_share 385 = .ok (.aload_n 0, 1) := by decide +kernel
theorem dX0_share_386 : decode cX0_share 386 = .ok (.iload_n 2, 1) := by decide +kernel
theorem dX0_share_387 : decode cX0_share 387 = .ok (.iload 12, 2) := by decide +kernel
theorem dX0_share_389 : decode cX0_share 389 = .ok (.iload 13, 2) := by decide +kernel
theorem dX0_share_391 : decode cX0_share 391 = .ok (.invokevirtual 167, 3) := by decide +kernel
theorem dX0_share_394 : decode cX0_share 394 = .ok (.goto 5, 3) := by decide +kernel
theorem dX0_share_397 : decode cX0_share 397 = .ok (.bipush (-2), 2) := by decide +kernel
theorem dX0_share_399 : decode cX0_share 399 = .ok (.ireturn, 1) := by decide +kernel
theorem dX0_share_400 : decode cX0_share 400 = .ok (.aload_n 0, 1) := by decide +kernel
theorem dX0_share_401 : decode cX0_share 401 = .ok (.iload_n 2, 1) := by decide +kernel
theorem dX0_share_402 : decode cX0_share 402 = .ok (.iload 12, 2) := by decide +kernel
theorem dX0_share_404 : decode cX0_share 404 = .ok (.iload 13, 2) := by decide +kernel
theorem dX0_share_406 : decode cX0_share 406 = .ok (.invokevirtual 167, 3) := by decide +kernel
theorem dX0_share_409 : decode cX0_share 409 = .ok (.istore 14, 2) := by decide +kernel
theorem dX0_share_411 : decode cX0_share 411 = .ok (.iload 14, 2) := by decide +kernel
theorem dX0_share_413 : decode cX0_share 413 = .ok (.bipush (-2), 2) := by decide +kernel
theorem dX0_share_415 : decode cX0_share 415 = .ok (.if_icmp .ne 8, 3) := by decide +kernel
theorem dX0_share_418 : decode cX0_share 418 = .ok (.bipush (-2), 2) := by decide +kernel
theorem dX0_share_420 : decode cX0_share 420 = .ok (.goto 15, 3) := by decide +kernel
theorem dX0_share_423 : decode cX0_share 423 = .ok (.aload_n 0, 1) := by decide +kernel
theorem dX0_share_424 : decode cX0_share 424 = .ok (.iload 6, 2) := by decide +kernel
theorem dX0_share_426 : decode cX0_share 426 = .ok (.bipush 63, 2) := by decide +kernel
theorem dX0_share_428 : decode cX0_share 428 = .ok (.iload 11, 2) := by decide +kernel
theorem dX0_share_430 : decode cX0_share 430 = .ok (.iload 14, 2) := by decide +kernel
theorem dX0_share_432 : decode cX0_share 432 = .ok (.invokevirtual 80, 3) := by decide +kernel
theorem dX0_share_435 : decode cX0_share 435 = .ok (.ireturn, 1) := by decide +kernel
set_option maxRecDepth 20000 in
theorem ggX0_record_X0_compareFound : GoodIn wsX0_record wsX0_compareFound := goodIn_r _ [14, 2, 15, 16, 17, 18, 19, 20, 21, 22, 23, 24, 25, 26, 27, 28, 29, 30, 31, 32, 33, 34, 35, 36, 37, 38, 39, 40, 41, 42, 43, 44, 45, 46, 47, 48, 49, 50, 51, 52, 53, 54, 55, 56, 57, 58, 59, 60, 61, 62, 63, 64, 65] rfl (by decide +kernel)
set_option maxRecDepth 20000 in
theorem gX0_record_X0_compareFound : GoodIn wsX0_record (wsV RX0 199 RX0 yX0_compareFound wsX0_compareFound) := goodIn_app (goodIn_of _ (by decide +kernel)) ggX0_record_X0_compareFound
theorem dX0_record_0 : decode cX0_record 0 = .ok (.aload_n 0, 1) := by decide +kernel
theorem dX0_record_1 : decode cX0_record 1 = .ok (.getfield 57, 3) := by decide +kernel
theorem dX0_record_4 : decode cX0_record 4 = .ok (.istore_n 1, 1) := by decide +kernel
theorem dX0_record_5 : decode cX0_record 5 = .ok (.iload_n 1, 1) := by decide +kernel
theorem dX0_record_6 : decode cX0_record 6 = .ok (.ifCond .lt 10, 3) := by decide +kernel
theorem dX0_record_9 : decode cX0_record 9 = .ok (.iload_n 1, 1) := by decide +kernel
theorem dX0_record_10 : decode cX0_record 10 = .ok (.sipush 300, 3) := by decide +kernel
theorem dX0_record_13 : decode cX0_record 13 = .ok (.if_icmp .le 4, 3) := by decide +kernel
theorem dX0_record_16 : decode cX0_record 16 = .ok (.return_, 1) := by decide +kernel
theorem dX0_record_17 : decode cX0_record 17 = .ok (.iconst 0, 1) := by decide +kernel
theorem dX0_record_18 : decode cX0_record 18 = .ok (.istore_n 2, 1) := by decide +kernel
theorem dX0_record_19 : decode cX0_record 19 = .ok (.iload_n 2, 1) := by decide +kernel
theorem dX0_record_20 : decode cX0_record 20 = .ok (.iconst 5, 1) := by decide +kernel
theorem dX0_record_21 : decode cX0_record 21 = .ok (.if_icmp .ge 40, 3) := by decide +kernel
theorem dX0_record_24 : decode cX0_record 24 = .ok (.aload_n 0, 1) := by decide +kernel
theorem dX0_record_25 : decode cX0_record 25 = .ok (.getfield 47, 3) := by decide +kernel
theorem dX0_record_28 : decode cX0_record 28 = .ok (.iload_n 1, 1) := by decide +kernel
theorem dX0_record_29 : decode cX0_record 29 = .ok (.iconst 5, 1) := by decide +kernel
theorem dX0_record_30 : decode cX0_record 30 = .ok (.imul, 1) := by decide +kernel
theorem dX0_record_31 : decode cX0_record 31 = .ok (.iload_n 2, 1) := by decide +kernel
theorem dX0_record_32 : decode cX0_record 32 = .ok (.iadd, 1) := by decide +kernel
theorem dX0_record_33 : decode cX0_record 33 = .ok (.aload_n 0, 1) := by decide +kernel
theorem dX0_record_34 : decode cX0_record 34 = .ok (.getfield 67, 3) := by decide +kernel
theorem dX0_record_37 : decode cX0_record 37 = .ok (.iload_n 2, 1) := by decide +kernel
theorem dX0_record_38 : decode cX0_record 38 = .ok (.ishr, 1) := by decide +kernel
theorem dX0_record_39 : decode cX0_record 39 = .ok (.iconst 1, 1) := by decide +kernel
theorem dX0_record_40 : decode cX0_record 40 = .ok (.iand, 1) := by decide +kernel
theorem dX0_record_41 : decode cX0_record 41 = .ok (.ifCond .eq 12, 3) := by decide +kernel
theorem dX0_record_44 : decode cX0_record 44 = .ok (.aload_n 0, 1) := by decide +kernel
theorem dX0_record_45 : decode cX0_record 45 = .ok (.getfield 26, 3) := by decide +kernel
theorem dX0_record_48 : decode cX0_record 48 = .ok (.iload_n 2, 1) := by decide +kernel
theorem dX0_record_49 : decode cX0_record 49 = .ok (.iaload, 1) := by decide +kernel
theorem dX0_record_50 : decode cX0_record 50 = .ok (.goto 4, 3) := by decide +kernel
theorem dX0_record_53 : decode cX0_record 53 = .ok (.iconst (-1), 1) := by decide +kernel
theorem dX0_record_54 : decode cX0_record 54 = .ok (.iastore, 1) := by decide +kernel
theorem dX0_record_55 : decode cX0_record 55 = .ok (.iinc 2 1, 3) := by decide +kernel
theorem dX0_record_58 : decode cX0_record 58 = .ok (.goto (-39), 3) := by decide +kernel
theorem dX0_record_61 : decode cX0_record 61 = .ok (.iconst 0, 1) := by decide +kernel
theorem dX0_record_62 : decode cX0_record 62 = .ok (.istore_n 2, 1) := by decide +kernel
theorem dX0_record_63 : decode cX0_record 63 = .ok (.aload_n 0, 1) := by decide +kernel
theorem dX0_record_64 : decode cX0_record 64 = .ok (.getfield 57, 3) := by decide +kernel
theorem dX0_record_67 : decode cX0_record 67 = .ok (.istore_n 3, 1) := by decide +kernel
theorem dX0_record_68 : decode cX0_record 68 = .ok (.iload_n 2, 1) := by decide +kernel
theorem dX0_record_69 : decode cX0_record 69 = .ok (.iload_n 3, 1) := by decide +kernel
theorem dX0_record_70 : decode cX0_record 70 = .ok (.if_icmp .ge 49, 3) := by decide +kernel
theorem dX0_record_73 : decode cX0_record 73 = .ok (.iload_n 2, 1) := by decide +kernel
theorem dX0_record_74 : decode cX0_record 74 = .ok (.iload_n 3, 1) := by decide +kernel
theorem dX0_record_75 : decode cX0_record 75 = .ok (.iadd, 1) := by decide +kernel
theorem dX0_record_76 : decode cX0_record 76 = .ok (.iconst 1, 1) := by decide +kernel
theorem dX0_record_77 : decode cX0_record 77 = .ok (.iushr, 1) := by decide +kernel
theorem dX0_record_78 : decode cX0_record 78 = .ok (.istore 4, 2) := by decide +kernel
theorem dX0_record_80 : decode cX0_record 80 = .ok (.aload_n 0, 1) := by decide +kernel
theorem dX0_record_81 : decode cX0_record 81 = .ok (.iload_n 1, 1) := by decide +kernel
theorem dX0_record_82 : decode cX0_record 82 = .ok (.aload_n 0, 1) := by decide +kernel
theorem dX0_record_83 : decode cX0_record 83 = .ok (.getfield 50, 3) := by decide +kernel
theorem dX0_record_86 : decode cX0_record 86 = .ok (.iload 4, 2) := by decide +kernel
theorem dX0_record_88 : decode cX0_record 88 = .ok (.iaload, 1) := by decide +kernel
theorem dX0_record_89 : decode cX0_record 89 = .ok (.invokevirtual 199, 3) := by decide +kernel
theorem dX0_record_92 : decode cX0_record 92 = .ok (.istore 5, 2) := by decide +kernel
theorem dX0_record_94 : decode cX0_record 94 = .ok (.iload 5, 2) := by decide +kernel
theorem dX0_record_96 : decode cX0_record 96 = .ok (.ifCond .ne 4, 3) := by decide +kernel
theorem dX0_record_99 : decode cX0_record 99 = .ok (.return_, 1) := by decide +kernel
theorem dX0_record_100 : decode cX0_record 100 = .ok (.iload 5, 2) := by decide +kernel
theorem dX0_record_102 : decode cX0_record 102 = .ok (.ifCond .ge 9, 3) := by decide +kernel
theorem dX0_record_105 : decode cX0_record 105 = .ok (.iload 4, 2) := by decide +kernel
theorem dX0_record_107 : decode cX0_record 107 = .ok (.istore_n 3, 1) := by decide +kernel
theorem dX0_record_108 : decode cX0_record 108 = .ok (.goto 8, 3) := by decide +kernel
theorem dX0_record_111 : decode cX0_record 111 = .ok (.iload 4, 2) := by decide +kernel
theorem dX0_record_113 : decode cX0_record 113 = .ok (.iconst 1, 1) := by decide +kernel
theorem dX0_record_114 : decode cX0_record 114 = .ok (.iadd, 1) := by decide +kernel
theorem dX0_record_115 : decode cX0_record 115 = .ok (.istore_n 2, 1) := by decide +kernel
theorem dX0_record_116 : decode cX0_record 116 = .ok (.goto (-48), 3) := by decide +kernel
theorem dX0_record_119 : decode cX0_record 119 = .ok (.aload_n 0, 1) := by decide +kernel
theorem dX0_record_120 : decode cX0_record 120 = .ok (.getfield 57, 3) := by decide +kernel
theorem dX0_record_123 : decode cX0_record 123 = .ok (.sipush 300, 3) := by decide +kernel
theorem dX0_record_126 : decode cX0_record 126 = .ok (.if_icmp .lt 11, 3) := by decide +kernel
theorem dX0_record_129 : decode cX0_record 129 = .ok (.aload_n 0, 1) := by decide +kernel
theorem dX0_record_130 : decode cX0_record 130 = .ok (.sipush 301, 3) := by decide +kernel
theorem dX0_record_133 : decode cX0_record 133 = .ok (.putfield 57, 3) := by decide +kernel
theorem dX0_record_136 : decode cX0_record 136 = .ok (.return_, 1) := by decide +kernel
theorem dX0_record_137 : decode cX0_record 137 = .ok (.aload_n 0, 1) := by decide +kernel
theorem dX0_record_138 : decode cX0_record 138 = .ok (.getfield 50, 3) := by decide +kernel
theorem dX0_record_141 : decode cX0_record 141 = .ok (.iload_n 2, 1) := by decide +kernel
theorem dX0_record_142 : decode cX0_record 142 = .ok (.aload_n 0, 1) := by decide +kernel
theorem dX0_record_143 : decode cX0_record 143 = .ok (.getfield 50, 3) := by decide +kernel
theorem dX0_record_146 : decode cX0_record 146 = .ok (.iload_n 2, 1) := by decide +kernel
theorem dX0_record_147 : decode cX0_record 147 = .ok (.iconst 1, 1) := by decide +kernel
theorem dX0_record_148 : decode cX0_record 148 = .ok (.iadd, 1) := by decide +kernel
theorem dX0_record_149 : decode cX0_record 149 = .ok (.aload_n 0, 1) := by decide +kernel
theorem dX0_record_150 : decode cX0_record 150 = .ok (.getfield 57, 3) := by decide +kernel
theorem dX0_record_153 : decode cX0_record 153 = .ok (.iload_n 2, 1) := by decide +kernel
theorem dX0_record_154 : decode cX0_record 154 = .ok (.isub, 1) := by decide +kernel
theorem dX0_record_155 : decode cX0_record 155 = .ok (.invokestatic 202, 3) := by decide +kernel
theorem dX0_record_158 : decode cX0_record 158 = .ok (.aload_n 0, 1) := by decide +kernel
theorem dX0_record_159 : decode cX0_record 159 = .ok (.getfield 50, 3) := by decide +kernel
theorem dX0_record_162 : decode cX0_record 162 = .ok (.iload_n 2, 1) := by decide +kernel
theorem dX0_record_163 : decode cX0_record 163 = .ok (.iload_n 1, 1) := by decide +kernel
theorem dX0_record_164 : decode cX0_record 164 = .ok (.iastore, 1) := by decide +kernel
theorem dX0_record_165 : decode cX0_record 165 = .ok (.aload_n 0, 1) := by decide +kernel
theorem dX0_record_166 : decode cX0_record 166 = .ok (.dup, 1) := by decide +kernel
theorem dX0_record_167 : decode cX0_record 167 = .ok (.getfield 57, 3) := by decide +kernel
theorem dX0_record_170 : decode cX0_record 170 = .ok (.iconst 1, 1) := by decide +kernel
theorem dX0_record_171 : decode cX0_record 171 = .ok (.iadd, 1) := by decide +kernel
theorem dX0_record_172 : decode cX0_record 172 = .ok (.putfield 57, 3) := by decide +kernel
theorem dX0_record_175 : decode cX0_record 175 = .ok (.return_, 1) := by decide +kernel
set_option maxRecDepth 20000 in
theorem ggX0_compareFound_X8_compare : GoodIn wsX0_compareFound wsX8_compare := goodIn_r _ [7, 8, 9, 10, 11, 12, 13, 34, 35, 36, 37, 38, 39, 40, 41, 42, 43, 44, 45, 46, 47, 48, 49, 50, 51, 52] rfl (by decide +kernel)
set_option maxRecDepth 20000 in
theorem gX0_compareFound_X8_compare : GoodIn wsX0_compareFound (wsV RX0 208 RX8 yX8_compare wsX8_compare) := goodIn_app (goodIn_of _ (by decide +kernel)) ggX0_compareFound_X8_compare
theorem dX0_compareFound_0 : decode cX0_compareFound 0 = .ok (.iconst 0, 1) := by decide +kernel
theorem dX0_compareFound_1 : decode cX0_compareFound 1 = .ok (.istore_n 3, 1) := by decide +kernel
theorem dX0_compareFound_2 : decode cX0_compareFound 2 = .ok (.iload_n 3, 1) := by decide +kernel
theorem dX0_compareFound_3 : decode cX0_compareFound 3 = .ok (.iconst 5, 1) := by decide +kernel
theorem dX0_compareFound_4 : decode cX0_compareFound 4 = .ok (.if_icmp .ge 92, 3) := by decide +kernel
theorem dX0_compareFound_7 : decode cX0_compareFound 7 = .ok (.iload_n 1, 1) := by decide +kernel
theorem dX0_compareFound_8 : decode cX0_compareFound 8 = .ok (.iconst 5, 1) := by decide +kernel
theorem dX0_compareFound_9 : decode cX0_compareFound 9 = .ok (.imul, 1) := by decide +kernel
theorem dX0_compareFound_10 : decode cX0_compareFound 10 = .ok (.iload_n 3, 1) := by decide +kernel
theorem dX0_compareFound_11 : decode cX0_compareFound 11 = .ok (.iadd, 1) := by decide +kernel
theorem dX0_compareFound_12 : decode cX0_compareFound 12 = .ok (.istore 4, 2) := by decide +kernel
theorem dX0_compareFound_14 : decode cX0_compareFound 14 = .ok (.iload_n 2, 1) := by decide +kernel
theorem dX0_compareFound_15 : decode cX0_compareFound 15 = .ok (.iconst 5, 1) := by decide +kernel
theorem dX0_compareFound_16 : decode cX0_compareFound 16 = .ok (.imul, 1) := by decide +kernel
theorem dX0_compareFound_17 : decode cX0_compareFound 17 = .ok (.iload_n 3, 1) := by decide +kernel
theorem dX0_compareFound_18 : decode cX0_compareFound 18 = .ok (.iadd, 1) := by decide +kernel
theorem dX0_compareFound_19 : decode cX0_compareFound 19 = .ok (.istore 5, 2) := by decide +kernel
theorem dX0_compareFound_21 : decode cX0_compareFound 21 = .ok (.iload 4, 2) := by decide +kernel
theorem dX0_compareFound_23 : decode cX0_compareFound 23 = .ok (.ifCond .lt 67, 3) := by decide +kernel
theorem dX0_compareFound_26 : decode cX0_compareFound 26 = .ok (.iload 5, 2) := by decide +kernel
theorem dX0_compareFound_28 : decode cX0_compareFound 28 = .ok (.ifCond .lt 62, 3) := by decide +kernel
theorem dX0_compareFound_31 : decode cX0_compareFound 31 = .ok (.iload 4, 2) := by decide +kernel
theorem dX0_compareFound_33 : decode cX0_compareFound 33 = .ok (.aload_n 0, 1) := by decide +kernel
theorem dX0_compareFound_34 : decode cX0_compareFound 34 = .ok (.getfield 47, 3) := by decide +kernel
theorem dX0_compareFound_37 : decode cX0_compareFound 37 = .ok (.arraylength, 1) := by decide +kernel
theorem dX0_compareFound_38 : decode cX0_compareFound 38 = .ok (.if_icmp .ge 52, 3) := by decide +kernel
theorem dX0_compareFound_41 : decode cX0_compareFound 41 = .ok (.iload 5, 2) := by decide +kernel
theorem dX0_compareFound_43 : decode cX0_compareFound 43 = .ok (.aload_n 0, 1) := by decide +kernel
theorem dX0_compareFound_44 : decode cX0_compareFound 44 = .ok (.getfield 47, 3) := by decide +kernel
theorem dX0_compareFound_47 : decode cX0_compareFound 47 = .ok (.arraylength, 1) := by decide +kernel
theorem dX0_compareFound_48 : decode cX0_compareFound 48 = .ok (.if_icmp .ge 42, 3) := by decide +kernel
theorem dX0_compareFound_51 : decode cX0_compareFound 51 = .ok (.aload_n 0, 1) := by decide +kernel
theorem dX0_compareFound_52 : decode cX0_compareFound 52 = .ok (.getfield 47, 3) := by decide +kernel
theorem dX0_compareFound_55 : decode cX0_compareFound 55 = .ok (.iload 4, 2) := by decide +kernel
theorem dX0_compareFound_57 : decode cX0_compareFound 57 = .ok (.iaload, 1) := by decide +kernel
theorem dX0_compareFound_58 : decode cX0_compareFound 58 = .ok (.aload_n 0, 1) := by decide +kernel
theorem dX0_compareFound_59 : decode cX0_compareFound 59 = .ok (.getfield 47, 3) := by decide +kernel
theorem dX0_compareFound_62 : decode cX0_compareFound 62 = .ok (.iload 5, 2) := by decide +kernel
theorem dX0_compareFound_64 : decode cX0_compareFound 64 = .ok (.iaload, 1) := by decide +kernel
theorem dX0_compareFound_65 : decode cX0_compareFound 65 = .ok (.if_icmp .eq 25, 3) := by decide +kernel
theorem dX0_compareFound_68 : decode cX0_compareFound 68 = .ok (.aload_n 0, 1) := by decide +kernel
theorem dX0_compareFound_69 : decode cX0_compareFound 69 = .ok (.getfield 53, 3) := by decide +kernel
theorem dX0_compareFound_72 : decode cX0_compareFound 72 = .ok (.aload_n 0, 1) := by decide +kernel
theorem dX0_compareFound_73 : decode cX0_compareFound 73 = .ok (.getfield 47, 3) := by decide +kernel
theorem dX0_compareFound_76 : decode cX0_compareFound 76 = .ok (.iload 4, 2) := by decide +kernel
theorem dX0_compareFound_78 : decode cX0_compareFound 78 = .ok (.iaload, 1) := by decide +kernel
theorem dX0_compareFound_79 : decode cX0_compareFound 79 = .ok (.aload_n 0, 1) := by decide +kernel
theorem dX0_compareFound_80 : decode cX0_compareFound 80 = .ok (.getfield 47, 3) := by decide +kernel
theorem dX0_compareFound_83 : decode cX0_compareFound 83 = .ok (.iload 5, 2) := by decide +kernel
theorem dX0_compareFound_85 : decode cX0_compareFound 85 = .ok (.iaload, 1) := by decide +kernel
theorem dX0_compareFound_86 : decode cX0_compareFound 86 = .ok (.invokevirtual 208, 3) := by decide +kernel
theorem dX0_compareFound_89 : decode cX0_compareFound 89 = .ok (.ireturn, 1) := by decide +kernel
theorem dX0_compareFound_90 : decode cX0_compareFound 90 = .ok (.iinc 3 1, 3) := by decide +kernel
theorem dX0_compareFound_93 : decode cX0_compareFound 93 = .ok (.goto (-91), 3) := by decide +kernel
theorem dX0_compareFound_96 : decode cX0_compareFound 96 = .ok (.iconst 0, 1) := by decide +kernel
theorem dX0_compareFound_97 : decode cX0_compareFound 97 = .ok (.ireturn, 1) := by decide +kernel
