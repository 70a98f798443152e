set_option maxRecDepth 20000 in
theorem ggX4_init_X2_init : GoodIn wsX4_init wsX2_init := goodIn_r _ [14, 15, 2, 3, 16, 17, 18, 19, 20, 21, 22, 8, 23, 24, 25, 26, 27, 28, 29] (by decide +kernel) (by decide +kernel)
set_option maxRecDepth 20000 in
theorem gX4_init_X2_init : GoodIn wsX4_init (wsX2_init) := ggX4_init_X2_init
theorem dX4_init_0 : decode cX4_init 0 = .ok (.aload_n 0, 1) := by decide +kernel
theorem dX4_init_1 : decode cX4_init 1 = .ok (.invokespecial 3, 3) := by decide +kernel
theorem dX4_init_4 : decode cX4_init 4 = .ok (.aload_n 0, 1) := by decide +kernel
theorem dX4_init_5 : decode cX4_init 5 = .ok (.new 9, 3) := by decide +kernel
theorem dX4_init_8 : decode cX4_init 8 = .ok (.dup, 1) := by decide +kernel
theorem dX4_init_9 : decode cX4_init 9 = .ok (.iconst 1, 1) := by decide +kernel
theorem dX4_init_10 : decode cX4_init 10 = .ok (.invokespecial 11, 3) := by decide +kernel
theorem dX4_init_13 : decode cX4_init 13 = .ok (.putfield 14, 3) := by decide +kernel
theorem dX4_init_16 : decode cX4_init 16 = .ok (.aload_n 0, 1) := by decide +kernel
theorem dX4_init_17 : decode cX4_init 17 = .ok (.sipush 256, 3) := by decide +kernel
theorem dX4_init_20 : decode cX4_init 20 = .ok (.newarray .int, 2) := by decide +kernel
theorem dX4_init_22 : decode cX4_init 22 = .ok (.putfield 20, 3) := by decide +kernel
theorem dX4_init_25 : decode cX4_init 25 = .ok (.aload_n 0, 1) := by decide +kernel
theorem dX4_init_26 : decode cX4_init 26 = .ok (.bipush 21, 2) := by decide +kernel
theorem dX4_init_28 : decode cX4_init 28 = .ok (.newarray .int, 2) := by decide +kernel
theorem dX4_init_30 : decode cX4_init 30 = .ok (.putfield 24, 3) := by decide +kernel
theorem dX4_init_33 : decode cX4_init 33 = .ok (.aload_n 0, 1) := by decide +kernel
theorem dX4_init_34 : decode cX4_init 34 = .ok (.aload_n 1, 1) := by decide +kernel
theorem dX4_init_35 : decode cX4_init 35 = .ok (.putfield 27, 3) := by decide +kernel
theorem dX4_init_38 : decode cX4_init 38 = .ok (.return_, 1) := by decide +kernel
set_option maxRecDepth 20000 in
theorem ggX4_clear_X2_clear : GoodIn wsX4_clear wsX2_clear := goodIn_r _ [7, 8, 14, 15, 16, 17] (by decide +kernel) (by decide +kernel)
set_option maxRecDepth 20000 in
theorem gX4_clear_X2_clear : GoodIn wsX4_clear (wsV RX4 31 RX2 yX2_clear wsX2_clear) := goodIn_app (goodIn_of _ (by decide +kernel)) ggX4_clear_X2_clear
theorem dX4_clear_0 : decode cX4_clear 0 = .ok (.aload_n 0, 1) := by decide +kernel
theorem dX4_clear_1 : decode cX4_clear 1 = .ok (.getfield 14, 3) := by decide +kernel
theorem dX4_clear_4 : decode cX4_clear 4 = .ok (.invokevirtual 31, 3) := by decide +kernel
theorem dX4_clear_7 : decode cX4_clear 7 = .ok (.aload_n 0, 1) := by decide +kernel
theorem dX4_clear_8 : decode cX4_clear 8 = .ok (.iconst 0, 1) := by decide +kernel
theorem dX4_clear_9 : decode cX4_clear 9 = .ok (.putfield 34, 3) := by decide +kernel
theorem dX4_clear_12 : decode cX4_clear 12 = .ok (.return_, 1) := by decide +kernel
set_option maxRecDepth 20000 in
theorem ggX4_take_X2_clear : GoodIn wsX4_take wsX2_clear := goodIn_r _ [7, 8, 74, 75, 76, 77] (by decide +kernel) (by decide +kernel)
set_option maxRecDepth 20000 in
theorem gX4_take_X2_clear : GoodIn wsX4_take (wsV RX4 31 RX2 yX2_clear wsX2_clear) := goodIn_app (goodIn_of _ (by decide +kernel)) ggX4_take_X2_clear
set_option maxRecDepth 20000 in
theorem ggX4_take_X2_copy : GoodIn wsX4_take wsX2_copy := goodIn_r _ [12, 13, 14, 15, 6, 16, 8, 17, 18, 19, 20, 21, 22, 23, 24, 25, 26, 27, 28, 29, 30, 31, 32, 33, 34, 74, 75, 76, 77] (by decide +kernel) (by decide +kernel)
set_option maxRecDepth 20000 in
theorem gX4_take_X2_copy : GoodIn wsX4_take (wsV RX4 38 RX2 yX2_copy wsX2_copy) := goodIn_app (goodIn_of _ (by decide +kernel)) ggX4_take_X2_copy
set_option maxRecDepth 20000 in
theorem ggX4_take_X4_spell : GoodIn wsX4_take wsX4_spell := goodIn_r _ [39, 2, 1, 40, 41, 42, 14, 15, 6, 16, 8, 17, 43, 27, 28, 29, 30, 44, 45, 46, 47, 48, 49, 50, 51, 52, 53, 54, 55, 56, 38, 57, 58, 59, 60, 61, 62, 63, 64, 65, 66, 67, 68, 69, 70, 71, 72, 73, 74, 75, 76, 77, 78, 79, 80, 81, 82, 83, 84, 85] (by decide +kernel) (by decide +kernel)
set_option maxRecDepth 20000 in
theorem gX4_take_X4_spell : GoodIn wsX4_take (wsV RX4 42 RX4 yX4_spell wsX4_spell) := goodIn_app (goodIn_of _ (by decide +kernel)) ggX4_take_X4_spell
theorem dX4_take_0 : decode cX4_take 0 = .ok (.aload_n 0, 1) := by decide +kernel
theorem dX4_take_1 : decode cX4_take 1 = .ok (.getfield 14, 3) := by decide +kernel
theorem dX4_take_4 : decode cX4_take 4 = .ok (.invokevirtual 31, 3) := by decide +kernel
theorem dX4_take_7 : decode cX4_take 7 = .ok (.aload_n 0, 1) := by decide +kernel
theorem dX4_take_8 : decode cX4_take 8 = .ok (.getfield 14, 3) := by decide +kernel
theorem dX4_take_11 : decode cX4_take 11 = .ok (.aload_n 1, 1) := by decide +kernel
theorem dX4_take_12 : decode cX4_take 12 = .ok (.iload_n 2, 1) := by decide +kernel
theorem dX4_take_13 : decode cX4_take 13 = .ok (.invokevirtual 38, 3) := by decide +kernel
theorem dX4_take_16 : decode cX4_take 16 = .ok (.aload_n 0, 1) := by decide +kernel
theorem dX4_take_17 : decode cX4_take 17 = .ok (.invokevirtual 42, 3) := by decide +kernel
theorem dX4_take_20 : decode cX4_take 20 = .ok (.aload_n 0, 1) := by decide +kernel
theorem dX4_take_21 : decode cX4_take 21 = .ok (.getfield 34, 3) := by decide +kernel
theorem dX4_take_24 : decode cX4_take 24 = .ok (.ireturn, 1) := by decide +kernel
theorem dX4_byteAt_0 : decode cX4_byteAt 0 = .ok (.iload_n 1, 1) := by decide +kernel
theorem dX4_byteAt_1 : decode cX4_byteAt 1 = .ok (.ifCond .lt 27, 3) := by decide +kernel
theorem dX4_byteAt_4 : decode cX4_byteAt 4 = .ok (.iload_n 1, 1) := by decide +kernel
theorem dX4_byteAt_5 : decode cX4_byteAt 5 = .ok (.aload_n 0, 1) := by decide +kernel
theorem dX4_byteAt_6 : decode cX4_byteAt 6 = .ok (.getfield 34, 3) := by decide +kernel
theorem dX4_byteAt_9 : decode cX4_byteAt 9 = .ok (.if_icmp .ge 19, 3) := by decide +kernel
theorem dX4_byteAt_12 : decode cX4_byteAt 12 = .ok (.iload_n 1, 1) := by decide +kernel
theorem dX4_byteAt_13 : decode cX4_byteAt 13 = .ok (.sipush 256, 3) := by decide +kernel
theorem dX4_byteAt_16 : decode cX4_byteAt 16 = .ok (.if_icmp .ge 12, 3) := by decide +kernel
theorem dX4_byteAt_19 : decode cX4_byteAt 19 = .ok (.aload_n 0, 1) := by decide +kernel
theorem dX4_byteAt_20 : decode cX4_byteAt 20 = .ok (.getfield 20, 3) := by decide +kernel
theorem dX4_byteAt_23 : decode cX4_byteAt 23 = .ok (.iload_n 1, 1) := by decide +kernel
theorem dX4_byteAt_24 : decode cX4_byteAt 24 = .ok (.iaload, 1) := by decide +kernel
theorem dX4_byteAt_25 : decode cX4_byteAt 25 = .ok (.goto 4, 3) := by decide +kernel
theorem dX4_byteAt_28 : decode cX4_byteAt 28 = .ok (.iconst (-1), 1) := by decide +kernel
theorem dX4_byteAt_29 : decode cX4_byteAt 29 = .ok (.ireturn, 1) := by decide +kernel
set_option maxRecDepth 20000 in
theorem ggX4_spell_X2_lengthOf : GoodIn wsX4_spell wsX2_lengthOf := goodIn_r _ [9, 10, 11, 48, 49, 50, 51] (by decide +kernel) (by decide +kernel)
set_option maxRecDepth 20000 in
theorem gX4_spell_X2_lengthOf : GoodIn wsX4_spell (wsV RX4 45 RX2 yX2_lengthOf wsX2_lengthOf) := goodIn_app (goodIn_of _ (by decide +kernel)) ggX4_spell_X2_lengthOf
set_option maxRecDepth 20000 in
theorem ggX4_spell_X2_cellAt : GoodIn wsX4_spell wsX2_cellAt := goodIn_r _ [15, 11, 16, 48, 49, 50, 51] (by decide +kernel) (by decide +kernel)
set_option maxRecDepth 20000 in
theorem gX4_spell_X2_cellAt : GoodIn wsX4_spell (wsV RX4 49 RX2 yX2_cellAt wsX2_cellAt) := goodIn_app (goodIn_of _ (by decide +kernel)) ggX4_spell_X2_cellAt
set_option maxRecDepth 20000 in
theorem ggX4_spell_X5_nameOf : GoodIn wsX4_spell wsX5_nameOf := goodIn_r _ [21, 22, 23, 24, 25, 26, 52, 53, 54, 55, 56, 57, 58, 59] (by decide +kernel) (by decide +kernel)
set_option maxRecDepth 20000 in
theorem gX4_spell_X5_nameOf : GoodIn wsX4_spell (wsV RX4 53 RX5 yX5_nameOf wsX5_nameOf) := goodIn_app (goodIn_of _ (by decide +kernel)) ggX4_spell_X5_nameOf
set_option maxRecDepth 20000 in
theorem ggX4_spell_X4_putName : GoodIn wsX4_spell wsX4_putName := goodIn_r _ [31, 32, 33, 34, 30, 35, 1, 36, 43, 44, 45, 46, 47] (by decide +kernel) (by decide +kernel)
set_option maxRecDepth 20000 in
theorem gX4_spell_X4_putName : GoodIn wsX4_spell (wsV RX4 58 RX4 yX4_putName wsX4_putName) := goodIn_app (goodIn_of _ (by decide +kernel)) ggX4_spell_X4_putName
set_option maxRecDepth 20000 in
theorem ggX4_spell_X9_partsIn : GoodIn wsX4_spell wsX9_partsIn := goodIn_r _ [38] (by decide +kernel) (by decide +kernel)
set_option maxRecDepth 20000 in
theorem gX4_spell_X9_partsIn_n61 : GoodIn wsX4_spell (wsX9_partsIn) := ggX4_spell_X9_partsIn
set_option maxRecDepth 20000 in
theorem ggX4_spell_X4_putByte : GoodIn wsX4_spell wsX4_putByte := goodIn_r _ [35, 1, 36, 43, 44, 45, 46, 47] (by decide +kernel) (by decide +kernel)
set_option maxRecDepth 20000 in
theorem gX4_spell_X4_putByte : GoodIn wsX4_spell (wsV RX4 64 RX4 yX4_putByte wsX4_putByte) := goodIn_app (goodIn_of _ (by decide +kernel)) ggX4_spell_X4_putByte
set_option maxRecDepth 20000 in
theorem ggX4_spell_X4_closeAll : GoodIn wsX4_spell wsX4_closeAll := goodIn_r _ [42, 4, 32, 33, 34, 30, 35, 1, 36, 43, 44, 45, 46, 47] (by decide +kernel) (by decide +kernel)
set_option maxRecDepth 20000 in
theorem gX4_spell_X4_closeAll : GoodIn wsX4_spell (wsV RX4 67 RX4 yX4_closeAll wsX4_closeAll) := goodIn_app (goodIn_of _ (by decide +kernel)) ggX4_spell_X4_closeAll
theorem dX4_spell_0 : decode cX4_spell 0 = .ok (.aload_n 0, 1) := by decide +kernel
theorem dX4_spell_1 : decode cX4_spell 1 = .ok (.iconst 0, 1) := by decide +kernel
theorem dX4_spell_2 : decode cX4_spell 2 = .ok (.putfield 34, 3) := by decide +kernel
theorem dX4_spell_5 : decode cX4_spell 5 = .ok (.iconst 0, 1) := by decide +kernel
theorem dX4_spell_6 : decode cX4_spell 6 = .ok (.istore_n 1, 1) := by decide +kernel
theorem dX4_spell_7 : decode cX4_spell 7 = .ok (.aload_n 0, 1) := by decide +kernel
theorem dX4_spell_8 : decode cX4_spell 8 = .ok (.getfield 14, 3) := by decide +kernel
theorem dX4_spell_11 : decode cX4_spell 11 = .ok (.iconst 0, 1) := by decide +kernel
theorem dX4_spell_12 : decode cX4_spell 12 = .ok (.invokevirtual 45, 3) := by decide +kernel
theorem dX4_spell_15 : decode cX4_spell 15 = .ok (.istore_n 2, 1) := by decide +kernel
theorem dX4_spell_16 : decode cX4_spell 16 = .ok (.iconst 0, 1) := by decide +kernel
theorem dX4_spell_17 : decode cX4_spell 17 = .ok (.istore_n 3, 1) := by decide +kernel
theorem dX4_spell_18 : decode cX4_spell 18 = .ok (.iload_n 3, 1) := by decide +kernel
theorem dX4_spell_19 : decode cX4_spell 19 = .ok (.iload_n 2, 1) := by decide +kernel
theorem dX4_spell_20 : decode cX4_spell 20 = .ok (.if_icmp .ge 77, 3) := by decide +kernel
theorem dX4_spell_23 : decode cX4_spell 23 = .ok (.aload_n 0, 1) := by decide +kernel
theorem dX4_spell_24 : decode cX4_spell 24 = .ok (.getfield 14, 3) := by decide +kernel
theorem dX4_spell_27 : decode cX4_spell 27 = .ok (.iconst 0, 1) := by decide +kernel
theorem dX4_spell_28 : decode cX4_spell 28 = .ok (.iload_n 3, 1) := by decide +kernel
theorem dX4_spell_29 : decode cX4_spell 29 = .ok (.invokevirtual 49, 3) := by decide +kernel
theorem dX4_spell_32 : decode cX4_spell 32 = .ok (.istore 4, 2) := by decide +kernel
theorem dX4_spell_34 : decode cX4_spell 34 = .ok (.aload_n 0, 1) := by decide +kernel
theorem dX4_spell_35 : decode cX4_spell 35 = .ok (.aload_n 0, 1) := by decide +kernel
theorem dX4_spell_36 : decode cX4_spell 36 = .ok (.getfield 27, 3) := by decide +kernel
theorem dX4_spell_39 : decode cX4_spell 39 = .ok (.iload 4, 2) := by decide +kernel
theorem dX4_spell_41 : decode cX4_spell 41 = .ok (.invokevirtual 53, 3) := by decide +kernel
theorem dX4_spell_44 : decode cX4_spell 44 = .ok (.invokevirtual 58, 3) := by decide +kernel
theorem dX4_spell_47 : decode cX4_spell 47 = .ok (.iload 4, 2) := by decide +kernel
theorem dX4_spell_49 : decode cX4_spell 49 = .ok (.invokestatic 61, 3) := by decide +kernel
theorem dX4_spell_52 : decode cX4_spell 52 = .ok (.istore 5, 2) := by decide +kernel
theorem dX4_spell_54 : decode cX4_spell 54 = .ok (.iload 5, 2) := by decide +kernel
theorem dX4_spell_56 : decode cX4_spell 56 = .ok (.ifCond .le 29, 3) := by decide +kernel
theorem dX4_spell_59 : decode cX4_spell 59 = .ok (.iload_n 1, 1) := by decide +kernel
theorem dX4_spell_60 : decode cX4_spell 60 = .ok (.bipush 20, 2) := by decide +kernel
theorem dX4_spell_62 : decode cX4_spell 62 = .ok (.if_icmp .ge 23, 3) := by decide +kernel
theorem dX4_spell_65 : decode cX4_spell 65 = .ok (.aload_n 0, 1) := by decide +kernel
theorem dX4_spell_66 : decode cX4_spell 66 = .ok (.bipush 40, 2) := by decide +kernel
theorem dX4_spell_68 : decode cX4_spell 68 = .ok (.invokevirtual 64, 3) := by decide +kernel
theorem dX4_spell_71 : decode cX4_spell 71 = .ok (.iinc 1 1, 3) := by decide +kernel
theorem dX4_spell_74 : decode cX4_spell 74 = .ok (.aload_n 0, 1) := by decide +kernel
theorem dX4_spell_75 : decode cX4_spell 75 = .ok (.getfield 24, 3) := by decide +kernel
theorem dX4_spell_78 : decode cX4_spell 78 = .ok (.iload_n 1, 1) := by decide +kernel
theorem dX4_spell_79 : decode cX4_spell 79 = .ok (.iload 5, 2) := by decide +kernel
theorem dX4_spell_81 : decode cX4_spell 81 = .ok (.iastore, 1) := by decide +kernel
theorem dX4_spell_82 : decode cX4_spell 82 = .ok (.goto 9, 3) := by decide +kernel
theorem dX4_spell_85 : decode cX4_spell 85 = .ok (.aload_n 0, 1) := by decide +kernel
theorem dX4_spell_86 : decode cX4_spell 86 = .ok (.iload_n 1, 1) := by decide +kernel
theorem dX4_spell_87 : decode cX4_spell 87 = .ok (.invokevirtual 67, 3) := by decide +kernel
theorem dX4_spell_90 : decode cX4_spell 90 = .ok (.istore_n 1, 1) := by decide +kernel
theorem dX4_spell_91 : decode cX4_spell 91 = .ok (.iinc 3 1, 3) := by decide +kernel
theorem dX4_spell_94 : decode cX4_spell 94 = .ok (.goto (-76), 3) := by decide +kernel
theorem dX4_spell_97 : decode cX4_spell 97 = .ok (.return_, 1) := by decide +kernel
set_option maxRecDepth 20000 in
theorem ggX4_closeAll_X4_putByte : GoodIn wsX4_closeAll wsX4_putByte := goodIn_r _ [6, 7, 8, 9, 10, 11, 12, 13] (by decide +kernel) (by decide +kernel)
set_option maxRecDepth 20000 in
theorem gX4_closeAll_X4_putByte : GoodIn wsX4_closeAll (wsV RX4 64 RX4 yX4_putByte wsX4_putByte) := goodIn_app (goodIn_of _ (by decide +kernel)) ggX4_closeAll_X4_putByte
theorem dX4_closeAll_0 : decode cX4_closeAll 0 = .ok (.iload_n 1, 1) := by decide +kernel
theorem dX4_closeAll_1 : decode cX4_closeAll 1 = .ok (.istore_n 2, 1) := by decide +kernel
theorem dX4_closeAll_2 : decode cX4_closeAll 2 = .ok (.iload_n 2, 1) := by decide +kernel
theorem dX4_closeAll_3 : decode cX4_closeAll 3 = .ok (.ifCond .le 49, 3) := by decide +kernel
theorem dX4_closeAll_6 : decode cX4_closeAll 6 = .ok (.iload_n 2, 1) := by decide +kernel
theorem dX4_closeAll_7 : decode cX4_closeAll 7 = .ok (.bipush 20, 2) := by decide +kernel
theorem dX4_closeAll_9 : decode cX4_closeAll 9 = .ok (.if_icmp .gt 43, 3) := by decide +kernel
theorem dX4_closeAll_12 : decode cX4_closeAll 12 = .ok (.aload_n 0, 1) := by decide +kernel
theorem dX4_closeAll_13 : decode cX4_closeAll 13 = .ok (.getfield 24, 3) := by decide +kernel
theorem dX4_closeAll_16 : decode cX4_closeAll 16 = .ok (.iload_n 2, 1) := by decide +kernel
theorem dX4_closeAll_17 : decode cX4_closeAll 17 = .ok (.dup2, 1) := by decide +kernel
theorem dX4_closeAll_18 : decode cX4_closeAll 18 = .ok (.iaload, 1) := by decide +kernel
theorem dX4_closeAll_19 : decode cX4_closeAll 19 = .ok (.iconst 1, 1) := by decide +kernel
theorem dX4_closeAll_20 : decode cX4_closeAll 20 = .ok (.isub, 1) := by decide +kernel
theorem dX4_closeAll_21 : decode cX4_closeAll 21 = .ok (.iastore, 1) := by decide +kernel
theorem dX4_closeAll_22 : decode cX4_closeAll 22 = .ok (.aload_n 0, 1) := by decide +kernel
theorem dX4_closeAll_23 : decode cX4_closeAll 23 = .ok (.getfield 24, 3) := by decide +kernel
theorem dX4_closeAll_26 : decode cX4_closeAll 26 = .ok (.iload_n 2, 1) := by decide +kernel
theorem dX4_closeAll_27 : decode cX4_closeAll 27 = .ok (.iaload, 1) := by decide +kernel
theorem dX4_closeAll_28 : decode cX4_closeAll 28 = .ok (.ifCond .le 12, 3) := by decide +kernel
theorem dX4_closeAll_31 : decode cX4_closeAll 31 = .ok (.aload_n 0, 1) := by decide +kernel
theorem dX4_closeAll_32 : decode cX4_closeAll 32 = .ok (.bipush 44, 2) := by decide +kernel
theorem dX4_closeAll_34 : decode cX4_closeAll 34 = .ok (.invokevirtual 64, 3) := by decide +kernel
theorem dX4_closeAll_37 : decode cX4_closeAll 37 = .ok (.goto 15, 3) := by decide +kernel
theorem dX4_closeAll_40 : decode cX4_closeAll 40 = .ok (.aload_n 0, 1) := by decide +kernel
theorem dX4_closeAll_41 : decode cX4_closeAll 41 = .ok (.bipush 41, 2) := by decide +kernel
theorem dX4_closeAll_43 : decode cX4_closeAll 43 = .ok (.invokevirtual 64, 3) := by decide +kernel
theorem dX4_closeAll_46 : decode cX4_closeAll 46 = .ok (.iinc 2 (-1), 3) := by decide +kernel
theorem dX4_closeAll_49 : decode cX4_closeAll 49 = .ok (.goto (-47), 3) := by decide +kernel
theorem dX4_closeAll_52 : decode cX4_closeAll 52 = .ok (.iload_n 2, 1) := by decide +kernel
theorem dX4_closeAll_53 : decode cX4_closeAll 53 = .ok (.ireturn, 1) := by decide +kernel
set_option maxRecDepth 20000 in
theorem ggX4_putName_X4_putByte : GoodIn wsX4_putName wsX4_putByte := goodIn_r _ [5, 6, 7, 8, 9, 10, 11, 12] (by decide +kernel) (by decide +kernel)
set_option maxRecDepth 20000 in
theorem gX4_putName_X4_putByte : GoodIn wsX4_putName (wsV RX4 64 RX4 yX4_putByte wsX4_putByte) := goodIn_app (goodIn_of _ (by decide +kernel)) ggX4_putName_X4_putByte
theorem dX4_putName_0 : decode cX4_putName 0 = .ok (.bipush 25, 2) := by decide +kernel
theorem dX4_putName_2 : decode cX4_putName 2 = .ok (.istore_n 2, 1) := by decide +kernel
theorem dX4_putName_3 : decode cX4_putName 3 = .ok (.iload_n 2, 1) := by decide +kernel
theorem dX4_putName_4 : decode cX4_putName 4 = .ok (.ifCond .lt 30, 3) := by decide +kernel
theorem dX4_putName_7 : decode cX4_putName 7 = .ok (.iload_n 1, 1) := by decide +kernel
theorem dX4_putName_8 : decode cX4_putName 8 = .ok (.iload_n 2, 1) := by decide +kernel
theorem dX4_putName_9 : decode cX4_putName 9 = .ok (.iushr, 1) := by decide +kernel
theorem dX4_putName_10 : decode cX4_putName 10 = .ok (.bipush 31, 2) := by decide +kernel
theorem dX4_putName_12 : decode cX4_putName 12 = .ok (.iand, 1) := by decide +kernel
theorem dX4_putName_13 : decode cX4_putName 13 = .ok (.istore_n 3, 1) := by decide +kernel
theorem dX4_putName_14 : decode cX4_putName 14 = .ok (.iload_n 3, 1) := by decide +kernel
theorem dX4_putName_15 : decode cX4_putName 15 = .ok (.ifCond .le 13, 3) := by decide +kernel
theorem dX4_putName_18 : decode cX4_putName 18 = .ok (.aload_n 0, 1) := by decide +kernel
theorem dX4_putName_19 : decode cX4_putName 19 = .ok (.bipush 97, 2) := by decide +kernel
theorem dX4_putName_21 : decode cX4_putName 21 = .ok (.iload_n 3, 1) := by decide +kernel
theorem dX4_putName_22 : decode cX4_putName 22 = .ok (.iadd, 1) := by decide +kernel
theorem dX4_putName_23 : decode cX4_putName 23 = .ok (.iconst 1, 1) := by decide +kernel
theorem dX4_putName_24 : decode cX4_putName 24 = .ok (.isub, 1) := by decide +kernel
theorem dX4_putName_25 : decode cX4_putName 25 = .ok (.invokevirtual 64, 3) := by decide +kernel
theorem dX4_putName_28 : decode cX4_putName 28 = .ok (.iinc 2 (-5), 3) := by decide +kernel
theorem dX4_putName_31 : decode cX4_putName 31 = .ok (.goto (-28), 3) := by decide +kernel
theorem dX4_putName_34 : decode cX4_putName 34 = .ok (.return_, 1) := by decide +kernel
theorem dX4_putByte_0 : decode cX4_putByte 0 = .ok (.aload_n 0, 1) := by decide +kernel
theorem dX4_putByte_1 : decode cX4_putByte 1 = .ok (.getfield 34, 3) := by decide +kernel
theorem dX4_putByte_4 : decode cX4_putByte 4 = .ok (.ifCond .lt 33, 3) := by decide +kernel
theorem dX4_putByte_7 : decode cX4_putByte 7 = .ok (.aload_n 0, 1) := by decide +kernel
theorem dX4_putByte_8 : decode cX4_putByte 8 = .ok (.getfield 34, 3) := by decide +kernel
theorem dX4_putByte_11 : decode cX4_putByte 11 = .ok (.sipush 256, 3) := by decide +kernel
theorem dX4_putByte_14 : decode cX4_putByte 14 = .ok (.if_icmp .ge 23, 3) := by decide +kernel
theorem dX4_putByte_17 : decode cX4_putByte 17 = .ok (.aload_n 0, 1) := by decide +kernel
theorem dX4_putByte_18 : decode cX4_putByte 18 = .ok (.getfield 20, 3) := by decide +kernel
theorem dX4_putByte_21 : decode cX4_putByte 21 = .ok (.aload_n 0, 1) := by decide +kernel
theorem dX4_putByte_22 : decode cX4_putByte 22 = .ok (.getfield 34, 3) := by decide +kernel
theorem dX4_putByte_25 : decode cX4_putByte 25 = .ok (.iload_n 1, 1) := by decide +kernel
theorem dX4_putByte_26 : decode cX4_putByte 26 = .ok (.iastore, 1) := by decide +kernel
theorem dX4_putByte_27 : decode cX4_putByte 27 = .ok (.aload_n 0, 1) := by decide +kernel
theorem dX4_putByte_28 : decode cX4_putByte 28 = .ok (.dup, 1) := by decide +kernel
theorem dX4_putByte_29 : decode cX4_putByte 29 = .ok (.getfield 34, 3) := by decide +kernel
theorem dX4_putByte_32 : decode cX4_putByte 32 = .ok (.iconst 1, 1) := by decide +kernel
theorem dX4_putByte_33 : decode cX4_putByte 33 = .ok (.iadd, 1) := by decide +kernel
theorem dX4_putByte_34 : decode cX4_putByte 34 = .ok (.putfield 34, 3) := by decide +kernel
theorem dX4_putByte_37 : decode cX4_putByte 37 = .ok (.return_, 1) := by decide +kernel
