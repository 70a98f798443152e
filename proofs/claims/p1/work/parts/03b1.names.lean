theorem dX1_init_0 : decode cX1_init 0 = .ok (.aload_n 0, 1) := by decide +kernel
theorem dX1_init_1 : decode cX1_init 1 = .ok (.invokespecial 3, 3) := by decide +kernel
theorem dX1_init_4 : decode cX1_init 4 = .ok (.aload_n 0, 1) := by decide +kernel
theorem dX1_init_5 : decode cX1_init 5 = .ok (.sipush 400, 3) := by decide +kernel
theorem dX1_init_8 : decode cX1_init 8 = .ok (.newarray .int, 2) := by decide +kernel
theorem dX1_init_10 : decode cX1_init 10 = .ok (.putfield 9, 3) := by decide +kernel
theorem dX1_init_13 : decode cX1_init 13 = .ok (.aload_n 0, 1) := by decide +kernel
theorem dX1_init_14 : decode cX1_init 14 = .ok (.sipush 400, 3) := by decide +kernel
theorem dX1_init_17 : decode cX1_init 17 = .ok (.newarray .int, 2) := by decide +kernel
theorem dX1_init_19 : decode cX1_init 19 = .ok (.putfield 15, 3) := by decide +kernel
theorem dX1_init_22 : decode cX1_init 22 = .ok (.aload_n 0, 1) := by decide +kernel
theorem dX1_init_23 : decode cX1_init 23 = .ok (.sipush 400, 3) := by decide +kernel
theorem dX1_init_26 : decode cX1_init 26 = .ok (.newarray .int, 2) := by decide +kernel
theorem dX1_init_28 : decode cX1_init 28 = .ok (.putfield 18, 3) := by decide +kernel
theorem dX1_init_31 : decode cX1_init 31 = .ok (.aload_n 0, 1) := by decide +kernel
theorem dX1_init_32 : decode cX1_init 32 = .ok (.aload_n 1, 1) := by decide +kernel
theorem dX1_init_33 : decode cX1_init 33 = .ok (.putfield 21, 3) := by decide +kernel
theorem dX1_init_36 : decode cX1_init 36 = .ok (.aload_n 0, 1) := by decide +kernel
theorem dX1_init_37 : decode cX1_init 37 = .ok (.aload_n 2, 1) := by decide +kernel
theorem dX1_init_38 : decode cX1_init 38 = .ok (.putfield 25, 3) := by decide +kernel
theorem dX1_init_41 : decode cX1_init 41 = .ok (.aload_n 0, 1) := by decide +kernel
theorem dX1_init_42 : decode cX1_init 42 = .ok (.aload_n 3, 1) := by decide +kernel
theorem dX1_init_43 : decode cX1_init 43 = .ok (.putfield 29, 3) := by decide +kernel
theorem dX1_init_46 : decode cX1_init 46 = .ok (.return_, 1) := by decide +kernel
set_option maxRecDepth 20000 in
theorem ggX1_read_X1_readHead : GoodIn wsX1_read wsX1_readHead := goodIn_r _ [8, 9, 10, 11, 2, 12, 13, 1, 14, 15, 16, 17, 18, 19, 20, 21, 22, 23, 24, 25, 26, 27, 28, 29, 30, 31, 32, 33, 34, 35, 36, 37, 38, 39, 40, 41, 42, 43, 44, 45, 46, 47, 48, 49, 50, 51, 52, 53, 54, 55, 56, 57, 58, 59, 60, 61, 62, 63, 64, 65, 66, 67, 68, 69, 70, 71, 72, 73, 74, 75, 76, 77, 78, 79, 80, 81, 82, 7, 83, 3, 84, 85, 86, 87, 88, 89, 90, 91, 92, 93, 94, 95, 140, 141, 142, 143, 144, 145, 146, 147, 148, 149, 150, 151, 152, 153, 154, 155, 156, 157, 158, 159, 160, 161, 162, 163, 164, 165, 166, 167, 168, 169, 170, 171, 172, 173, 174, 175, 176, 177, 178, 179, 180, 181] rfl (by decide +kernel)
set_option maxRecDepth 20000 in
theorem gX1_read_X1_readHead : GoodIn wsX1_read (wsV RX1 40 RX1 yX1_readHead wsX1_readHead) := goodIn_app (goodIn_of _ (by decide +kernel)) ggX1_read_X1_readHead
set_option maxRecDepth 20000 in
theorem ggX1_read_X1_closeAll : GoodIn wsX1_read wsX1_closeAll := goodIn_r _ [99, 2, 12, 1, 13, 10, 9, 84, 85, 86, 17, 87, 88, 100, 101, 102, 103, 104, 92, 93, 94, 30, 95, 34, 35, 27, 28, 29, 31, 32, 33, 36, 37, 38, 39, 40, 41, 42, 43, 44, 45, 46, 47, 48, 49, 50, 51, 52, 53, 54, 55, 56, 57, 58, 105, 106, 107, 7, 108, 11, 3, 109, 110, 111, 62, 112, 113, 114, 115, 77, 116, 117, 118, 119, 120, 121, 122, 123, 124, 125, 126, 127, 69, 73, 74, 68, 128, 129, 130, 131, 132, 133, 134, 135, 136, 137, 138, 139, 64, 65, 66, 67, 70, 71, 72, 75, 76, 78, 79, 89, 90, 91, 80, 81, 82, 83, 140, 141, 142, 143, 144, 145, 146, 147, 155, 156, 157, 158, 159, 160, 161, 162, 148, 149, 150, 151, 152, 153, 154, 163, 164, 165, 166, 167, 168, 169, 170, 171, 172, 173, 174, 175, 176, 177, 178, 179, 180, 181] rfl (by decide +kernel)
set_option maxRecDepth 20000 in
theorem gX1_read_X1_closeAll : GoodIn wsX1_read (wsV RX1 44 RX1 yX1_closeAll wsX1_closeAll) := goodIn_app (goodIn_of _ (by decide +kernel)) ggX1_read_X1_closeAll
theorem dX1_read_0 : decode cX1_read 0 = .ok (.aload_n 0, 1) := by decide +kernel
theorem dX1_read_1 : decode cX1_read 1 = .ok (.iconst 0, 1) := by decide +kernel
theorem dX1_read_2 : decode cX1_read 2 = .ok (.putfield 33, 3) := by decide +kernel
theorem dX1_read_5 : decode cX1_read 5 = .ok (.aload_n 0, 1) := by decide +kernel
theorem dX1_read_6 : decode cX1_read 6 = .ok (.iconst 0, 1) := by decide +kernel
theorem dX1_read_7 : decode cX1_read 7 = .ok (.putfield 37, 3) := by decide +kernel
theorem dX1_read_10 : decode cX1_read 10 = .ok (.iconst 0, 1) := by decide +kernel
theorem dX1_read_11 : decode cX1_read 11 = .ok (.istore_n 1, 1) := by decide +kernel
theorem dX1_read_12 : decode cX1_read 12 = .ok (.iload_n 1, 1) := by decide +kernel
theorem dX1_read_13 : decode cX1_read 13 = .ok (.sipush 400, 3) := by decide +kernel
theorem dX1_read_16 : decode cX1_read 16 = .ok (.if_icmp .ge 59, 3) := by decide +kernel
theorem dX1_read_19 : decode cX1_read 19 = .ok (.aload_n 0, 1) := by decide +kernel
theorem dX1_read_20 : decode cX1_read 20 = .ok (.getfield 37, 3) := by decide +kernel
theorem dX1_read_23 : decode cX1_read 23 = .ok (.istore_n 2, 1) := by decide +kernel
theorem dX1_read_24 : decode cX1_read 24 = .ok (.aload_n 0, 1) := by decide +kernel
theorem dX1_read_25 : decode cX1_read 25 = .ok (.invokevirtual 40, 3) := by decide +kernel
theorem dX1_read_28 : decode cX1_read 28 = .ok (.ifCond .ne 6, 3) := by decide +kernel
theorem dX1_read_31 : decode cX1_read 31 = .ok (.bipush (-2), 2) := by decide +kernel
theorem dX1_read_33 : decode cX1_read 33 = .ok (.ireturn, 1) := by decide +kernel
theorem dX1_read_34 : decode cX1_read 34 = .ok (.aload_n 0, 1) := by decide +kernel
theorem dX1_read_35 : decode cX1_read 35 = .ok (.getfield 37, 3) := by decide +kernel
theorem dX1_read_38 : decode cX1_read 38 = .ok (.iload_n 2, 1) := by decide +kernel
theorem dX1_read_39 : decode cX1_read 39 = .ok (.if_icmp .le 6, 3) := by decide +kernel
theorem dX1_read_42 : decode cX1_read 42 = .ok (.goto 27, 3) := by decide +kernel
theorem dX1_read_45 : decode cX1_read 45 = .ok (.aload_n 0, 1) := by decide +kernel
theorem dX1_read_46 : decode cX1_read 46 = .ok (.invokevirtual 44, 3) := by decide +kernel
theorem dX1_read_49 : decode cX1_read 49 = .ok (.ifCond .ne 6, 3) := by decide +kernel
theorem dX1_read_52 : decode cX1_read 52 = .ok (.bipush (-2), 2) := by decide +kernel
theorem dX1_read_54 : decode cX1_read 54 = .ok (.ireturn, 1) := by decide +kernel
theorem dX1_read_55 : decode cX1_read 55 = .ok (.aload_n 0, 1) := by decide +kernel
theorem dX1_read_56 : decode cX1_read 56 = .ok (.getfield 37, 3) := by decide +kernel
theorem dX1_read_59 : decode cX1_read 59 = .ok (.ifCond .ne 10, 3) := by decide +kernel
theorem dX1_read_62 : decode cX1_read 62 = .ok (.aload_n 0, 1) := by decide +kernel
theorem dX1_read_63 : decode cX1_read 63 = .ok (.getfield 9, 3) := by decide +kernel
theorem dX1_read_66 : decode cX1_read 66 = .ok (.iconst 0, 1) := by decide +kernel
theorem dX1_read_67 : decode cX1_read 67 = .ok (.iaload, 1) := by decide +kernel
theorem dX1_read_68 : decode cX1_read 68 = .ok (.ireturn, 1) := by decide +kernel
theorem dX1_read_69 : decode cX1_read 69 = .ok (.iinc 1 1, 3) := by decide +kernel
theorem dX1_read_72 : decode cX1_read 72 = .ok (.goto (-60), 3) := by decide +kernel
theorem dX1_read_75 : decode cX1_read 75 = .ok (.bipush (-2), 2) := by decide +kernel
theorem dX1_read_77 : decode cX1_read 77 = .ok (.ireturn, 1) := by decide +kernel
set_option maxRecDepth 20000 in
theorem ggX1_readHead_X5_findVariable : GoodIn wsX1_readHead wsX5_findVariable := goodIn_r _ [12, 13, 14, 107, 108, 109, 110, 111, 112, 113, 114] rfl (by decide +kernel)
set_option maxRecDepth 20000 in
theorem gX1_readHead_X5_findVariable : GoodIn wsX1_readHead (wsV RX1 55 RX5 yX5_findVariable wsX5_findVariable) := goodIn_app (goodIn_of _ (by decide +kernel)) ggX1_readHead_X5_findVariable
set_option maxRecDepth 20000 in
theorem ggX1_readHead_X5_findOperator : GoodIn wsX1_readHead wsX5_findOperator := goodIn_r _ [18, 19, 20, 107, 108, 109, 110, 111, 112, 113, 114] rfl (by decide +kernel)
set_option maxRecDepth 20000 in
theorem gX1_readHead_X5_findOperator : GoodIn wsX1_readHead (wsV RX1 61 RX5 yX5_findOperator wsX5_findOperator) := goodIn_app (goodIn_of _ (by decide +kernel)) ggX1_readHead_X5_findOperator
set_option maxRecDepth 20000 in
theorem ggX1_readHead_X3_advance : GoodIn wsX1_readHead wsX3_advance := goodIn_r _ [25, 26, 27, 28, 29, 30, 31, 32, 24, 33, 34, 35, 36, 37, 38, 39, 40, 41, 42, 43, 44, 45, 46, 47, 48, 49, 50, 51, 52, 100, 101, 102, 103, 104, 105, 106] rfl (by decide +kernel)
set_option maxRecDepth 20000 in
theorem gX1_readHead_X3_advance : GoodIn wsX1_readHead (wsV RX1 64 RX3 yX3_advance wsX3_advance) := goodIn_app (goodIn_of _ (by decide +kernel)) ggX1_readHead_X3_advance
set_option maxRecDepth 20000 in
theorem ggX1_readHead_X8_leaf : GoodIn wsX1_readHead wsX8_leaf := goodIn_r _ [57, 58, 59, 60, 56, 61, 62, 63, 64, 65, 66, 67, 68, 69, 70, 71, 72, 73, 115, 116, 117, 118, 119, 120, 121, 122, 123, 124, 125, 126, 127, 128, 129, 130, 131, 132, 133, 107, 108, 109, 110, 111, 112, 113, 114] rfl (by decide +kernel)
set_option maxRecDepth 20000 in
theorem gX1_readHead_X8_leaf : GoodIn wsX1_readHead (wsV RX1 67 RX8 yX8_leaf wsX8_leaf) := goodIn_app (goodIn_of _ (by decide +kernel)) ggX1_readHead_X8_leaf
set_option maxRecDepth 20000 in
theorem ggX1_readHead_X1_addValue : GoodIn wsX1_readHead wsX1_addValue := goodIn_r _ [78, 7, 79, 92, 93, 94, 95, 96, 97, 98, 99] rfl (by decide +kernel)
set_option maxRecDepth 20000 in
theorem gX1_readHead_X1_addValue : GoodIn wsX1_readHead (wsV RX1 72 RX1 yX1_addValue wsX1_addValue) := goodIn_app (goodIn_of _ (by decide +kernel)) ggX1_readHead_X1_addValue
set_option maxRecDepth 20000 in
theorem ggX1_readHead_X5_partsOf : GoodIn wsX1_readHead wsX5_partsOf := goodIn_r _ [83, 84, 107, 108, 109, 110, 111, 112, 113, 114] rfl (by decide +kernel)
set_option maxRecDepth 20000 in
theorem gX1_readHead_X5_partsOf : GoodIn wsX1_readHead (wsV RX1 76 RX5 yX5_partsOf wsX5_partsOf) := goodIn_app (goodIn_of _ (by decide +kernel)) ggX1_readHead_X5_partsOf
set_option maxRecDepth 20000 in
theorem ggX1_readHead_X9_codeFor : GoodIn wsX1_readHead wsX9_codeFor := goodIn_r _ [87] rfl (by decide +kernel)
set_option maxRecDepth 20000 in
theorem gX1_readHead_X9_codeFor_n79 : GoodIn wsX1_readHead (wsX9_codeFor) := ggX1_readHead_X9_codeFor
set_option maxRecDepth 20000 in
theorem ggX1_readHead_X3_isSign : GoodIn wsX1_readHead wsX3_isSign := goodIn_r _ [91, 28, 29, 100, 101, 102, 103, 104, 105, 106] rfl (by decide +kernel)
set_option maxRecDepth 20000 in
theorem gX1_readHead_X3_isSign : GoodIn wsX1_readHead (wsV RX1 83 RX3 yX3_isSign wsX3_isSign) := goodIn_app (goodIn_of _ (by decide +kernel)) ggX1_readHead_X3_isSign
theorem dX1_readHead_0 : decode cX1_readHead 0 = .ok (.aload_n 0, 1) := by decide +kernel
theorem dX1_readHead_1 : decode cX1_readHead 1 = .ok (.getfield 21, 3) := by decide +kernel
theorem dX1_readHead_4 : decode cX1_readHead 4 = .ok (.getfield 47, 3) := by decide +kernel
theorem dX1_readHead_7 : decode cX1_readHead 7 = .ok (.iconst 1, 1) := by decide +kernel
theorem dX1_readHead_8 : decode cX1_readHead 8 = .ok (.if_icmp .eq 5, 3) := by decide +kernel
theorem dX1_readHead_11 : decode cX1_readHead 11 = .ok (.iconst 0, 1) := by decide +kernel
theorem dX1_readHead_12 : decode cX1_readHead 12 = .ok (.ireturn, 1) := by decide +kernel
theorem dX1_readHead_13 : decode cX1_readHead 13 = .ok (.aload_n 0, 1) := by decide +kernel
theorem dX1_readHead_14 : decode cX1_readHead 14 = .ok (.getfield 25, 3) := by decide +kernel
theorem dX1_readHead_17 : decode cX1_readHead 17 = .ok (.aload_n 0, 1) := by decide +kernel
theorem dX1_readHead_18 : decode cX1_readHead 18 = .ok (.getfield 21, 3) := by decide +kernel
theorem dX1_readHead_21 : decode cX1_readHead 21 = .ok (.getfield 52, 3) := by decide +kernel
theorem dX1_readHead_24 : decode cX1_readHead 24 = .ok (.invokevirtual 55, 3) := by decide +kernel
theorem dX1_readHead_27 : decode cX1_readHead 27 = .ok (.istore_n 1, 1) := by decide +kernel
theorem dX1_readHead_28 : decode cX1_readHead 28 = .ok (.aload_n 0, 1) := by decide +kernel
theorem dX1_readHead_29 : decode cX1_readHead 29 = .ok (.getfield 25, 3) := by decide +kernel
theorem dX1_readHead_32 : decode cX1_readHead 32 = .ok (.aload_n 0, 1) := by decide +kernel
theorem dX1_readHead_33 : decode cX1_readHead 33 = .ok (.getfield 21, 3) := by decide +kernel
theorem dX1_readHead_36 : decode cX1_readHead 36 = .ok (.getfield 52, 3) := by decide +kernel
theorem dX1_readHead_39 : decode cX1_readHead 39 = .ok (.invokevirtual 61, 3) := by decide +kernel
theorem dX1_readHead_42 : decode cX1_readHead 42 = .ok (.istore_n 2, 1) := by decide +kernel
theorem dX1_readHead_43 : decode cX1_readHead 43 = .ok (.iload_n 1, 1) := by decide +kernel
theorem dX1_readHead_44 : decode cX1_readHead 44 = .ok (.ifCond .ge 9, 3) := by decide +kernel
theorem dX1_readHead_47 : decode cX1_readHead 47 = .ok (.iload_n 2, 1) := by decide +kernel
theorem dX1_readHead_48 : decode cX1_readHead 48 = .ok (.ifCond .ge 5, 3) := by decide +kernel
theorem dX1_readHead_51 : decode cX1_readHead 51 = .ok (.iconst 0, 1) := by decide +kernel
theorem dX1_readHead_52 : decode cX1_readHead 52 = .ok (.ireturn, 1) := by decide +kernel
theorem dX1_readHead_53 : decode cX1_readHead 53 = .ok (.aload_n 0, 1) := by decide +kernel
theorem dX1_readHead_54 : decode cX1_readHead 54 = .ok (.getfield 21, 3) := by decide +kernel
theorem dX1_readHead_57 : decode cX1_readHead 57 = .ok (.invokevirtual 64, 3) := by decide +kernel
theorem dX1_readHead_60 : decode cX1_readHead 60 = .ok (.iload_n 1, 1) := by decide +kernel
theorem dX1_readHead_61 : decode cX1_readHead 61 = .ok (.ifCond .lt 17, 3) := by decide +kernel
theorem dX1_readHead_64 : decode cX1_readHead 64 = .ok (.aload_n 0, 1) := by decide +kernel
theorem dX1_readHead_65 : decode cX1_readHead 65 = .ok (.aload_n 0, 1) := by decide +kernel
theorem dX1_readHead_66 : decode cX1_readHead 66 = .ok (.getfield 29, 3) := by decide +kernel
theorem dX1_readHead_69 : decode cX1_readHead 69 = .ok (.iload_n 1, 1) := by decide +kernel
theorem dX1_readHead_70 : decode cX1_readHead 70 = .ok (.invokevirtual 67, 3) := by decide +kernel
theorem dX1_readHead_73 : decode cX1_readHead 73 = .ok (.invokevirtual 72, 3) := by decide +kernel
theorem dX1_readHead_76 : decode cX1_readHead 76 = .ok (.iconst 1, 1) := by decide +kernel
theorem dX1_readHead_77 : decode cX1_readHead 77 = .ok (.ireturn, 1) := by decide +kernel
theorem dX1_readHead_78 : decode cX1_readHead 78 = .ok (.aload_n 0, 1) := by decide +kernel
theorem dX1_readHead_79 : decode cX1_readHead 79 = .ok (.getfield 25, 3) := by decide +kernel
theorem dX1_readHead_82 : decode cX1_readHead 82 = .ok (.iload_n 2, 1) := by decide +kernel
theorem dX1_readHead_83 : decode cX1_readHead 83 = .ok (.invokevirtual 76, 3) := by decide +kernel
theorem dX1_readHead_86 : decode cX1_readHead 86 = .ok (.ifCond .ne 21, 3) := by decide +kernel
theorem dX1_readHead_89 : decode cX1_readHead 89 = .ok (.aload_n 0, 1) := by decide +kernel
theorem dX1_readHead_90 : decode cX1_readHead 90 = .ok (.aload_n 0, 1) := by decide +kernel
theorem dX1_readHead_91 : decode cX1_readHead 91 = .ok (.getfield 29, 3) := by decide +kernel
theorem dX1_readHead_94 : decode cX1_readHead 94 = .ok (.iload_n 2, 1) := by decide +kernel
theorem dX1_readHead_95 : decode cX1_readHead 95 = .ok (.iconst 0, 1) := by decide +kernel
theorem dX1_readHead_96 : decode cX1_readHead 96 = .ok (.invokestatic 79, 3) := by decide +kernel
theorem dX1_readHead_99 : decode cX1_readHead 99 = .ok (.invokevirtual 67, 3) := by decide +kernel
theorem dX1_readHead_102 : decode cX1_readHead 102 = .ok (.invokevirtual 72, 3) := by decide +kernel
theorem dX1_readHead_105 : decode cX1_readHead 105 = .ok (.iconst 1, 1) := by decide +kernel
theorem dX1_readHead_106 : decode cX1_readHead 106 = .ok (.ireturn, 1) := by decide +kernel
theorem dX1_readHead_107 : decode cX1_readHead 107 = .ok (.aload_n 0, 1) := by decide +kernel
theorem dX1_readHead_108 : decode cX1_readHead 108 = .ok (.getfield 21, 3) := by decide +kernel
theorem dX1_readHead_111 : decode cX1_readHead 111 = .ok (.bipush 40, 2) := by decide +kernel
theorem dX1_readHead_113 : decode cX1_readHead 113 = .ok (.invokevirtual 83, 3) := by decide +kernel
theorem dX1_readHead_116 : decode cX1_readHead 116 = .ok (.ifCond .eq 20, 3) := by decide +kernel
theorem dX1_readHead_119 : decode cX1_readHead 119 = .ok (.aload_n 0, 1) := by decide +kernel
theorem dX1_readHead_120 : decode cX1_readHead 120 = .ok (.getfield 37, 3) := by decide +kernel
theorem dX1_readHead_123 : decode cX1_readHead 123 = .ok (.ifCond .lt 13, 3) := by decide +kernel
theorem dX1_readHead_126 : decode cX1_readHead 126 = .ok (.aload_n 0, 1) := by decide +kernel
theorem dX1_readHead_127 : decode cX1_readHead 127 = .ok (.getfield 37, 3) := by decide +kernel
theorem dX1_readHead_130 : decode cX1_readHead 130 = .ok (.sipush 400, 3) := by decide +kernel
theorem dX1_readHead_133 : decode cX1_readHead 133 = .ok (.if_icmp .lt 5, 3) := by decide +kernel
theorem dX1_readHead_136 : decode cX1_readHead 136 = .ok (.iconst 0, 1) := by decide +kernel
theorem dX1_readHead_137 : decode cX1_readHead 137 = .ok (.ireturn, 1) := by decide +kernel
theorem dX1_readHead_138 : decode cX1_readHead 138 = .ok (.aload_n 0, 1) := by decide +kernel
theorem dX1_readHead_139 : decode cX1_readHead 139 = .ok (.getfield 15, 3) := by decide +kernel
theorem dX1_readHead_142 : decode cX1_readHead 142 = .ok (.aload_n 0, 1) := by decide +kernel
theorem dX1_readHead_143 : decode cX1_readHead 143 = .ok (.getfield 37, 3) := by decide +kernel
theorem dX1_readHead_146 : decode cX1_readHead 146 = .ok (.iload_n 2, 1) := by decide +kernel
theorem dX1_readHead_147 : decode cX1_readHead 147 = .ok (.iastore, 1) := by decide +kernel
theorem dX1_readHead_148 : decode cX1_readHead 148 = .ok (.aload_n 0, 1) := by decide +kernel
theorem dX1_readHead_149 : decode cX1_readHead 149 = .ok (.getfield 18, 3) := by decide +kernel
theorem dX1_readHead_152 : decode cX1_readHead 152 = .ok (.aload_n 0, 1) := by decide +kernel
theorem dX1_readHead_153 : decode cX1_readHead 153 = .ok (.getfield 37, 3) := by decide +kernel
theorem dX1_readHead_156 : decode cX1_readHead 156 = .ok (.aload_n 0, 1) := by decide +kernel
theorem dX1_readHead_157 : decode cX1_readHead 157 = .ok (.getfield 33, 3) := by decide +kernel
theorem dX1_readHead_160 : decode cX1_readHead 160 = .ok (.iastore, 1) := by decide +kernel
theorem dX1_readHead_161 : decode cX1_readHead 161 = .ok (.aload_n 0, 1) := by decide +kernel
theorem dX1_readHead_162 : decode cX1_readHead 162 = .ok (.dup, 1) := by decide +kernel
theorem dX1_readHead_163 : decode cX1_readHead 163 = .ok (.getfield 37, 3) := by decide +kernel
theorem dX1_readHead_166 : decode cX1_readHead 166 = .ok (.iconst 1, 1) := by decide +kernel
theorem dX1_readHead_167 : decode cX1_readHead 167 = .ok (.iadd, 1) := by decide +kernel
theorem dX1_readHead_168 : decode cX1_readHead 168 = .ok (.putfield 37, 3) := by decide +kernel
theorem dX1_readHead_171 : decode cX1_readHead 171 = .ok (.aload_n 0, 1) := by decide +kernel
theorem dX1_readHead_172 : decode cX1_readHead 172 = .ok (.getfield 21, 3) := by decide +kernel
theorem dX1_readHead_175 : decode cX1_readHead 175 = .ok (.invokevirtual 64, 3) := by decide +kernel
theorem dX1_readHead_178 : decode cX1_readHead 178 = .ok (.iconst 1, 1) := by decide +kernel
theorem dX1_readHead_179 : decode cX1_readHead 179 = .ok (.ireturn, 1) := by decide +kernel
set_option maxRecDepth 20000 in
theorem ggX1_closeAll_X5_partsOf : GoodIn wsX1_closeAll wsX5_partsOf := goodIn_r _ [11, 12, 124, 125, 126, 127, 128, 129, 130, 131] rfl (by decide +kernel)
set_option maxRecDepth 20000 in
theorem gX1_closeAll_X5_partsOf : GoodIn wsX1_closeAll (wsV RX1 76 RX5 yX5_partsOf wsX5_partsOf) := goodIn_app (goodIn_of _ (by decide +kernel)) ggX1_closeAll_X5_partsOf
set_option maxRecDepth 20000 in
theorem ggX1_closeAll_X5_kindOf : GoodIn wsX1_closeAll wsX5_kindOf := goodIn_r _ [16, 17, 124, 125, 126, 127, 128, 129, 130, 131] rfl (by decide +kernel)
set_option maxRecDepth 20000 in
theorem gX1_closeAll_X5_kindOf : GoodIn wsX1_closeAll (wsV RX1 87 RX5 yX5_kindOf wsX5_kindOf) := goodIn_app (goodIn_of _ (by decide +kernel)) ggX1_closeAll_X5_kindOf
set_option maxRecDepth 20000 in
theorem ggX1_closeAll_X3_isSign : GoodIn wsX1_closeAll wsX3_isSign := goodIn_r _ [22, 23, 24, 132, 133, 134, 135, 136, 137, 138] rfl (by decide +kernel)
set_option maxRecDepth 20000 in
theorem gX1_closeAll_X3_isSign : GoodIn wsX1_closeAll (wsV RX1 83 RX3 yX3_isSign wsX3_isSign) := goodIn_app (goodIn_of _ (by decide +kernel)) ggX1_closeAll_X3_isSign
set_option maxRecDepth 20000 in
theorem ggX1_closeAll_X3_advance : GoodIn wsX1_closeAll wsX3_advance := goodIn_r _ [28, 29, 30, 23, 24, 31, 32, 33, 21, 34, 35, 36, 37, 38, 39, 40, 41, 42, 43, 44, 45, 46, 47, 48, 49, 50, 51, 52, 53, 132, 133, 134, 135, 136, 137, 138] rfl (by decide +kernel)
set_option maxRecDepth 20000 in
theorem gX1_closeAll_X3_advance : GoodIn wsX1_closeAll (wsV RX1 64 RX3 yX3_advance wsX3_advance) := goodIn_app (goodIn_of _ (by decide +kernel)) ggX1_closeAll_X3_advance
set_option maxRecDepth 20000 in
theorem ggX1_closeAll_X1_closeLast : GoodIn wsX1_closeAll wsX1_closeLast := goodIn_r _ [58, 1, 4, 59, 3, 60, 61, 62, 63, 64, 65, 66, 67, 68, 69, 70, 71, 72, 14, 15, 10, 16, 17, 73, 74, 75, 76, 77, 78, 79, 80, 81, 82, 83, 84, 85, 86, 87, 88, 89, 90, 91, 92, 93, 94, 95, 96, 97, 98, 99, 100, 101, 102, 103, 104, 105, 106, 107, 108, 109, 110, 111, 112, 113, 114, 57, 115, 116, 117, 118, 119, 120, 121, 122, 123, 139, 140, 141, 142, 143, 144, 145, 146, 147, 148, 149, 150, 151, 152, 153, 154, 155, 156, 157, 124, 125, 126, 127, 128, 129, 130, 131] rfl (by decide +kernel)
set_option maxRecDepth 20000 in
theorem gX1_closeAll_X1_closeLast : GoodIn wsX1_closeAll (wsV RX1 90 RX1 yX1_closeLast wsX1_closeLast) := goodIn_app (goodIn_of _ (by decide +kernel)) ggX1_closeAll_X1_closeLast
theorem dX1_closeAll_0 : decode cX1_closeAll 0 = .ok (.iconst 0, 1) := by decide +kernel
theorem dX1_closeAll_1 : decode cX1_closeAll 1 = .ok (.istore_n 1, 1) := by decide +kernel
theorem dX1_closeAll_2 : decode cX1_closeAll 2 = .ok (.iload_n 1, 1) := by decide +kernel
theorem dX1_closeAll_3 : decode cX1_closeAll 3 = .ok (.sipush 400, 3) := by decide +kernel
theorem dX1_closeAll_6 : decode cX1_closeAll 6 = .ok (.if_icmp .ge 145, 3) := by decide +kernel
theorem dX1_closeAll_9 : decode cX1_closeAll 9 = .ok (.aload_n 0, 1) := by decide +kernel
theorem dX1_closeAll_10 : decode cX1_closeAll 10 = .ok (.getfield 37, 3) := by decide +kernel
theorem dX1_closeAll_13 : decode cX1_closeAll 13 = .ok (.ifCond .le 138, 3) := by decide +kernel
theorem dX1_closeAll_16 : decode cX1_closeAll 16 = .ok (.aload_n 0, 1) := by decide +kernel
theorem dX1_closeAll_17 : decode cX1_closeAll 17 = .ok (.getfield 37, 3) := by decide +kernel
theorem dX1_closeAll_20 : decode cX1_closeAll 20 = .ok (.sipush 400, 3) := by decide +kernel
theorem dX1_closeAll_23 : decode cX1_closeAll 23 = .ok (.if_icmp .gt 128, 3) := by decide +kernel
theorem dX1_closeAll_26 : decode cX1_closeAll 26 = .ok (.aload_n 0, 1) := by decide +kernel
theorem dX1_closeAll_27 : decode cX1_closeAll 27 = .ok (.getfield 15, 3) := by decide +kernel
theorem dX1_closeAll_30 : decode cX1_closeAll 30 = .ok (.aload_n 0, 1) := by decide +kernel
theorem dX1_closeAll_31 : decode cX1_closeAll 31 = .ok (.getfield 37, 3) := by decide +kernel
theorem dX1_closeAll_34 : decode cX1_closeAll 34 = .ok (.iconst 1, 1) := by decide +kernel
theorem dX1_closeAll_35 : decode cX1_closeAll 35 = .ok (.isub, 1) := by decide +kernel
theorem dX1_closeAll_36 : decode cX1_closeAll 36 = .ok (.iaload, 1) := by decide +kernel
theorem dX1_closeAll_37 : decode cX1_closeAll 37 = .ok (.istore_n 2, 1) := by decide +kernel
theorem dX1_closeAll_38 : decode cX1_closeAll 38 = .ok (.aload_n 0, 1) := by decide +kernel
theorem dX1_closeAll_39 : decode cX1_closeAll 39 = .ok (.getfield 33, 3) := by decide +kernel
theorem dX1_closeAll_42 : decode cX1_closeAll 42 = .ok (.aload_n 0, 1) := by decide +kernel
theorem dX1_closeAll_43 : decode cX1_closeAll 43 = .ok (.getfield 18, 3) := by decide +kernel
theorem dX1_closeAll_46 : decode cX1_closeAll 46 = .ok (.aload_n 0, 1) := by decide +kernel
theorem dX1_closeAll_47 : decode cX1_closeAll 47 = .ok (.getfield 37, 3) := by decide +kernel
theorem dX1_closeAll_50 : decode cX1_closeAll 50 = .ok (.iconst 1, 1) := by decide +kernel
theorem dX1_closeAll_51 : decode cX1_closeAll 51 = .ok (.isub, 1) := by decide +kernel
theorem dX1_closeAll_52 : decode cX1_closeAll 52 = .ok (.iaload, 1) := by decide +kernel
theorem dX1_closeAll_53 : decode cX1_closeAll 53 = .ok (.isub, 1) := by decide +kernel
theorem dX1_closeAll_54 : decode cX1_closeAll 54 = .ok (.istore_n 3, 1) := by decide +kernel
theorem dX1_closeAll_55 : decode cX1_closeAll 55 = .ok (.aload_n 0, 1) := by decide +kernel
theorem dX1_closeAll_56 : decode cX1_closeAll 56 = .ok (.getfield 25, 3) := by decide +kernel
theorem dX1_closeAll_59 : decode cX1_closeAll 59 = .ok (.iload_n 2, 1) := by decide +kernel
theorem dX1_closeAll_60 : decode cX1_closeAll 60 = .ok (.invokevirtual 76, 3) := by decide +kernel
theorem dX1_closeAll_63 : decode cX1_closeAll 63 = .ok (.istore 4, 2) := by decide +kernel
theorem dX1_closeAll_65 : decode cX1_closeAll 65 = .ok (.aload_n 0, 1) := by decide +kernel
theorem dX1_closeAll_66 : decode cX1_closeAll 66 = .ok (.getfield 25, 3) := by decide +kernel
theorem dX1_closeAll_69 : decode cX1_closeAll 69 = .ok (.iload_n 2, 1) := by decide +kernel
theorem dX1_closeAll_70 : decode cX1_closeAll 70 = .ok (.invokevirtual 87, 3) := by decide +kernel
theorem dX1_closeAll_73 : decode cX1_closeAll 73 = .ok (.iconst 2, 1) := by decide +kernel
theorem dX1_closeAll_74 : decode cX1_closeAll 74 = .ok (.if_icmp .ne 8, 3) := by decide +kernel
theorem dX1_closeAll_77 : decode cX1_closeAll 77 = .ok (.bipush 9, 2) := by decide +kernel
theorem dX1_closeAll_79 : decode cX1_closeAll 79 = .ok (.goto 5, 3) := by decide +kernel
theorem dX1_closeAll_82 : decode cX1_closeAll 82 = .ok (.iload 4, 2) := by decide +kernel
theorem dX1_closeAll_84 : decode cX1_closeAll 84 = .ok (.istore 5, 2) := by decide +kernel
theorem dX1_closeAll_86 : decode cX1_closeAll 86 = .ok (.iload_n 3, 1) := by decide +kernel
theorem dX1_closeAll_87 : decode cX1_closeAll 87 = .ok (.iload 5, 2) := by decide +kernel
theorem dX1_closeAll_89 : decode cX1_closeAll 89 = .ok (.if_icmp .ge 24, 3) := by decide +kernel
theorem dX1_closeAll_92 : decode cX1_closeAll 92 = .ok (.aload_n 0, 1) := by decide +kernel
theorem dX1_closeAll_93 : decode cX1_closeAll 93 = .ok (.getfield 21, 3) := by decide +kernel
theorem dX1_closeAll_96 : decode cX1_closeAll 96 = .ok (.bipush 44, 2) := by decide +kernel
theorem dX1_closeAll_98 : decode cX1_closeAll 98 = .ok (.invokevirtual 83, 3) := by decide +kernel
theorem dX1_closeAll_101 : decode cX1_closeAll 101 = .ok (.ifCond .eq 12, 3) := by decide +kernel
theorem dX1_closeAll_104 : decode cX1_closeAll 104 = .ok (.aload_n 0, 1) := by decide +kernel
theorem dX1_closeAll_105 : decode cX1_closeAll 105 = .ok (.getfield 21, 3) := by decide +kernel
theorem dX1_closeAll_108 : decode cX1_closeAll 108 = .ok (.invokevirtual 64, 3) := by decide +kernel
theorem dX1_closeAll_111 : decode cX1_closeAll 111 = .ok (.iconst 1, 1) := by decide +kernel
theorem dX1_closeAll_112 : decode cX1_closeAll 112 = .ok (.ireturn, 1) := by decide +kernel
theorem dX1_closeAll_113 : decode cX1_closeAll 113 = .ok (.iload_n 3, 1) := by decide +kernel
theorem dX1_closeAll_114 : decode cX1_closeAll 114 = .ok (.iload 4, 2) := by decide +kernel
theorem dX1_closeAll_116 : decode cX1_closeAll 116 = .ok (.if_icmp .lt 15, 3) := by decide +kernel
theorem dX1_closeAll_119 : decode cX1_closeAll 119 = .ok (.aload_n 0, 1) := by decide +kernel
theorem dX1_closeAll_120 : decode cX1_closeAll 120 = .ok (.getfield 21, 3) := by decide +kernel
theorem dX1_closeAll_123 : decode cX1_closeAll 123 = .ok (.bipush 41, 2) := by decide +kernel
theorem dX1_closeAll_125 : decode cX1_closeAll 125 = .ok (.invokevirtual 83, 3) := by decide +kernel
theorem dX1_closeAll_128 : decode cX1_closeAll 128 = .ok (.ifCond .ne 5, 3) := by decide +kernel
theorem dX1_closeAll_131 : decode cX1_closeAll 131 = .ok (.iconst 0, 1) := by decide +kernel
theorem dX1_closeAll_132 : decode cX1_closeAll 132 = .ok (.ireturn, 1) := by decide +kernel
theorem dX1_closeAll_133 : decode cX1_closeAll 133 = .ok (.aload_n 0, 1) := by decide +kernel
theorem dX1_closeAll_134 : decode cX1_closeAll 134 = .ok (.getfield 21, 3) := by decide +kernel
theorem dX1_closeAll_137 : decode cX1_closeAll 137 = .ok (.invokevirtual 64, 3) := by decide +kernel
theorem dX1_closeAll_140 : decode cX1_closeAll 140 = .ok (.aload_n 0, 1) := by decide +kernel
theorem dX1_closeAll_141 : decode cX1_closeAll 141 = .ok (.iload_n 2, 1) := by decide +kernel
theorem dX1_closeAll_142 : decode cX1_closeAll 142 = .ok (.invokevirtual 90, 3) := by decide +kernel
theorem dX1_closeAll_145 : decode cX1_closeAll 145 = .ok (.iinc 1 1, 3) := by decide +kernel
theorem dX1_closeAll_148 : decode cX1_closeAll 148 = .ok (.goto (-146), 3) := by decide +kernel
theorem dX1_closeAll_151 : decode cX1_closeAll 151 = .ok (.iconst 1, 1) := by decide +kernel
theorem dX1_closeAll_152 : decode cX1_closeAll 152 = .ok (.ireturn, 1) := by decide +kernel
set_option maxRecDepth 20000 in
theorem ggX1_closeLast_X8_begin : GoodIn wsX1_closeLast wsX8_begin := goodIn_r _ [10, 11, 12, 13, 14, 15, 16, 17, 18, 19, 20, 21, 22, 23, 24, 25, 26, 27, 75, 76, 77, 78, 79, 80, 81, 82, 83, 84, 85, 86, 87, 88, 89, 90, 91, 92, 93, 94, 95, 96, 97, 98, 99, 100, 101] rfl (by decide +kernel)
set_option maxRecDepth 20000 in
theorem gX1_closeLast_X8_begin : GoodIn wsX1_closeLast (wsV RX1 93 RX8 yX8_begin wsX8_begin) := goodIn_app (goodIn_of _ (by decide +kernel)) ggX1_closeLast_X8_begin
set_option maxRecDepth 20000 in
theorem ggX1_closeLast_X8_lay : GoodIn wsX1_closeLast wsX8_lay := goodIn_r _ [31, 32, 12, 33, 15, 13, 16, 34, 11, 35, 36, 37, 38, 9, 39, 40, 41, 42, 43, 75, 76, 77, 78, 79, 80, 81, 82, 83, 84, 85, 86, 87, 88, 89, 90, 91, 92, 93] rfl (by decide +kernel)
set_option maxRecDepth 20000 in
theorem gX1_closeLast_X8_lay : GoodIn wsX1_closeLast (wsV RX1 96 RX8 yX8_lay wsX8_lay) := goodIn_app (goodIn_of _ (by decide +kernel)) ggX1_closeLast_X8_lay
set_option maxRecDepth 20000 in
theorem ggX1_closeLast_X8_close : GoodIn wsX1_closeLast wsX8_close := goodIn_r _ [47, 12, 15, 11, 35, 16, 13, 48, 49, 50, 9, 51, 32, 52, 53, 54, 33, 34, 55, 56, 14, 57, 58, 59, 60, 61, 75, 76, 77, 78, 79, 80, 81, 82, 83, 84, 85, 86, 87, 88, 89, 90, 91, 92, 93, 94, 95, 96, 97, 98, 99, 100, 101] rfl (by decide +kernel)
set_option maxRecDepth 20000 in
theorem gX1_closeLast_X8_close : GoodIn wsX1_closeLast (wsV RX1 99 RX8 yX8_close wsX8_close) := goodIn_app (goodIn_of _ (by decide +kernel)) ggX1_closeLast_X8_close
set_option maxRecDepth 20000 in
theorem ggX1_closeLast_X1_addValue : GoodIn wsX1_closeLast wsX1_addValue := goodIn_r _ [66, 4, 5, 67, 68, 69, 70, 71, 72, 73, 74] rfl (by decide +kernel)
set_option maxRecDepth 20000 in
theorem gX1_closeLast_X1_addValue : GoodIn wsX1_closeLast (wsV RX1 72 RX1 yX1_addValue wsX1_addValue) := goodIn_app (goodIn_of _ (by decide +kernel)) ggX1_closeLast_X1_addValue
theorem dX1_closeLast_0 : decode cX1_closeLast 0 = .ok (.aload_n 0, 1) := by decide +kernel
theorem dX1_closeLast_1 : decode cX1_closeLast 1 = .ok (.dup, 1) := by decide +kernel
theorem dX1_closeLast_2 : decode cX1_closeLast 2 = .ok (.getfield 37, 3) := by decide +kernel
theorem dX1_closeLast_5 : decode cX1_closeLast 5 = .ok (.iconst 1, 1) := by decide +kernel
theorem dX1_closeLast_6 : decode cX1_closeLast 6 = .ok (.isub, 1) := by decide +kernel
theorem dX1_closeLast_7 : decode cX1_closeLast 7 = .ok (.putfield 37, 3) := by decide +kernel
theorem dX1_closeLast_10 : decode cX1_closeLast 10 = .ok (.aload_n 0, 1) := by decide +kernel
theorem dX1_closeLast_11 : decode cX1_closeLast 11 = .ok (.getfield 37, 3) := by decide +kernel
theorem dX1_closeLast_14 : decode cX1_closeLast 14 = .ok (.ifCond .lt 25, 3) := by decide +kernel
theorem dX1_closeLast_17 : decode cX1_closeLast 17 = .ok (.aload_n 0, 1) := by decide +kernel
theorem dX1_closeLast_18 : decode cX1_closeLast 18 = .ok (.getfield 37, 3) := by decide +kernel
theorem dX1_closeLast_21 : decode cX1_closeLast 21 = .ok (.sipush 400, 3) := by decide +kernel
theorem dX1_closeLast_24 : decode cX1_closeLast 24 = .ok (.if_icmp .ge 15, 3) := by decide +kernel
theorem dX1_closeLast_27 : decode cX1_closeLast 27 = .ok (.aload_n 0, 1) := by decide +kernel
theorem dX1_closeLast_28 : decode cX1_closeLast 28 = .ok (.getfield 18, 3) := by decide +kernel
theorem dX1_closeLast_31 : decode cX1_closeLast 31 = .ok (.aload_n 0, 1) := by decide +kernel
theorem dX1_closeLast_32 : decode cX1_closeLast 32 = .ok (.getfield 37, 3) := by decide +kernel
theorem dX1_closeLast_35 : decode cX1_closeLast 35 = .ok (.iaload, 1) := by decide +kernel
theorem dX1_closeLast_36 : decode cX1_closeLast 36 = .ok (.goto 4, 3) := by decide +kernel
theorem dX1_closeLast_39 : decode cX1_closeLast 39 = .ok (.iconst 0, 1) := by decide +kernel
theorem dX1_closeLast_40 : decode cX1_closeLast 40 = .ok (.istore_n 2, 1) := by decide +kernel
theorem dX1_closeLast_41 : decode cX1_closeLast 41 = .ok (.aload_n 0, 1) := by decide +kernel
theorem dX1_closeLast_42 : decode cX1_closeLast 42 = .ok (.getfield 29, 3) := by decide +kernel
theorem dX1_closeLast_45 : decode cX1_closeLast 45 = .ok (.iload_n 1, 1) := by decide +kernel
theorem dX1_closeLast_46 : decode cX1_closeLast 46 = .ok (.invokevirtual 93, 3) := by decide +kernel
theorem dX1_closeLast_49 : decode cX1_closeLast 49 = .ok (.iload_n 2, 1) := by decide +kernel
theorem dX1_closeLast_50 : decode cX1_closeLast 50 = .ok (.istore_n 3, 1) := by decide +kernel
theorem dX1_closeLast_51 : decode cX1_closeLast 51 = .ok (.iload_n 3, 1) := by decide +kernel
theorem dX1_closeLast_52 : decode cX1_closeLast 52 = .ok (.aload_n 0, 1) := by decide +kernel
theorem dX1_closeLast_53 : decode cX1_closeLast 53 = .ok (.getfield 33, 3) := by decide +kernel
theorem dX1_closeLast_56 : decode cX1_closeLast 56 = .ok (.if_icmp .ge 33, 3) := by decide +kernel
theorem dX1_closeLast_59 : decode cX1_closeLast 59 = .ok (.iload_n 3, 1) := by decide +kernel
theorem dX1_closeLast_60 : decode cX1_closeLast 60 = .ok (.ifCond .lt 29, 3) := by decide +kernel
theorem dX1_closeLast_63 : decode cX1_closeLast 63 = .ok (.iload_n 3, 1) := by decide +kernel
theorem dX1_closeLast_64 : decode cX1_closeLast 64 = .ok (.sipush 400, 3) := by decide +kernel
theorem dX1_closeLast_67 : decode cX1_closeLast 67 = .ok (.if_icmp .ge 22, 3) := by decide +kernel
theorem dX1_closeLast_70 : decode cX1_closeLast 70 = .ok (.aload_n 0, 1) := by decide +kernel
theorem dX1_closeLast_71 : decode cX1_closeLast 71 = .ok (.getfield 29, 3) := by decide +kernel
theorem dX1_closeLast_74 : decode cX1_closeLast 74 = .ok (.aload_n 0, 1) := by decide +kernel
theorem dX1_closeLast_75 : decode cX1_closeLast 75 = .ok (.getfield 9, 3) := by decide +kernel
theorem dX1_closeLast_78 : decode cX1_closeLast 78 = .ok (.iload_n 3, 1) := by decide +kernel
theorem dX1_closeLast_79 : decode cX1_closeLast 79 = .ok (.iaload, 1) := by decide +kernel
theorem dX1_closeLast_80 : decode cX1_closeLast 80 = .ok (.invokevirtual 96, 3) := by decide +kernel
theorem dX1_closeLast_83 : decode cX1_closeLast 83 = .ok (.iinc 3 1, 3) := by decide +kernel
theorem dX1_closeLast_86 : decode cX1_closeLast 86 = .ok (.goto (-35), 3) := by decide +kernel
theorem dX1_closeLast_89 : decode cX1_closeLast 89 = .ok (.aload_n 0, 1) := by decide +kernel
theorem dX1_closeLast_90 : decode cX1_closeLast 90 = .ok (.iload_n 2, 1) := by decide +kernel
theorem dX1_closeLast_91 : decode cX1_closeLast 91 = .ok (.putfield 33, 3) := by decide +kernel
theorem dX1_closeLast_94 : decode cX1_closeLast 94 = .ok (.aload_n 0, 1) := by decide +kernel
theorem dX1_closeLast_95 : decode cX1_closeLast 95 = .ok (.aload_n 0, 1) := by decide +kernel
theorem dX1_closeLast_96 : decode cX1_closeLast 96 = .ok (.getfield 29, 3) := by decide +kernel
theorem dX1_closeLast_99 : decode cX1_closeLast 99 = .ok (.invokevirtual 99, 3) := by decide +kernel
theorem dX1_closeLast_102 : decode cX1_closeLast 102 = .ok (.invokevirtual 72, 3) := by decide +kernel
theorem dX1_closeLast_105 : decode cX1_closeLast 105 = .ok (.return_, 1) := by decide +kernel
theorem dX1_addValue_0 : decode cX1_addValue 0 = .ok (.aload_n 0, 1) := by decide +kernel
theorem dX1_addValue_1 : decode cX1_addValue 1 = .ok (.getfield 33, 3) := by decide +kernel
theorem dX1_addValue_4 : decode cX1_addValue 4 = .ok (.ifCond .lt 33, 3) := by decide +kernel
theorem dX1_addValue_7 : decode cX1_addValue 7 = .ok (.aload_n 0, 1) := by decide +kernel
theorem dX1_addValue_8 : decode cX1_addValue 8 = .ok (.getfield 33, 3) := by decide +kernel
theorem dX1_addValue_11 : decode cX1_addValue 11 = .ok (.sipush 400, 3) := by decide +kernel
theorem dX1_addValue_14 : decode cX1_addValue 14 = .ok (.if_icmp .ge 23, 3) := by decide +kernel
theorem dX1_addValue_17 : decode cX1_addValue 17 = .ok (.aload_n 0, 1) := by decide +kernel
theorem dX1_addValue_18 : decode cX1_addValue 18 = .ok (.getfield 9, 3) := by decide +kernel
theorem dX1_addValue_21 : decode cX1_addValue 21 = .ok (.aload_n 0, 1) := by decide +kernel
theorem dX1_addValue_22 : decode cX1_addValue 22 = .ok (.getfield 33, 3) := by decide +kernel
theorem dX1_addValue_25 : decode cX1_addValue 25 = .ok (.iload_n 1, 1) := by decide +kernel
theorem dX1_addValue_26 : decode cX1_addValue 26 = .ok (.iastore, 1) := by decide +kernel
theorem dX1_addValue_27 : decode cX1_addValue 27 = .ok (.aload_n 0, 1) := by decide +kernel
theorem dX1_addValue_28 : decode cX1_addValue 28 = .ok (.dup, 1) := by decide +kernel
theorem dX1_addValue_29 : decode cX1_addValue 29 = .ok (.getfield 33, 3) := by decide +kernel
theorem dX1_addValue_32 : decode cX1_addValue 32 = .ok (.iconst 1, 1) := by decide +kernel
theorem dX1_addValue_33 : decode cX1_addValue 33 = .ok (.iadd, 1) := by decide +kernel
theorem dX1_addValue_34 : decode cX1_addValue 34 = .ok (.putfield 33, 3) := by decide +kernel
theorem dX1_addValue_37 : decode cX1_addValue 37 = .ok (.return_, 1) := by decide +kernel
