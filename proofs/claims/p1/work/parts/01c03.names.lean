theorem dX3_init_0 : decode cX3_init 0 = .ok (.aload_n 0, 1) := by decide +kernel
theorem dX3_init_1 : decode cX3_init 1 = .ok (.invokespecial 3, 3) := by decide +kernel
theorem dX3_init_4 : decode cX3_init 4 = .ok (.aload_n 0, 1) := by decide +kernel
theorem dX3_init_5 : decode cX3_init 5 = .ok (.sipush 400, 3) := by decide +kernel
theorem dX3_init_8 : decode cX3_init 8 = .ok (.newarray .int, 2) := by decide +kernel
theorem dX3_init_10 : decode cX3_init 10 = .ok (.putfield 9, 3) := by decide +kernel
theorem dX3_init_13 : decode cX3_init 13 = .ok (.return_, 1) := by decide +kernel
set_option maxRecDepth 20000 in
theorem ggX3_append_X3_write : GoodIn wsX3_append wsX3_write := goodIn_r _ [6, 1, 7, 8, 9, 10, 11, 12, 13, 14] (by decide +kernel) (by decide +kernel)
set_option maxRecDepth 20000 in
theorem gX3_append_X3_write : GoodIn wsX3_append (wsV RX3 19 RX3 yX3_write wsX3_write) := goodIn_app (goodIn_of _ (by decide +kernel)) ggX3_append_X3_write
theorem dX3_append_0 : decode cX3_append 0 = .ok (.aload_n 0, 1) := by decide +kernel
theorem dX3_append_1 : decode cX3_append 1 = .ok (.getfield 15, 3) := by decide +kernel
theorem dX3_append_4 : decode cX3_append 4 = .ok (.sipush 380, 3) := by decide +kernel
theorem dX3_append_7 : decode cX3_append 7 = .ok (.if_icmp .le 5, 3) := by decide +kernel
theorem dX3_append_10 : decode cX3_append 10 = .ok (.iconst (-1), 1) := by decide +kernel
theorem dX3_append_11 : decode cX3_append 11 = .ok (.ireturn, 1) := by decide +kernel
theorem dX3_append_12 : decode cX3_append 12 = .ok (.aload_n 0, 1) := by decide +kernel
theorem dX3_append_13 : decode cX3_append 13 = .ok (.iload_n 1, 1) := by decide +kernel
theorem dX3_append_14 : decode cX3_append 14 = .ok (.invokevirtual 19, 3) := by decide +kernel
theorem dX3_append_17 : decode cX3_append 17 = .ok (.aload_n 0, 1) := by decide +kernel
theorem dX3_append_18 : decode cX3_append 18 = .ok (.iload_n 2, 1) := by decide +kernel
theorem dX3_append_19 : decode cX3_append 19 = .ok (.invokevirtual 19, 3) := by decide +kernel
theorem dX3_append_22 : decode cX3_append 22 = .ok (.aload_n 0, 1) := by decide +kernel
theorem dX3_append_23 : decode cX3_append 23 = .ok (.iload_n 3, 1) := by decide +kernel
theorem dX3_append_24 : decode cX3_append 24 = .ok (.invokevirtual 19, 3) := by decide +kernel
theorem dX3_append_27 : decode cX3_append 27 = .ok (.aload_n 0, 1) := by decide +kernel
theorem dX3_append_28 : decode cX3_append 28 = .ok (.iload 4, 2) := by decide +kernel
theorem dX3_append_30 : decode cX3_append 30 = .ok (.invokevirtual 19, 3) := by decide +kernel
theorem dX3_append_33 : decode cX3_append 33 = .ok (.aload_n 0, 1) := by decide +kernel
theorem dX3_append_34 : decode cX3_append 34 = .ok (.iload 5, 2) := by decide +kernel
theorem dX3_append_36 : decode cX3_append 36 = .ok (.invokevirtual 19, 3) := by decide +kernel
theorem dX3_append_39 : decode cX3_append 39 = .ok (.aload_n 0, 1) := by decide +kernel
theorem dX3_append_40 : decode cX3_append 40 = .ok (.getfield 15, 3) := by decide +kernel
theorem dX3_append_43 : decode cX3_append 43 = .ok (.ireturn, 1) := by decide +kernel
theorem dX3_write_0 : decode cX3_write 0 = .ok (.bipush 24, 2) := by decide +kernel
theorem dX3_write_2 : decode cX3_write 2 = .ok (.istore_n 2, 1) := by decide +kernel
theorem dX3_write_3 : decode cX3_write 3 = .ok (.iload_n 2, 1) := by decide +kernel
theorem dX3_write_4 : decode cX3_write 4 = .ok (.ifCond .lt 54, 3) := by decide +kernel
theorem dX3_write_7 : decode cX3_write 7 = .ok (.aload_n 0, 1) := by decide +kernel
theorem dX3_write_8 : decode cX3_write 8 = .ok (.getfield 15, 3) := by decide +kernel
theorem dX3_write_11 : decode cX3_write 11 = .ok (.ifCond .lt 41, 3) := by decide +kernel
theorem dX3_write_14 : decode cX3_write 14 = .ok (.aload_n 0, 1) := by decide +kernel
theorem dX3_write_15 : decode cX3_write 15 = .ok (.getfield 15, 3) := by decide +kernel
theorem dX3_write_18 : decode cX3_write 18 = .ok (.aload_n 0, 1) := by decide +kernel
theorem dX3_write_19 : decode cX3_write 19 = .ok (.getfield 9, 3) := by decide +kernel
theorem dX3_write_22 : decode cX3_write 22 = .ok (.arraylength, 1) := by decide +kernel
theorem dX3_write_23 : decode cX3_write 23 = .ok (.if_icmp .ge 29, 3) := by decide +kernel
theorem dX3_write_26 : decode cX3_write 26 = .ok (.aload_n 0, 1) := by decide +kernel
theorem dX3_write_27 : decode cX3_write 27 = .ok (.getfield 9, 3) := by decide +kernel
theorem dX3_write_30 : decode cX3_write 30 = .ok (.aload_n 0, 1) := by decide +kernel
theorem dX3_write_31 : decode cX3_write 31 = .ok (.getfield 15, 3) := by decide +kernel
theorem dX3_write_34 : decode cX3_write 34 = .ok (.iload_n 1, 1) := by decide +kernel
theorem dX3_write_35 : decode cX3_write 35 = .ok (.iload_n 2, 1) := by decide +kernel
theorem dX3_write_36 : decode cX3_write 36 = .ok (.iushr, 1) := by decide +kernel
theorem dX3_write_37 : decode cX3_write 37 = .ok (.sipush 255, 3) := by decide +kernel
theorem dX3_write_40 : decode cX3_write 40 = .ok (.iand, 1) := by decide +kernel
theorem dX3_write_41 : decode cX3_write 41 = .ok (.iastore, 1) := by decide +kernel
theorem dX3_write_42 : decode cX3_write 42 = .ok (.aload_n 0, 1) := by decide +kernel
theorem dX3_write_43 : decode cX3_write 43 = .ok (.dup, 1) := by decide +kernel
theorem dX3_write_44 : decode cX3_write 44 = .ok (.getfield 15, 3) := by decide +kernel
theorem dX3_write_47 : decode cX3_write 47 = .ok (.iconst 1, 1) := by decide +kernel
theorem dX3_write_48 : decode cX3_write 48 = .ok (.iadd, 1) := by decide +kernel
theorem dX3_write_49 : decode cX3_write 49 = .ok (.putfield 15, 3) := by decide +kernel
theorem dX3_write_52 : decode cX3_write 52 = .ok (.iinc 2 (-8), 3) := by decide +kernel
theorem dX3_write_55 : decode cX3_write 55 = .ok (.goto (-52), 3) := by decide +kernel
theorem dX3_write_58 : decode cX3_write 58 = .ok (.return_, 1) := by decide +kernel
theorem dX3_cut_0 : decode cX3_cut 0 = .ok (.iload_n 1, 1) := by decide +kernel
theorem dX3_cut_1 : decode cX3_cut 1 = .ok (.ifCond .lt 11, 3) := by decide +kernel
theorem dX3_cut_4 : decode cX3_cut 4 = .ok (.iload_n 1, 1) := by decide +kernel
theorem dX3_cut_5 : decode cX3_cut 5 = .ok (.aload_n 0, 1) := by decide +kernel
theorem dX3_cut_6 : decode cX3_cut 6 = .ok (.getfield 15, 3) := by decide +kernel
theorem dX3_cut_9 : decode cX3_cut 9 = .ok (.if_icmp .le 5, 3) := by decide +kernel
theorem dX3_cut_12 : decode cX3_cut 12 = .ok (.iconst 0, 1) := by decide +kernel
theorem dX3_cut_13 : decode cX3_cut 13 = .ok (.ireturn, 1) := by decide +kernel
theorem dX3_cut_14 : decode cX3_cut 14 = .ok (.aload_n 0, 1) := by decide +kernel
theorem dX3_cut_15 : decode cX3_cut 15 = .ok (.iload_n 1, 1) := by decide +kernel
theorem dX3_cut_16 : decode cX3_cut 16 = .ok (.putfield 15, 3) := by decide +kernel
theorem dX3_cut_19 : decode cX3_cut 19 = .ok (.iconst 1, 1) := by decide +kernel
theorem dX3_cut_20 : decode cX3_cut 20 = .ok (.ireturn, 1) := by decide +kernel
set_option maxRecDepth 20000 in
theorem ggX3_open_X3_advance : GoodIn wsX3_open wsX3_advance := goodIn_r _ [8, 3, 9, 10, 11, 12, 13, 14, 7, 15, 2, 16, 17, 18, 19, 20, 21, 22, 23, 24, 25, 26, 27, 28, 29, 30, 31, 32, 33, 34, 35, 36, 37, 38, 39, 40] (by decide +kernel) (by decide +kernel)
set_option maxRecDepth 20000 in
theorem gX3_open_X3_advance : GoodIn wsX3_open (wsV RX3 29 RX3 yX3_advance wsX3_advance) := goodIn_app (goodIn_of _ (by decide +kernel)) ggX3_open_X3_advance
theorem dX3_open_0 : decode cX3_open 0 = .ok (.aload_n 0, 1) := by decide +kernel
theorem dX3_open_1 : decode cX3_open 1 = .ok (.aload_n 0, 1) := by decide +kernel
theorem dX3_open_2 : decode cX3_open 2 = .ok (.getfield 15, 3) := by decide +kernel
theorem dX3_open_5 : decode cX3_open 5 = .ok (.putfield 23, 3) := by decide +kernel
theorem dX3_open_8 : decode cX3_open 8 = .ok (.aload_n 0, 1) := by decide +kernel
theorem dX3_open_9 : decode cX3_open 9 = .ok (.iconst 0, 1) := by decide +kernel
theorem dX3_open_10 : decode cX3_open 10 = .ok (.putfield 15, 3) := by decide +kernel
theorem dX3_open_13 : decode cX3_open 13 = .ok (.aload_n 0, 1) := by decide +kernel
theorem dX3_open_14 : decode cX3_open 14 = .ok (.iconst 0, 1) := by decide +kernel
theorem dX3_open_15 : decode cX3_open 15 = .ok (.putfield 26, 3) := by decide +kernel
theorem dX3_open_18 : decode cX3_open 18 = .ok (.aload_n 0, 1) := by decide +kernel
theorem dX3_open_19 : decode cX3_open 19 = .ok (.invokevirtual 29, 3) := by decide +kernel
theorem dX3_open_22 : decode cX3_open 22 = .ok (.return_, 1) := by decide +kernel
set_option maxRecDepth 20000 in
theorem ggX3_advance_X3_look : GoodIn wsX3_advance wsX3_look := goodIn_r _ [9, 1, 10, 11, 29, 30, 31, 32, 33, 34, 35] (by decide +kernel) (by decide +kernel)
set_option maxRecDepth 20000 in
theorem gX3_advance_X3_look : GoodIn wsX3_advance (wsV RX3 32 RX3 yX3_look wsX3_look) := goodIn_app (goodIn_of _ (by decide +kernel)) ggX3_advance_X3_look
set_option maxRecDepth 20000 in
theorem ggX3_advance_X3_isBlank : GoodIn wsX3_advance wsX3_isBlank := goodIn_r _ [14] (by decide +kernel) (by decide +kernel)
set_option maxRecDepth 20000 in
theorem gX3_advance_X3_isBlank : GoodIn wsX3_advance (va_wsS RX3 36 yX3_isBlank wsX3_isBlank) := goodIn_app (goodIn_of _ (by decide +kernel)) ggX3_advance_X3_isBlank
set_option maxRecDepth 20000 in
theorem ggX3_advance_X3_isLetter : GoodIn wsX3_advance wsX3_isLetter := goodIn_r _ [17] (by decide +kernel) (by decide +kernel)
set_option maxRecDepth 20000 in
theorem gX3_advance_X3_isLetter : GoodIn wsX3_advance (va_wsS RX3 49 yX3_isLetter wsX3_isLetter) := goodIn_app (goodIn_of _ (by decide +kernel)) ggX3_advance_X3_isLetter
set_option maxRecDepth 20000 in
theorem ggX3_advance_X3_readWord : GoodIn wsX3_advance wsX3_readWord := goodIn_r _ [21, 3, 4, 1, 5, 6, 7, 8, 9, 10, 11, 15, 16, 17, 29, 30, 31, 32, 33, 34, 35] (by decide +kernel) (by decide +kernel)
set_option maxRecDepth 20000 in
theorem gX3_advance_X3_readWord : GoodIn wsX3_advance (wsV RX3 52 RX3 yX3_readWord wsX3_readWord) := goodIn_app (goodIn_of _ (by decide +kernel)) ggX3_advance_X3_readWord
set_option maxRecDepth 20000 in
theorem ggX3_advance_X3_isDigit : GoodIn wsX3_advance wsX3_isDigit := goodIn_r _ [24] (by decide +kernel) (by decide +kernel)
set_option maxRecDepth 20000 in
theorem gX3_advance_X3_isDigit : GoodIn wsX3_advance (va_wsS RX3 55 yX3_isDigit wsX3_isDigit) := goodIn_app (goodIn_of _ (by decide +kernel)) ggX3_advance_X3_isDigit
set_option maxRecDepth 20000 in
theorem ggX3_advance_X3_readNumber : GoodIn wsX3_advance wsX3_readNumber := goodIn_r _ [28, 3, 4, 1, 5, 6, 7, 8, 9, 10, 11, 22, 23, 24, 29, 30, 31, 32, 33, 34, 35] (by decide +kernel) (by decide +kernel)
set_option maxRecDepth 20000 in
theorem gX3_advance_X3_readNumber : GoodIn wsX3_advance (wsV RX3 58 RX3 yX3_readNumber wsX3_readNumber) := goodIn_app (goodIn_of _ (by decide +kernel)) ggX3_advance_X3_readNumber
theorem dX3_advance_0 : decode cX3_advance 0 = .ok (.aload_n 0, 1) := by decide +kernel
theorem dX3_advance_1 : decode cX3_advance 1 = .ok (.invokevirtual 32, 3) := by decide +kernel
theorem dX3_advance_4 : decode cX3_advance 4 = .ok (.istore_n 1, 1) := by decide +kernel
theorem dX3_advance_5 : decode cX3_advance 5 = .ok (.iconst 0, 1) := by decide +kernel
theorem dX3_advance_6 : decode cX3_advance 6 = .ok (.istore_n 2, 1) := by decide +kernel
theorem dX3_advance_7 : decode cX3_advance 7 = .ok (.iload_n 2, 1) := by decide +kernel
theorem dX3_advance_8 : decode cX3_advance 8 = .ok (.sipush 400, 3) := by decide +kernel
theorem dX3_advance_11 : decode cX3_advance 11 = .ok (.if_icmp .ge 31, 3) := by decide +kernel
theorem dX3_advance_14 : decode cX3_advance 14 = .ok (.iload_n 1, 1) := by decide +kernel
theorem dX3_advance_15 : decode cX3_advance 15 = .ok (.invokestatic 36, 3) := by decide +kernel
theorem dX3_advance_18 : decode cX3_advance 18 = .ok (.ifCond .eq 24, 3) := by decide +kernel
theorem dX3_advance_21 : decode cX3_advance 21 = .ok (.aload_n 0, 1) := by decide +kernel
theorem dX3_advance_22 : decode cX3_advance 22 = .ok (.dup, 1) := by decide +kernel
theorem dX3_advance_23 : decode cX3_advance 23 = .ok (.getfield 26, 3) := by decide +kernel
theorem dX3_advance_26 : decode cX3_advance 26 = .ok (.iconst 1, 1) := by decide +kernel
theorem dX3_advance_27 : decode cX3_advance 27 = .ok (.iadd, 1) := by decide +kernel
theorem dX3_advance_28 : decode cX3_advance 28 = .ok (.putfield 26, 3) := by decide +kernel
theorem dX3_advance_31 : decode cX3_advance 31 = .ok (.aload_n 0, 1) := by decide +kernel
theorem dX3_advance_32 : decode cX3_advance 32 = .ok (.invokevirtual 32, 3) := by decide +kernel
theorem dX3_advance_35 : decode cX3_advance 35 = .ok (.istore_n 1, 1) := by decide +kernel
theorem dX3_advance_36 : decode cX3_advance 36 = .ok (.iinc 2 1, 3) := by decide +kernel
theorem dX3_advance_39 : decode cX3_advance 39 = .ok (.goto (-32), 3) := by decide +kernel
theorem dX3_advance_42 : decode cX3_advance 42 = .ok (.aload_n 0, 1) := by decide +kernel
theorem dX3_advance_43 : decode cX3_advance 43 = .ok (.aload_n 0, 1) := by decide +kernel
theorem dX3_advance_44 : decode cX3_advance 44 = .ok (.getfield 26, 3) := by decide +kernel
theorem dX3_advance_47 : decode cX3_advance 47 = .ok (.putfield 40, 3) := by decide +kernel
theorem dX3_advance_50 : decode cX3_advance 50 = .ok (.iload_n 1, 1) := by decide +kernel
theorem dX3_advance_51 : decode cX3_advance 51 = .ok (.ifCond .ge 16, 3) := by decide +kernel
theorem dX3_advance_54 : decode cX3_advance 54 = .ok (.aload_n 0, 1) := by decide +kernel
theorem dX3_advance_55 : decode cX3_advance 55 = .ok (.iconst 0, 1) := by decide +kernel
theorem dX3_advance_56 : decode cX3_advance 56 = .ok (.putfield 43, 3) := by decide +kernel
theorem dX3_advance_59 : decode cX3_advance 59 = .ok (.aload_n 0, 1) := by decide +kernel
theorem dX3_advance_60 : decode cX3_advance 60 = .ok (.iconst 0, 1) := by decide +kernel
theorem dX3_advance_61 : decode cX3_advance 61 = .ok (.putfield 46, 3) := by decide +kernel
theorem dX3_advance_64 : decode cX3_advance 64 = .ok (.goto 51, 3) := by decide +kernel
theorem dX3_advance_67 : decode cX3_advance 67 = .ok (.iload_n 1, 1) := by decide +kernel
theorem dX3_advance_68 : decode cX3_advance 68 = .ok (.invokestatic 49, 3) := by decide +kernel
theorem dX3_advance_71 : decode cX3_advance 71 = .ok (.ifCond .eq 10, 3) := by decide +kernel
theorem dX3_advance_74 : decode cX3_advance 74 = .ok (.aload_n 0, 1) := by decide +kernel
theorem dX3_advance_75 : decode cX3_advance 75 = .ok (.invokevirtual 52, 3) := by decide +kernel
theorem dX3_advance_78 : decode cX3_advance 78 = .ok (.goto 37, 3) := by decide +kernel
theorem dX3_advance_81 : decode cX3_advance 81 = .ok (.iload_n 1, 1) := by decide +kernel
theorem dX3_advance_82 : decode cX3_advance 82 = .ok (.invokestatic 55, 3) := by decide +kernel
theorem dX3_advance_85 : decode cX3_advance 85 = .ok (.ifCond .eq 10, 3) := by decide +kernel
theorem dX3_advance_88 : decode cX3_advance 88 = .ok (.aload_n 0, 1) := by decide +kernel
theorem dX3_advance_89 : decode cX3_advance 89 = .ok (.invokevirtual 58, 3) := by decide +kernel
theorem dX3_advance_92 : decode cX3_advance 92 = .ok (.goto 23, 3) := by decide +kernel
theorem dX3_advance_95 : decode cX3_advance 95 = .ok (.aload_n 0, 1) := by decide +kernel
theorem dX3_advance_96 : decode cX3_advance 96 = .ok (.iconst 3, 1) := by decide +kernel
theorem dX3_advance_97 : decode cX3_advance 97 = .ok (.putfield 43, 3) := by decide +kernel
theorem dX3_advance_100 : decode cX3_advance 100 = .ok (.aload_n 0, 1) := by decide +kernel
theorem dX3_advance_101 : decode cX3_advance 101 = .ok (.iload_n 1, 1) := by decide +kernel
theorem dX3_advance_102 : decode cX3_advance 102 = .ok (.putfield 46, 3) := by decide +kernel
theorem dX3_advance_105 : decode cX3_advance 105 = .ok (.aload_n 0, 1) := by decide +kernel
theorem dX3_advance_106 : decode cX3_advance 106 = .ok (.dup, 1) := by decide +kernel
theorem dX3_advance_107 : decode cX3_advance 107 = .ok (.getfield 26, 3) := by decide +kernel
theorem dX3_advance_110 : decode cX3_advance 110 = .ok (.iconst 1, 1) := by decide +kernel
theorem dX3_advance_111 : decode cX3_advance 111 = .ok (.iadd, 1) := by decide +kernel
theorem dX3_advance_112 : decode cX3_advance 112 = .ok (.putfield 26, 3) := by decide +kernel
theorem dX3_advance_115 : decode cX3_advance 115 = .ok (.return_, 1) := by decide +kernel
set_option maxRecDepth 20000 in
theorem ggX3_readWord_X3_look : GoodIn wsX3_readWord wsX3_look := goodIn_r _ [8, 3, 9, 10, 14, 15, 16, 17, 18, 19, 20] (by decide +kernel) (by decide +kernel)
set_option maxRecDepth 20000 in
theorem gX3_readWord_X3_look : GoodIn wsX3_readWord (wsV RX3 32 RX3 yX3_look wsX3_look) := goodIn_app (goodIn_of _ (by decide +kernel)) ggX3_readWord_X3_look
set_option maxRecDepth 20000 in
theorem ggX3_readWord_X3_isLetter : GoodIn wsX3_readWord wsX3_isLetter := goodIn_r _ [13] (by decide +kernel) (by decide +kernel)
set_option maxRecDepth 20000 in
theorem gX3_readWord_X3_isLetter : GoodIn wsX3_readWord (va_wsS RX3 49 yX3_isLetter wsX3_isLetter) := goodIn_app (goodIn_of _ (by decide +kernel)) ggX3_readWord_X3_isLetter
theorem dX3_readWord_0 : decode cX3_readWord 0 = .ok (.aload_n 0, 1) := by decide +kernel
theorem dX3_readWord_1 : decode cX3_readWord 1 = .ok (.iconst 1, 1) := by decide +kernel
theorem dX3_readWord_2 : decode cX3_readWord 2 = .ok (.putfield 43, 3) := by decide +kernel
theorem dX3_readWord_5 : decode cX3_readWord 5 = .ok (.aload_n 0, 1) := by decide +kernel
theorem dX3_readWord_6 : decode cX3_readWord 6 = .ok (.iconst 0, 1) := by decide +kernel
theorem dX3_readWord_7 : decode cX3_readWord 7 = .ok (.putfield 46, 3) := by decide +kernel
theorem dX3_readWord_10 : decode cX3_readWord 10 = .ok (.iconst 0, 1) := by decide +kernel
theorem dX3_readWord_11 : decode cX3_readWord 11 = .ok (.istore_n 1, 1) := by decide +kernel
theorem dX3_readWord_12 : decode cX3_readWord 12 = .ok (.aload_n 0, 1) := by decide +kernel
theorem dX3_readWord_13 : decode cX3_readWord 13 = .ok (.invokevirtual 32, 3) := by decide +kernel
theorem dX3_readWord_16 : decode cX3_readWord 16 = .ok (.istore_n 2, 1) := by decide +kernel
theorem dX3_readWord_17 : decode cX3_readWord 17 = .ok (.iload_n 1, 1) := by decide +kernel
theorem dX3_readWord_18 : decode cX3_readWord 18 = .ok (.sipush 400, 3) := by decide +kernel
theorem dX3_readWord_21 : decode cX3_readWord 21 = .ok (.if_icmp .ge 59, 3) := by decide +kernel
theorem dX3_readWord_24 : decode cX3_readWord 24 = .ok (.iload_n 2, 1) := by decide +kernel
theorem dX3_readWord_25 : decode cX3_readWord 25 = .ok (.invokestatic 49, 3) := by decide +kernel
theorem dX3_readWord_28 : decode cX3_readWord 28 = .ok (.ifCond .eq 52, 3) := by decide +kernel
theorem dX3_readWord_31 : decode cX3_readWord 31 = .ok (.aload_n 0, 1) := by decide +kernel
theorem dX3_readWord_32 : decode cX3_readWord 32 = .ok (.iload_n 1, 1) := by decide +kernel
theorem dX3_readWord_33 : decode cX3_readWord 33 = .ok (.bipush 6, 2) := by decide +kernel
theorem dX3_readWord_35 : decode cX3_readWord 35 = .ok (.if_icmp .ge 20, 3) := by decide +kernel
theorem dX3_readWord_38 : decode cX3_readWord 38 = .ok (.aload_n 0, 1) := by decide +kernel
theorem dX3_readWord_39 : decode cX3_readWord 39 = .ok (.getfield 46, 3) := by decide +kernel
theorem dX3_readWord_42 : decode cX3_readWord 42 = .ok (.bipush 32, 2) := by decide +kernel
theorem dX3_readWord_44 : decode cX3_readWord 44 = .ok (.imul, 1) := by decide +kernel
theorem dX3_readWord_45 : decode cX3_readWord 45 = .ok (.iload_n 2, 1) := by decide +kernel
theorem dX3_readWord_46 : decode cX3_readWord 46 = .ok (.bipush 97, 2) := by decide +kernel
theorem dX3_readWord_48 : decode cX3_readWord 48 = .ok (.isub, 1) := by decide +kernel
theorem dX3_readWord_49 : decode cX3_readWord 49 = .ok (.iconst 1, 1) := by decide +kernel
theorem dX3_readWord_50 : decode cX3_readWord 50 = .ok (.iadd, 1) := by decide +kernel
theorem dX3_readWord_51 : decode cX3_readWord 51 = .ok (.iadd, 1) := by decide +kernel
theorem dX3_readWord_52 : decode cX3_readWord 52 = .ok (.goto 4, 3) := by decide +kernel
theorem dX3_readWord_55 : decode cX3_readWord 55 = .ok (.iconst 0, 1) := by decide +kernel
theorem dX3_readWord_56 : decode cX3_readWord 56 = .ok (.putfield 46, 3) := by decide +kernel
theorem dX3_readWord_59 : decode cX3_readWord 59 = .ok (.iinc 1 1, 3) := by decide +kernel
theorem dX3_readWord_62 : decode cX3_readWord 62 = .ok (.aload_n 0, 1) := by decide +kernel
theorem dX3_readWord_63 : decode cX3_readWord 63 = .ok (.dup, 1) := by decide +kernel
theorem dX3_readWord_64 : decode cX3_readWord 64 = .ok (.getfield 26, 3) := by decide +kernel
theorem dX3_readWord_67 : decode cX3_readWord 67 = .ok (.iconst 1, 1) := by decide +kernel
theorem dX3_readWord_68 : decode cX3_readWord 68 = .ok (.iadd, 1) := by decide +kernel
theorem dX3_readWord_69 : decode cX3_readWord 69 = .ok (.putfield 26, 3) := by decide +kernel
theorem dX3_readWord_72 : decode cX3_readWord 72 = .ok (.aload_n 0, 1) := by decide +kernel
theorem dX3_readWord_73 : decode cX3_readWord 73 = .ok (.invokevirtual 32, 3) := by decide +kernel
theorem dX3_readWord_76 : decode cX3_readWord 76 = .ok (.istore_n 2, 1) := by decide +kernel
theorem dX3_readWord_77 : decode cX3_readWord 77 = .ok (.goto (-60), 3) := by decide +kernel
theorem dX3_readWord_80 : decode cX3_readWord 80 = .ok (.return_, 1) := by decide +kernel
set_option maxRecDepth 20000 in
theorem ggX3_readNumber_X3_look : GoodIn wsX3_readNumber wsX3_look := goodIn_r _ [8, 3, 9, 10, 14, 15, 16, 17, 18, 19, 20] (by decide +kernel) (by decide +kernel)
set_option maxRecDepth 20000 in
theorem gX3_readNumber_X3_look : GoodIn wsX3_readNumber (wsV RX3 32 RX3 yX3_look wsX3_look) := goodIn_app (goodIn_of _ (by decide +kernel)) ggX3_readNumber_X3_look
set_option maxRecDepth 20000 in
theorem ggX3_readNumber_X3_isDigit : GoodIn wsX3_readNumber wsX3_isDigit := goodIn_r _ [13] (by decide +kernel) (by decide +kernel)
set_option maxRecDepth 20000 in
theorem gX3_readNumber_X3_isDigit : GoodIn wsX3_readNumber (va_wsS RX3 55 yX3_isDigit wsX3_isDigit) := goodIn_app (goodIn_of _ (by decide +kernel)) ggX3_readNumber_X3_isDigit
theorem dX3_readNumber_0 : decode cX3_readNumber 0 = .ok (.aload_n 0, 1) := by decide +kernel
theorem dX3_readNumber_1 : decode cX3_readNumber 1 = .ok (.iconst 2, 1) := by decide +kernel
theorem dX3_readNumber_2 : decode cX3_readNumber 2 = .ok (.putfield 43, 3) := by decide +kernel
theorem dX3_readNumber_5 : decode cX3_readNumber 5 = .ok (.aload_n 0, 1) := by decide +kernel
theorem dX3_readNumber_6 : decode cX3_readNumber 6 = .ok (.iconst (-1), 1) := by decide +kernel
theorem dX3_readNumber_7 : decode cX3_readNumber 7 = .ok (.putfield 46, 3) := by decide +kernel
theorem dX3_readNumber_10 : decode cX3_readNumber 10 = .ok (.iconst 0, 1) := by decide +kernel
theorem dX3_readNumber_11 : decode cX3_readNumber 11 = .ok (.istore_n 1, 1) := by decide +kernel
theorem dX3_readNumber_12 : decode cX3_readNumber 12 = .ok (.aload_n 0, 1) := by decide +kernel
theorem dX3_readNumber_13 : decode cX3_readNumber 13 = .ok (.invokevirtual 32, 3) := by decide +kernel
theorem dX3_readNumber_16 : decode cX3_readNumber 16 = .ok (.istore_n 2, 1) := by decide +kernel
theorem dX3_readNumber_17 : decode cX3_readNumber 17 = .ok (.iload_n 1, 1) := by decide +kernel
theorem dX3_readNumber_18 : decode cX3_readNumber 18 = .ok (.sipush 400, 3) := by decide +kernel
theorem dX3_readNumber_21 : decode cX3_readNumber 21 = .ok (.if_icmp .ge 47, 3) := by decide +kernel
theorem dX3_readNumber_24 : decode cX3_readNumber 24 = .ok (.iload_n 2, 1) := by decide +kernel
theorem dX3_readNumber_25 : decode cX3_readNumber 25 = .ok (.invokestatic 55, 3) := by decide +kernel
theorem dX3_readNumber_28 : decode cX3_readNumber 28 = .ok (.ifCond .eq 40, 3) := by decide +kernel
theorem dX3_readNumber_31 : decode cX3_readNumber 31 = .ok (.aload_n 0, 1) := by decide +kernel
theorem dX3_readNumber_32 : decode cX3_readNumber 32 = .ok (.iload_n 1, 1) := by decide +kernel
theorem dX3_readNumber_33 : decode cX3_readNumber 33 = .ok (.ifCond .ne 10, 3) := by decide +kernel
theorem dX3_readNumber_36 : decode cX3_readNumber 36 = .ok (.iload_n 2, 1) := by decide +kernel
theorem dX3_readNumber_37 : decode cX3_readNumber 37 = .ok (.bipush 48, 2) := by decide +kernel
theorem dX3_readNumber_39 : decode cX3_readNumber 39 = .ok (.isub, 1) := by decide +kernel
theorem dX3_readNumber_40 : decode cX3_readNumber 40 = .ok (.goto 4, 3) := by decide +kernel
theorem dX3_readNumber_43 : decode cX3_readNumber 43 = .ok (.iconst (-1), 1) := by decide +kernel
theorem dX3_readNumber_44 : decode cX3_readNumber 44 = .ok (.putfield 46, 3) := by decide +kernel
theorem dX3_readNumber_47 : decode cX3_readNumber 47 = .ok (.iinc 1 1, 3) := by decide +kernel
theorem dX3_readNumber_50 : decode cX3_readNumber 50 = .ok (.aload_n 0, 1) := by decide +kernel
theorem dX3_readNumber_51 : decode cX3_readNumber 51 = .ok (.dup, 1) := by decide +kernel
theorem dX3_readNumber_52 : decode cX3_readNumber 52 = .ok (.getfield 26, 3) := by decide +kernel
theorem dX3_readNumber_55 : decode cX3_readNumber 55 = .ok (.iconst 1, 1) := by decide +kernel
theorem dX3_readNumber_56 : decode cX3_readNumber 56 = .ok (.iadd, 1) := by decide +kernel
theorem dX3_readNumber_57 : decode cX3_readNumber 57 = .ok (.putfield 26, 3) := by decide +kernel
theorem dX3_readNumber_60 : decode cX3_readNumber 60 = .ok (.aload_n 0, 1) := by decide +kernel
theorem dX3_readNumber_61 : decode cX3_readNumber 61 = .ok (.invokevirtual 32, 3) := by decide +kernel
theorem dX3_readNumber_64 : decode cX3_readNumber 64 = .ok (.istore_n 2, 1) := by decide +kernel
theorem dX3_readNumber_65 : decode cX3_readNumber 65 = .ok (.goto (-48), 3) := by decide +kernel
theorem dX3_readNumber_68 : decode cX3_readNumber 68 = .ok (.return_, 1) := by decide +kernel
theorem dX3_look_0 : decode cX3_look 0 = .ok (.aload_n 0, 1) := by decide +kernel
theorem dX3_look_1 : decode cX3_look 1 = .ok (.getfield 26, 3) := by decide +kernel
theorem dX3_look_4 : decode cX3_look 4 = .ok (.ifCond .lt 38, 3) := by decide +kernel
theorem dX3_look_7 : decode cX3_look 7 = .ok (.aload_n 0, 1) := by decide +kernel
theorem dX3_look_8 : decode cX3_look 8 = .ok (.getfield 26, 3) := by decide +kernel
theorem dX3_look_11 : decode cX3_look 11 = .ok (.aload_n 0, 1) := by decide +kernel
theorem dX3_look_12 : decode cX3_look 12 = .ok (.getfield 23, 3) := by decide +kernel
theorem dX3_look_15 : decode cX3_look 15 = .ok (.if_icmp .ge 27, 3) := by decide +kernel
theorem dX3_look_18 : decode cX3_look 18 = .ok (.aload_n 0, 1) := by decide +kernel
theorem dX3_look_19 : decode cX3_look 19 = .ok (.getfield 26, 3) := by decide +kernel
theorem dX3_look_22 : decode cX3_look 22 = .ok (.aload_n 0, 1) := by decide +kernel
theorem dX3_look_23 : decode cX3_look 23 = .ok (.getfield 9, 3) := by decide +kernel
theorem dX3_look_26 : decode cX3_look 26 = .ok (.arraylength, 1) := by decide +kernel
theorem dX3_look_27 : decode cX3_look 27 = .ok (.if_icmp .ge 15, 3) := by decide +kernel
theorem dX3_look_30 : decode cX3_look 30 = .ok (.aload_n 0, 1) := by decide +kernel
theorem dX3_look_31 : decode cX3_look 31 = .ok (.getfield 9, 3) := by decide +kernel
theorem dX3_look_34 : decode cX3_look 34 = .ok (.aload_n 0, 1) := by decide +kernel
theorem dX3_look_35 : decode cX3_look 35 = .ok (.getfield 26, 3) := by decide +kernel
theorem dX3_look_38 : decode cX3_look 38 = .ok (.iaload, 1) := by decide +kernel
theorem dX3_look_39 : decode cX3_look 39 = .ok (.goto 4, 3) := by decide +kernel
theorem dX3_look_42 : decode cX3_look 42 = .ok (.iconst (-1), 1) := by decide +kernel
theorem dX3_look_43 : decode cX3_look 43 = .ok (.ireturn, 1) := by decide +kernel
theorem dX3_isBlank_0 : decode cX3_isBlank 0 = .ok (.iload_n 0, 1) := by decide +kernel
theorem dX3_isBlank_1 : decode cX3_isBlank 1 = .ok (.bipush 9, 2) := by decide +kernel
theorem dX3_isBlank_3 : decode cX3_isBlank 3 = .ok (.if_icmp .eq 15, 3) := by decide +kernel
theorem dX3_isBlank_6 : decode cX3_isBlank 6 = .ok (.iload_n 0, 1) := by decide +kernel
theorem dX3_isBlank_7 : decode cX3_isBlank 7 = .ok (.bipush 10, 2) := by decide +kernel
theorem dX3_isBlank_9 : decode cX3_isBlank 9 = .ok (.if_icmp .eq 9, 3) := by decide +kernel
theorem dX3_isBlank_12 : decode cX3_isBlank 12 = .ok (.iload_n 0, 1) := by decide +kernel
theorem dX3_isBlank_13 : decode cX3_isBlank 13 = .ok (.bipush 32, 2) := by decide +kernel
theorem dX3_isBlank_15 : decode cX3_isBlank 15 = .ok (.if_icmp .ne 7, 3) := by decide +kernel
theorem dX3_isBlank_18 : decode cX3_isBlank 18 = .ok (.iconst 1, 1) := by decide +kernel
theorem dX3_isBlank_19 : decode cX3_isBlank 19 = .ok (.goto 4, 3) := by decide +kernel
theorem dX3_isBlank_22 : decode cX3_isBlank 22 = .ok (.iconst 0, 1) := by decide +kernel
theorem dX3_isBlank_23 : decode cX3_isBlank 23 = .ok (.ireturn, 1) := by decide +kernel
theorem dX3_isLetter_0 : decode cX3_isLetter 0 = .ok (.iload_n 0, 1) := by decide +kernel
theorem dX3_isLetter_1 : decode cX3_isLetter 1 = .ok (.bipush 97, 2) := by decide +kernel
theorem dX3_isLetter_3 : decode cX3_isLetter 3 = .ok (.if_icmp .lt 13, 3) := by decide +kernel
theorem dX3_isLetter_6 : decode cX3_isLetter 6 = .ok (.iload_n 0, 1) := by decide +kernel
theorem dX3_isLetter_7 : decode cX3_isLetter 7 = .ok (.bipush 122, 2) := by decide +kernel
theorem dX3_isLetter_9 : decode cX3_isLetter 9 = .ok (.if_icmp .gt 7, 3) := by decide +kernel
theorem dX3_isLetter_12 : decode cX3_isLetter 12 = .ok (.iconst 1, 1) := by decide +kernel
theorem dX3_isLetter_13 : decode cX3_isLetter 13 = .ok (.goto 4, 3) := by decide +kernel
theorem dX3_isLetter_16 : decode cX3_isLetter 16 = .ok (.iconst 0, 1) := by decide +kernel
theorem dX3_isLetter_17 : decode cX3_isLetter 17 = .ok (.ireturn, 1) := by decide +kernel
theorem dX3_isDigit_0 : decode cX3_isDigit 0 = .ok (.iload_n 0, 1) := by decide +kernel
theorem dX3_isDigit_1 : decode cX3_isDigit 1 = .ok (.bipush 48, 2) := by decide +kernel
theorem dX3_isDigit_3 : decode cX3_isDigit 3 = .ok (.if_icmp .lt 13, 3) := by decide +kernel
theorem dX3_isDigit_6 : decode cX3_isDigit 6 = .ok (.iload_n 0, 1) := by decide +kernel
theorem dX3_isDigit_7 : decode cX3_isDigit 7 = .ok (.bipush 57, 2) := by decide +kernel
theorem dX3_isDigit_9 : decode cX3_isDigit 9 = .ok (.if_icmp .gt 7, 3) := by decide +kernel
theorem dX3_isDigit_12 : decode cX3_isDigit 12 = .ok (.iconst 1, 1) := by decide +kernel
theorem dX3_isDigit_13 : decode cX3_isDigit 13 = .ok (.goto 4, 3) := by decide +kernel
theorem dX3_isDigit_16 : decode cX3_isDigit 16 = .ok (.iconst 0, 1) := by decide +kernel
theorem dX3_isDigit_17 : decode cX3_isDigit 17 = .ok (.ireturn, 1) := by decide +kernel
theorem dX3_isSign_0 : decode cX3_isSign 0 = .ok (.aload_n 0, 1) := by decide +kernel
theorem dX3_isSign_1 : decode cX3_isSign 1 = .ok (.getfield 43, 3) := by decide +kernel
theorem dX3_isSign_4 : decode cX3_isSign 4 = .ok (.iconst 3, 1) := by decide +kernel
theorem dX3_isSign_5 : decode cX3_isSign 5 = .ok (.if_icmp .ne 15, 3) := by decide +kernel
theorem dX3_isSign_8 : decode cX3_isSign 8 = .ok (.aload_n 0, 1) := by decide +kernel
theorem dX3_isSign_9 : decode cX3_isSign 9 = .ok (.getfield 46, 3) := by decide +kernel
theorem dX3_isSign_12 : decode cX3_isSign 12 = .ok (.iload_n 1, 1) := by decide +kernel
theorem dX3_isSign_13 : decode cX3_isSign 13 = .ok (.if_icmp .ne 7, 3) := by decide +kernel
theorem dX3_isSign_16 : decode cX3_isSign 16 = .ok (.iconst 1, 1) := by decide +kernel
theorem dX3_isSign_17 : decode cX3_isSign 17 = .ok (.goto 4, 3) := by decide +kernel
theorem dX3_isSign_20 : decode cX3_isSign 20 = .ok (.iconst 0, 1) := by decide +kernel
theorem dX3_isSign_21 : decode cX3_isSign 21 = .ok (.ireturn, 1) := by decide +kernel
