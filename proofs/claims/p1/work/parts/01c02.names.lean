theorem dX2_init_0 : decode cX2_init 0 = .ok (.aload_n 0, 1) := by decide +kernel
theorem dX2_init_1 : decode cX2_init 1 = .ok (.invokespecial 3, 3) := by decide +kernel
theorem dX2_init_4 : decode cX2_init 4 = .ok (.iconst 1, 1) := by decide +kernel
theorem dX2_init_5 : decode cX2_init 5 = .ok (.iload_n 1, 1) := by decide +kernel
theorem dX2_init_6 : decode cX2_init 6 = .ok (.sipush 201, 3) := by decide +kernel
theorem dX2_init_9 : decode cX2_init 9 = .ok (.invokestatic 9, 3) := by decide +kernel
theorem dX2_init_12 : decode cX2_init 12 = .ok (.invokestatic 15, 3) := by decide +kernel
theorem dX2_init_15 : decode cX2_init 15 = .ok (.istore_n 2, 1) := by decide +kernel
theorem dX2_init_16 : decode cX2_init 16 = .ok (.aload_n 0, 1) := by decide +kernel
theorem dX2_init_17 : decode cX2_init 17 = .ok (.iload_n 2, 1) := by decide +kernel
theorem dX2_init_18 : decode cX2_init 18 = .ok (.bipush 20, 2) := by decide +kernel
theorem dX2_init_20 : decode cX2_init 20 = .ok (.imul, 1) := by decide +kernel
theorem dX2_init_21 : decode cX2_init 21 = .ok (.newarray .int, 2) := by decide +kernel
theorem dX2_init_23 : decode cX2_init 23 = .ok (.putfield 18, 3) := by decide +kernel
theorem dX2_init_26 : decode cX2_init 26 = .ok (.aload_n 0, 1) := by decide +kernel
theorem dX2_init_27 : decode cX2_init 27 = .ok (.iload_n 2, 1) := by decide +kernel
theorem dX2_init_28 : decode cX2_init 28 = .ok (.newarray .int, 2) := by decide +kernel
theorem dX2_init_30 : decode cX2_init 30 = .ok (.putfield 24, 3) := by decide +kernel
theorem dX2_init_33 : decode cX2_init 33 = .ok (.aload_n 0, 1) := by decide +kernel
theorem dX2_init_34 : decode cX2_init 34 = .ok (.bipush 21, 2) := by decide +kernel
theorem dX2_init_36 : decode cX2_init 36 = .ok (.newarray .int, 2) := by decide +kernel
theorem dX2_init_38 : decode cX2_init 38 = .ok (.putfield 27, 3) := by decide +kernel
theorem dX2_init_41 : decode cX2_init 41 = .ok (.return_, 1) := by decide +kernel
theorem dX2_clear_0 : decode cX2_clear 0 = .ok (.aload_n 0, 1) := by decide +kernel
theorem dX2_clear_1 : decode cX2_clear 1 = .ok (.iconst 0, 1) := by decide +kernel
theorem dX2_clear_2 : decode cX2_clear 2 = .ok (.putfield 30, 3) := by decide +kernel
theorem dX2_clear_5 : decode cX2_clear 5 = .ok (.return_, 1) := by decide +kernel
theorem dX2_dropLast_0 : decode cX2_dropLast 0 = .ok (.aload_n 0, 1) := by decide +kernel
theorem dX2_dropLast_1 : decode cX2_dropLast 1 = .ok (.iconst 0, 1) := by decide +kernel
theorem dX2_dropLast_2 : decode cX2_dropLast 2 = .ok (.aload_n 0, 1) := by decide +kernel
theorem dX2_dropLast_3 : decode cX2_dropLast 3 = .ok (.getfield 30, 3) := by decide +kernel
theorem dX2_dropLast_6 : decode cX2_dropLast 6 = .ok (.iconst 1, 1) := by decide +kernel
theorem dX2_dropLast_7 : decode cX2_dropLast 7 = .ok (.isub, 1) := by decide +kernel
theorem dX2_dropLast_8 : decode cX2_dropLast 8 = .ok (.invokestatic 15, 3) := by decide +kernel
theorem dX2_dropLast_11 : decode cX2_dropLast 11 = .ok (.putfield 30, 3) := by decide +kernel
theorem dX2_dropLast_14 : decode cX2_dropLast 14 = .ok (.return_, 1) := by decide +kernel
theorem dX2_start_0 : decode cX2_start 0 = .ok (.aload_n 0, 1) := by decide +kernel
theorem dX2_start_1 : decode cX2_start 1 = .ok (.getfield 30, 3) := by decide +kernel
theorem dX2_start_4 : decode cX2_start 4 = .ok (.ifCond .lt 15, 3) := by decide +kernel
theorem dX2_start_7 : decode cX2_start 7 = .ok (.aload_n 0, 1) := by decide +kernel
theorem dX2_start_8 : decode cX2_start 8 = .ok (.getfield 30, 3) := by decide +kernel
theorem dX2_start_11 : decode cX2_start 11 = .ok (.aload_n 0, 1) := by decide +kernel
theorem dX2_start_12 : decode cX2_start 12 = .ok (.getfield 24, 3) := by decide +kernel
theorem dX2_start_15 : decode cX2_start 15 = .ok (.arraylength, 1) := by decide +kernel
theorem dX2_start_16 : decode cX2_start 16 = .ok (.if_icmp .lt 5, 3) := by decide +kernel
theorem dX2_start_19 : decode cX2_start 19 = .ok (.iconst 0, 1) := by decide +kernel
theorem dX2_start_20 : decode cX2_start 20 = .ok (.ireturn, 1) := by decide +kernel
theorem dX2_start_21 : decode cX2_start 21 = .ok (.aload_n 0, 1) := by decide +kernel
theorem dX2_start_22 : decode cX2_start 22 = .ok (.getfield 24, 3) := by decide +kernel
theorem dX2_start_25 : decode cX2_start 25 = .ok (.aload_n 0, 1) := by decide +kernel
theorem dX2_start_26 : decode cX2_start 26 = .ok (.getfield 30, 3) := by decide +kernel
theorem dX2_start_29 : decode cX2_start 29 = .ok (.iconst 0, 1) := by decide +kernel
theorem dX2_start_30 : decode cX2_start 30 = .ok (.iastore, 1) := by decide +kernel
theorem dX2_start_31 : decode cX2_start 31 = .ok (.aload_n 0, 1) := by decide +kernel
theorem dX2_start_32 : decode cX2_start 32 = .ok (.dup, 1) := by decide +kernel
theorem dX2_start_33 : decode cX2_start 33 = .ok (.getfield 30, 3) := by decide +kernel
theorem dX2_start_36 : decode cX2_start 36 = .ok (.iconst 1, 1) := by decide +kernel
theorem dX2_start_37 : decode cX2_start 37 = .ok (.iadd, 1) := by decide +kernel
theorem dX2_start_38 : decode cX2_start 38 = .ok (.putfield 30, 3) := by decide +kernel
theorem dX2_start_41 : decode cX2_start 41 = .ok (.iconst 1, 1) := by decide +kernel
theorem dX2_start_42 : decode cX2_start 42 = .ok (.ireturn, 1) := by decide +kernel
theorem dX2_put_0 : decode cX2_put 0 = .ok (.aload_n 0, 1) := by decide +kernel
theorem dX2_put_1 : decode cX2_put 1 = .ok (.getfield 30, 3) := by decide +kernel
theorem dX2_put_4 : decode cX2_put 4 = .ok (.iconst 1, 1) := by decide +kernel
theorem dX2_put_5 : decode cX2_put 5 = .ok (.isub, 1) := by decide +kernel
theorem dX2_put_6 : decode cX2_put 6 = .ok (.istore_n 2, 1) := by decide +kernel
theorem dX2_put_7 : decode cX2_put 7 = .ok (.iload_n 2, 1) := by decide +kernel
theorem dX2_put_8 : decode cX2_put 8 = .ok (.ifCond .lt 70, 3) := by decide +kernel
theorem dX2_put_11 : decode cX2_put 11 = .ok (.iload_n 2, 1) := by decide +kernel
theorem dX2_put_12 : decode cX2_put 12 = .ok (.aload_n 0, 1) := by decide +kernel
theorem dX2_put_13 : decode cX2_put 13 = .ok (.getfield 24, 3) := by decide +kernel
theorem dX2_put_16 : decode cX2_put 16 = .ok (.arraylength, 1) := by decide +kernel
theorem dX2_put_17 : decode cX2_put 17 = .ok (.if_icmp .ge 61, 3) := by decide +kernel
theorem dX2_put_20 : decode cX2_put 20 = .ok (.aload_n 0, 1) := by decide +kernel
theorem dX2_put_21 : decode cX2_put 21 = .ok (.getfield 24, 3) := by decide +kernel
theorem dX2_put_24 : decode cX2_put 24 = .ok (.iload_n 2, 1) := by decide +kernel
theorem dX2_put_25 : decode cX2_put 25 = .ok (.iaload, 1) := by decide +kernel
theorem dX2_put_26 : decode cX2_put 26 = .ok (.ifCond .lt 52, 3) := by decide +kernel
theorem dX2_put_29 : decode cX2_put 29 = .ok (.aload_n 0, 1) := by decide +kernel
theorem dX2_put_30 : decode cX2_put 30 = .ok (.getfield 24, 3) := by decide +kernel
theorem dX2_put_33 : decode cX2_put 33 = .ok (.iload_n 2, 1) := by decide +kernel
theorem dX2_put_34 : decode cX2_put 34 = .ok (.iaload, 1) := by decide +kernel
theorem dX2_put_35 : decode cX2_put 35 = .ok (.bipush 20, 2) := by decide +kernel
theorem dX2_put_37 : decode cX2_put 37 = .ok (.if_icmp .ge 41, 3) := by decide +kernel
theorem dX2_put_40 : decode cX2_put 40 = .ok (.iload_n 2, 1) := by decide +kernel
theorem dX2_put_41 : decode cX2_put 41 = .ok (.bipush 20, 2) := by decide +kernel
theorem dX2_put_43 : decode cX2_put 43 = .ok (.imul, 1) := by decide +kernel
theorem dX2_put_44 : decode cX2_put 44 = .ok (.aload_n 0, 1) := by decide +kernel
theorem dX2_put_45 : decode cX2_put 45 = .ok (.getfield 24, 3) := by decide +kernel
theorem dX2_put_48 : decode cX2_put 48 = .ok (.iload_n 2, 1) := by decide +kernel
theorem dX2_put_49 : decode cX2_put 49 = .ok (.iaload, 1) := by decide +kernel
theorem dX2_put_50 : decode cX2_put 50 = .ok (.iadd, 1) := by decide +kernel
theorem dX2_put_51 : decode cX2_put 51 = .ok (.istore_n 3, 1) := by decide +kernel
theorem dX2_put_52 : decode cX2_put 52 = .ok (.iload_n 3, 1) := by decide +kernel
theorem dX2_put_53 : decode cX2_put 53 = .ok (.aload_n 0, 1) := by decide +kernel
theorem dX2_put_54 : decode cX2_put 54 = .ok (.getfield 18, 3) := by decide +kernel
theorem dX2_put_57 : decode cX2_put 57 = .ok (.arraylength, 1) := by decide +kernel
theorem dX2_put_58 : decode cX2_put 58 = .ok (.if_icmp .ge 20, 3) := by decide +kernel
theorem dX2_put_61 : decode cX2_put 61 = .ok (.aload_n 0, 1) := by decide +kernel
theorem dX2_put_62 : decode cX2_put 62 = .ok (.getfield 18, 3) := by decide +kernel
theorem dX2_put_65 : decode cX2_put 65 = .ok (.iload_n 3, 1) := by decide +kernel
theorem dX2_put_66 : decode cX2_put 66 = .ok (.iload_n 1, 1) := by decide +kernel
theorem dX2_put_67 : decode cX2_put 67 = .ok (.iastore, 1) := by decide +kernel
theorem dX2_put_68 : decode cX2_put 68 = .ok (.aload_n 0, 1) := by decide +kernel
theorem dX2_put_69 : decode cX2_put 69 = .ok (.getfield 24, 3) := by decide +kernel
theorem dX2_put_72 : decode cX2_put 72 = .ok (.iload_n 2, 1) := by decide +kernel
theorem dX2_put_73 : decode cX2_put 73 = .ok (.dup2, 1) := by decide +kernel
theorem dX2_put_74 : decode cX2_put 74 = .ok (.iaload, 1) := by decide +kernel
theorem dX2_put_75 : decode cX2_put 75 = .ok (.iconst 1, 1) := by decide +kernel
theorem dX2_put_76 : decode cX2_put 76 = .ok (.iadd, 1) := by decide +kernel
theorem dX2_put_77 : decode cX2_put 77 = .ok (.iastore, 1) := by decide +kernel
theorem dX2_put_78 : decode cX2_put 78 = .ok (.return_, 1) := by decide +kernel
set_option maxRecDepth 20000 in
theorem ggX2_copy_X2_lengthOf : GoodIn wsX2_copy wsX2_lengthOf := goodIn_r _ [5, 6, 7, 25, 26, 27, 28] (by decide +kernel) (by decide +kernel)
set_option maxRecDepth 20000 in
theorem gX2_copy_X2_lengthOf : GoodIn wsX2_copy (wsV RX2 34 RX2 yX2_lengthOf wsX2_lengthOf) := goodIn_app (goodIn_of _ (by decide +kernel)) ggX2_copy_X2_lengthOf
set_option maxRecDepth 20000 in
theorem ggX2_copy_X2_copyCells : GoodIn wsX2_copy wsX2_copyCells := goodIn_r _ [11, 12, 13, 14, 4, 15, 6, 7, 16, 17, 18, 19, 20, 21, 22, 23, 24, 25, 26, 27, 28] (by decide +kernel) (by decide +kernel)
set_option maxRecDepth 20000 in
theorem gX2_copy_X2_copyCells : GoodIn wsX2_copy (wsV RX2 38 RX2 yX2_copyCells wsX2_copyCells) := goodIn_app (goodIn_of _ (by decide +kernel)) ggX2_copy_X2_copyCells
theorem dX2_copy_0 : decode cX2_copy 0 = .ok (.aload_n 0, 1) := by decide +kernel
theorem dX2_copy_1 : decode cX2_copy 1 = .ok (.aload_n 1, 1) := by decide +kernel
theorem dX2_copy_2 : decode cX2_copy 2 = .ok (.iload_n 2, 1) := by decide +kernel
theorem dX2_copy_3 : decode cX2_copy 3 = .ok (.iconst 0, 1) := by decide +kernel
theorem dX2_copy_4 : decode cX2_copy 4 = .ok (.aload_n 1, 1) := by decide +kernel
theorem dX2_copy_5 : decode cX2_copy 5 = .ok (.iload_n 2, 1) := by decide +kernel
theorem dX2_copy_6 : decode cX2_copy 6 = .ok (.invokevirtual 34, 3) := by decide +kernel
theorem dX2_copy_9 : decode cX2_copy 9 = .ok (.invokevirtual 38, 3) := by decide +kernel
theorem dX2_copy_12 : decode cX2_copy 12 = .ok (.return_, 1) := by decide +kernel
set_option maxRecDepth 20000 in
theorem ggX2_copyCells_X2_start : GoodIn wsX2_copyCells wsX2_start := goodIn_r _ [5, 6, 7, 17, 18, 19, 20] (by decide +kernel) (by decide +kernel)
set_option maxRecDepth 20000 in
theorem gX2_copyCells_X2_start : GoodIn wsX2_copyCells (wsV RX2 42 RX2 yX2_start wsX2_start) := goodIn_app (goodIn_of _ (by decide +kernel)) ggX2_copyCells_X2_start
set_option maxRecDepth 20000 in
theorem ggX2_copyCells_X2_cellAt : GoodIn wsX2_copyCells wsX2_cellAt := goodIn_r _ [11, 7, 12, 17, 18, 19, 20] (by decide +kernel) (by decide +kernel)
set_option maxRecDepth 20000 in
theorem gX2_copyCells_X2_cellAt : GoodIn wsX2_copyCells (wsV RX2 46 RX2 yX2_cellAt wsX2_cellAt) := goodIn_app (goodIn_of _ (by decide +kernel)) ggX2_copyCells_X2_cellAt
set_option maxRecDepth 20000 in
theorem ggX2_copyCells_X2_put : GoodIn wsX2_copyCells wsX2_put := goodIn_r _ [16, 6, 7, 12, 17, 18, 19, 20] (by decide +kernel) (by decide +kernel)
set_option maxRecDepth 20000 in
theorem gX2_copyCells_X2_put : GoodIn wsX2_copyCells (wsV RX2 49 RX2 yX2_put wsX2_put) := goodIn_app (goodIn_of _ (by decide +kernel)) ggX2_copyCells_X2_put
theorem dX2_copyCells_0 : decode cX2_copyCells 0 = .ok (.aload_n 0, 1) := by decide +kernel
theorem dX2_copyCells_1 : decode cX2_copyCells 1 = .ok (.invokevirtual 42, 3) := by decide +kernel
theorem dX2_copyCells_4 : decode cX2_copyCells 4 = .ok (.ifCond .eq 39, 3) := by decide +kernel
theorem dX2_copyCells_7 : decode cX2_copyCells 7 = .ok (.iconst 0, 1) := by decide +kernel
theorem dX2_copyCells_8 : decode cX2_copyCells 8 = .ok (.istore 5, 2) := by decide +kernel
theorem dX2_copyCells_10 : decode cX2_copyCells 10 = .ok (.iload 5, 2) := by decide +kernel
theorem dX2_copyCells_12 : decode cX2_copyCells 12 = .ok (.iload 4, 2) := by decide +kernel
theorem dX2_copyCells_14 : decode cX2_copyCells 14 = .ok (.if_icmp .ge 29, 3) := by decide +kernel
theorem dX2_copyCells_17 : decode cX2_copyCells 17 = .ok (.iload 5, 2) := by decide +kernel
theorem dX2_copyCells_19 : decode cX2_copyCells 19 = .ok (.bipush 20, 2) := by decide +kernel
theorem dX2_copyCells_21 : decode cX2_copyCells 21 = .ok (.if_icmp .ge 22, 3) := by decide +kernel
theorem dX2_copyCells_24 : decode cX2_copyCells 24 = .ok (.aload_n 0, 1) := by decide +kernel
theorem dX2_copyCells_25 : decode cX2_copyCells 25 = .ok (.aload_n 1, 1) := by decide +kernel
theorem dX2_copyCells_26 : decode cX2_copyCells 26 = .ok (.iload_n 2, 1) := by decide +kernel
theorem dX2_copyCells_27 : decode cX2_copyCells 27 = .ok (.iload_n 3, 1) := by decide +kernel
theorem dX2_copyCells_28 : decode cX2_copyCells 28 = .ok (.iload 5, 2) := by decide +kernel
theorem dX2_copyCells_30 : decode cX2_copyCells 30 = .ok (.iadd, 1) := by decide +kernel
theorem dX2_copyCells_31 : decode cX2_copyCells 31 = .ok (.invokevirtual 46, 3) := by decide +kernel
theorem dX2_copyCells_34 : decode cX2_copyCells 34 = .ok (.invokevirtual 49, 3) := by decide +kernel
theorem dX2_copyCells_37 : decode cX2_copyCells 37 = .ok (.iinc 5 1, 3) := by decide +kernel
theorem dX2_copyCells_40 : decode cX2_copyCells 40 = .ok (.goto (-30), 3) := by decide +kernel
theorem dX2_copyCells_43 : decode cX2_copyCells 43 = .ok (.return_, 1) := by decide +kernel
theorem dX2_lengthOf_0 : decode cX2_lengthOf 0 = .ok (.iload_n 1, 1) := by decide +kernel
theorem dX2_lengthOf_1 : decode cX2_lengthOf 1 = .ok (.ifCond .lt 29, 3) := by decide +kernel
theorem dX2_lengthOf_4 : decode cX2_lengthOf 4 = .ok (.iload_n 1, 1) := by decide +kernel
theorem dX2_lengthOf_5 : decode cX2_lengthOf 5 = .ok (.aload_n 0, 1) := by decide +kernel
theorem dX2_lengthOf_6 : decode cX2_lengthOf 6 = .ok (.getfield 30, 3) := by decide +kernel
theorem dX2_lengthOf_9 : decode cX2_lengthOf 9 = .ok (.if_icmp .ge 21, 3) := by decide +kernel
theorem dX2_lengthOf_12 : decode cX2_lengthOf 12 = .ok (.iload_n 1, 1) := by decide +kernel
theorem dX2_lengthOf_13 : decode cX2_lengthOf 13 = .ok (.aload_n 0, 1) := by decide +kernel
theorem dX2_lengthOf_14 : decode cX2_lengthOf 14 = .ok (.getfield 24, 3) := by decide +kernel
theorem dX2_lengthOf_17 : decode cX2_lengthOf 17 = .ok (.arraylength, 1) := by decide +kernel
theorem dX2_lengthOf_18 : decode cX2_lengthOf 18 = .ok (.if_icmp .ge 12, 3) := by decide +kernel
theorem dX2_lengthOf_21 : decode cX2_lengthOf 21 = .ok (.aload_n 0, 1) := by decide +kernel
theorem dX2_lengthOf_22 : decode cX2_lengthOf 22 = .ok (.getfield 24, 3) := by decide +kernel
theorem dX2_lengthOf_25 : decode cX2_lengthOf 25 = .ok (.iload_n 1, 1) := by decide +kernel
theorem dX2_lengthOf_26 : decode cX2_lengthOf 26 = .ok (.iaload, 1) := by decide +kernel
theorem dX2_lengthOf_27 : decode cX2_lengthOf 27 = .ok (.goto 4, 3) := by decide +kernel
theorem dX2_lengthOf_30 : decode cX2_lengthOf 30 = .ok (.iconst 0, 1) := by decide +kernel
theorem dX2_lengthOf_31 : decode cX2_lengthOf 31 = .ok (.ireturn, 1) := by decide +kernel
theorem dX2_cellAt_0 : decode cX2_cellAt 0 = .ok (.iload_n 1, 1) := by decide +kernel
theorem dX2_cellAt_1 : decode cX2_cellAt 1 = .ok (.ifCond .lt 22, 3) := by decide +kernel
theorem dX2_cellAt_4 : decode cX2_cellAt 4 = .ok (.iload_n 1, 1) := by decide +kernel
theorem dX2_cellAt_5 : decode cX2_cellAt 5 = .ok (.aload_n 0, 1) := by decide +kernel
theorem dX2_cellAt_6 : decode cX2_cellAt 6 = .ok (.getfield 24, 3) := by decide +kernel
theorem dX2_cellAt_9 : decode cX2_cellAt 9 = .ok (.arraylength, 1) := by decide +kernel
theorem dX2_cellAt_10 : decode cX2_cellAt 10 = .ok (.if_icmp .ge 13, 3) := by decide +kernel
theorem dX2_cellAt_13 : decode cX2_cellAt 13 = .ok (.iload_n 2, 1) := by decide +kernel
theorem dX2_cellAt_14 : decode cX2_cellAt 14 = .ok (.ifCond .lt 9, 3) := by decide +kernel
theorem dX2_cellAt_17 : decode cX2_cellAt 17 = .ok (.iload_n 2, 1) := by decide +kernel
theorem dX2_cellAt_18 : decode cX2_cellAt 18 = .ok (.bipush 20, 2) := by decide +kernel
theorem dX2_cellAt_20 : decode cX2_cellAt 20 = .ok (.if_icmp .lt 5, 3) := by decide +kernel
theorem dX2_cellAt_23 : decode cX2_cellAt 23 = .ok (.iconst 0, 1) := by decide +kernel
theorem dX2_cellAt_24 : decode cX2_cellAt 24 = .ok (.ireturn, 1) := by decide +kernel
theorem dX2_cellAt_25 : decode cX2_cellAt 25 = .ok (.iload_n 1, 1) := by decide +kernel
theorem dX2_cellAt_26 : decode cX2_cellAt 26 = .ok (.bipush 20, 2) := by decide +kernel
theorem dX2_cellAt_28 : decode cX2_cellAt 28 = .ok (.imul, 1) := by decide +kernel
theorem dX2_cellAt_29 : decode cX2_cellAt 29 = .ok (.iload_n 2, 1) := by decide +kernel
theorem dX2_cellAt_30 : decode cX2_cellAt 30 = .ok (.iadd, 1) := by decide +kernel
theorem dX2_cellAt_31 : decode cX2_cellAt 31 = .ok (.istore_n 3, 1) := by decide +kernel
theorem dX2_cellAt_32 : decode cX2_cellAt 32 = .ok (.iload_n 3, 1) := by decide +kernel
theorem dX2_cellAt_33 : decode cX2_cellAt 33 = .ok (.aload_n 0, 1) := by decide +kernel
theorem dX2_cellAt_34 : decode cX2_cellAt 34 = .ok (.getfield 18, 3) := by decide +kernel
theorem dX2_cellAt_37 : decode cX2_cellAt 37 = .ok (.arraylength, 1) := by decide +kernel
theorem dX2_cellAt_38 : decode cX2_cellAt 38 = .ok (.if_icmp .ge 12, 3) := by decide +kernel
theorem dX2_cellAt_41 : decode cX2_cellAt 41 = .ok (.aload_n 0, 1) := by decide +kernel
theorem dX2_cellAt_42 : decode cX2_cellAt 42 = .ok (.getfield 18, 3) := by decide +kernel
theorem dX2_cellAt_45 : decode cX2_cellAt 45 = .ok (.iload_n 3, 1) := by decide +kernel
theorem dX2_cellAt_46 : decode cX2_cellAt 46 = .ok (.iaload, 1) := by decide +kernel
theorem dX2_cellAt_47 : decode cX2_cellAt 47 = .ok (.goto 4, 3) := by decide +kernel
theorem dX2_cellAt_50 : decode cX2_cellAt 50 = .ok (.iconst 0, 1) := by decide +kernel
theorem dX2_cellAt_51 : decode cX2_cellAt 51 = .ok (.ireturn, 1) := by decide +kernel
set_option maxRecDepth 20000 in
theorem ggX2_compare_X2_lengthOf : GoodIn wsX2_compare wsX2_lengthOf := goodIn_r _ [5, 6, 7, 17, 18, 19, 20] (by decide +kernel) (by decide +kernel)
set_option maxRecDepth 20000 in
theorem gX2_compare_X2_lengthOf : GoodIn wsX2_compare (wsV RX2 34 RX2 yX2_lengthOf wsX2_lengthOf) := goodIn_app (goodIn_of _ (by decide +kernel)) ggX2_compare_X2_lengthOf
set_option maxRecDepth 20000 in
theorem ggX2_compare_X2_cellAt : GoodIn wsX2_compare wsX2_cellAt := goodIn_r _ [11, 7, 12, 17, 18, 19, 20] (by decide +kernel) (by decide +kernel)
set_option maxRecDepth 20000 in
theorem gX2_compare_X2_cellAt : GoodIn wsX2_compare (wsV RX2 46 RX2 yX2_cellAt wsX2_cellAt) := goodIn_app (goodIn_of _ (by decide +kernel)) ggX2_compare_X2_cellAt
set_option maxRecDepth 20000 in
theorem ggX2_compare_J6_compare_7cf53 : GoodIn wsX2_compare wsJ6_compare_7cf53 := goodIn_r _ [16] (by decide +kernel) (by decide +kernel)
set_option maxRecDepth 20000 in
theorem gX2_compare_J6_compare_7cf53 : GoodIn wsX2_compare (va_wsS RX2 53 yJ6_compare_7cf53 wsJ6_compare_7cf53) := goodIn_app (goodIn_of _ (by decide +kernel)) ggX2_compare_J6_compare_7cf53
theorem dX2_compare_0 : decode cX2_compare 0 = .ok (.aload_n 0, 1) := by decide +kernel
theorem dX2_compare_1 : decode cX2_compare 1 = .ok (.iload_n 1, 1) := by decide +kernel
theorem dX2_compare_2 : decode cX2_compare 2 = .ok (.invokevirtual 34, 3) := by decide +kernel
theorem dX2_compare_5 : decode cX2_compare 5 = .ok (.istore 4, 2) := by decide +kernel
theorem dX2_compare_7 : decode cX2_compare 7 = .ok (.aload_n 2, 1) := by decide +kernel
theorem dX2_compare_8 : decode cX2_compare 8 = .ok (.iload_n 3, 1) := by decide +kernel
theorem dX2_compare_9 : decode cX2_compare 9 = .ok (.invokevirtual 34, 3) := by decide +kernel
theorem dX2_compare_12 : decode cX2_compare 12 = .ok (.istore 5, 2) := by decide +kernel
theorem dX2_compare_14 : decode cX2_compare 14 = .ok (.iconst 0, 1) := by decide +kernel
theorem dX2_compare_15 : decode cX2_compare 15 = .ok (.istore 6, 2) := by decide +kernel
theorem dX2_compare_17 : decode cX2_compare 17 = .ok (.iload 6, 2) := by decide +kernel
theorem dX2_compare_19 : decode cX2_compare 19 = .ok (.iload 4, 2) := by decide +kernel
theorem dX2_compare_21 : decode cX2_compare 21 = .ok (.if_icmp .ge 54, 3) := by decide +kernel
theorem dX2_compare_24 : decode cX2_compare 24 = .ok (.iload 6, 2) := by decide +kernel
theorem dX2_compare_26 : decode cX2_compare 26 = .ok (.iload 5, 2) := by decide +kernel
theorem dX2_compare_28 : decode cX2_compare 28 = .ok (.if_icmp .ge 47, 3) := by decide +kernel
theorem dX2_compare_31 : decode cX2_compare 31 = .ok (.aload_n 0, 1) := by decide +kernel
theorem dX2_compare_32 : decode cX2_compare 32 = .ok (.iload_n 1, 1) := by decide +kernel
theorem dX2_compare_33 : decode cX2_compare 33 = .ok (.iload 6, 2) := by decide +kernel
theorem dX2_compare_35 : decode cX2_compare 35 = .ok (.invokevirtual 46, 3) := by decide +kernel
theorem dX2_compare_38 : decode cX2_compare 38 = .ok (.istore 7, 2) := by decide +kernel
theorem dX2_compare_40 : decode cX2_compare 40 = .ok (.aload_n 2, 1) := by decide +kernel
theorem dX2_compare_41 : decode cX2_compare 41 = .ok (.iload_n 3, 1) := by decide +kernel
theorem dX2_compare_42 : decode cX2_compare 42 = .ok (.iload 6, 2) := by decide +kernel
theorem dX2_compare_44 : decode cX2_compare 44 = .ok (.invokevirtual 46, 3) := by decide +kernel
theorem dX2_compare_47 : decode cX2_compare 47 = .ok (.istore 8, 2) := by decide +kernel
theorem dX2_compare_49 : decode cX2_compare 49 = .ok (.iload 7, 2) := by decide +kernel
theorem dX2_compare_51 : decode cX2_compare 51 = .ok (.iload 8, 2) := by decide +kernel
theorem dX2_compare_53 : decode cX2_compare 53 = .ok (.if_icmp .eq 16, 3) := by decide +kernel
theorem dX2_compare_56 : decode cX2_compare 56 = .ok (.iload 7, 2) := by decide +kernel
theorem dX2_compare_58 : decode cX2_compare 58 = .ok (.iload 8, 2) := by decide +kernel
theorem dX2_compare_60 : decode cX2_compare 60 = .ok (.if_icmp .ge 7, 3) := by decide +kernel
theorem dX2_compare_63 : decode cX2_compare 63 = .ok (.iconst (-1), 1) := by decide +kernel
theorem dX2_compare_64 : decode cX2_compare 64 = .ok (.goto 4, 3) := by decide +kernel
theorem dX2_compare_67 : decode cX2_compare 67 = .ok (.iconst 1, 1) := by decide +kernel
theorem dX2_compare_68 : decode cX2_compare 68 = .ok (.ireturn, 1) := by decide +kernel
theorem dX2_compare_69 : decode cX2_compare 69 = .ok (.iinc 6 1, 3) := by decide +kernel
theorem dX2_compare_72 : decode cX2_compare 72 = .ok (.goto (-55), 3) := by decide +kernel
theorem dX2_compare_75 : decode cX2_compare 75 = .ok (.iload 4, 2) := by decide +kernel
theorem dX2_compare_77 : decode cX2_compare 77 = .ok (.iload 5, 2) := by decide +kernel
theorem dX2_compare_79 : decode cX2_compare 79 = .ok (.invokestatic 53, 3) := by decide +kernel
theorem dX2_compare_82 : decode cX2_compare 82 = .ok (.ireturn, 1) := by decide +kernel
set_option maxRecDepth 20000 in
theorem ggX2_indexOf_X2_compare : GoodIn wsX2_indexOf wsX2_compare := goodIn_r _ [6, 7, 8, 9, 5, 10, 1, 11, 12, 13, 14, 15, 16, 17, 18, 19, 20, 21, 22, 23, 24] (by decide +kernel) (by decide +kernel)
set_option maxRecDepth 20000 in
theorem gX2_indexOf_X2_compare : GoodIn wsX2_indexOf (wsV RX2 58 RX2 yX2_compare wsX2_compare) := goodIn_app (goodIn_of _ (by decide +kernel)) ggX2_indexOf_X2_compare
theorem dX2_indexOf_0 : decode cX2_indexOf 0 = .ok (.iconst 0, 1) := by decide +kernel
theorem dX2_indexOf_1 : decode cX2_indexOf 1 = .ok (.istore_n 3, 1) := by decide +kernel
theorem dX2_indexOf_2 : decode cX2_indexOf 2 = .ok (.iload_n 3, 1) := by decide +kernel
theorem dX2_indexOf_3 : decode cX2_indexOf 3 = .ok (.aload_n 0, 1) := by decide +kernel
theorem dX2_indexOf_4 : decode cX2_indexOf 4 = .ok (.getfield 30, 3) := by decide +kernel
theorem dX2_indexOf_7 : decode cX2_indexOf 7 = .ok (.if_icmp .ge 21, 3) := by decide +kernel
theorem dX2_indexOf_10 : decode cX2_indexOf 10 = .ok (.aload_n 0, 1) := by decide +kernel
theorem dX2_indexOf_11 : decode cX2_indexOf 11 = .ok (.iload_n 3, 1) := by decide +kernel
theorem dX2_indexOf_12 : decode cX2_indexOf 12 = .ok (.aload_n 1, 1) := by decide +kernel
theorem dX2_indexOf_13 : decode cX2_indexOf 13 = .ok (.iload_n 2, 1) := by decide +kernel
theorem dX2_indexOf_14 : decode cX2_indexOf 14 = .ok (.invokevirtual 58, 3) := by decide +kernel
theorem dX2_indexOf_17 : decode cX2_indexOf 17 = .ok (.ifCond .ne 5, 3) := by decide +kernel
theorem dX2_indexOf_20 : decode cX2_indexOf 20 = .ok (.iload_n 3, 1) := by decide +kernel
theorem dX2_indexOf_21 : decode cX2_indexOf 21 = .ok (.ireturn, 1) := by decide +kernel
theorem dX2_indexOf_22 : decode cX2_indexOf 22 = .ok (.iinc 3 1, 3) := by decide +kernel
theorem dX2_indexOf_25 : decode cX2_indexOf 25 = .ok (.goto (-23), 3) := by decide +kernel
theorem dX2_indexOf_28 : decode cX2_indexOf 28 = .ok (.iconst (-1), 1) := by decide +kernel
theorem dX2_indexOf_29 : decode cX2_indexOf 29 = .ok (.ireturn, 1) := by decide +kernel
set_option maxRecDepth 20000 in
theorem ggX2_nth_X2_ahead : GoodIn wsX2_nth wsX2_ahead := goodIn_r _ [6, 1, 7, 8, 9, 5, 10, 11, 12, 13, 14, 15, 16, 17, 18, 19, 20, 21, 22, 23, 24, 25, 26, 27, 28] (by decide +kernel) (by decide +kernel)
set_option maxRecDepth 20000 in
theorem gX2_nth_X2_ahead : GoodIn wsX2_nth (wsV RX2 61 RX2 yX2_ahead wsX2_ahead) := goodIn_app (goodIn_of _ (by decide +kernel)) ggX2_nth_X2_ahead
theorem dX2_nth_0 : decode cX2_nth 0 = .ok (.iconst 0, 1) := by decide +kernel
theorem dX2_nth_1 : decode cX2_nth 1 = .ok (.istore 4, 2) := by decide +kernel
theorem dX2_nth_3 : decode cX2_nth 3 = .ok (.iload 4, 2) := by decide +kernel
theorem dX2_nth_5 : decode cX2_nth 5 = .ok (.aload_n 0, 1) := by decide +kernel
theorem dX2_nth_6 : decode cX2_nth 6 = .ok (.getfield 30, 3) := by decide +kernel
theorem dX2_nth_9 : decode cX2_nth 9 = .ok (.if_icmp .ge 34, 3) := by decide +kernel
theorem dX2_nth_12 : decode cX2_nth 12 = .ok (.lload_n 2, 1) := by decide +kernel
theorem dX2_nth_13 : decode cX2_nth 13 = .ok (.iload 4, 2) := by decide +kernel
theorem dX2_nth_15 : decode cX2_nth 15 = .ok (.lshr, 1) := by decide +kernel
theorem dX2_nth_16 : decode cX2_nth 16 = .ok (.lconst 1, 1) := by decide +kernel
theorem dX2_nth_17 : decode cX2_nth 17 = .ok (.land, 1) := by decide +kernel
theorem dX2_nth_18 : decode cX2_nth 18 = .ok (.lconst 0, 1) := by decide +kernel
theorem dX2_nth_19 : decode cX2_nth 19 = .ok (.lcmp, 1) := by decide +kernel
theorem dX2_nth_20 : decode cX2_nth 20 = .ok (.ifCond .eq 17, 3) := by decide +kernel
theorem dX2_nth_23 : decode cX2_nth 23 = .ok (.aload_n 0, 1) := by decide +kernel
theorem dX2_nth_24 : decode cX2_nth 24 = .ok (.iload 4, 2) := by decide +kernel
theorem dX2_nth_26 : decode cX2_nth 26 = .ok (.lload_n 2, 1) := by decide +kernel
theorem dX2_nth_27 : decode cX2_nth 27 = .ok (.invokevirtual 61, 3) := by decide +kernel
theorem dX2_nth_30 : decode cX2_nth 30 = .ok (.iload_n 1, 1) := by decide +kernel
theorem dX2_nth_31 : decode cX2_nth 31 = .ok (.if_icmp .ne 6, 3) := by decide +kernel
theorem dX2_nth_34 : decode cX2_nth 34 = .ok (.iload 4, 2) := by decide +kernel
theorem dX2_nth_36 : decode cX2_nth 36 = .ok (.ireturn, 1) := by decide +kernel
theorem dX2_nth_37 : decode cX2_nth 37 = .ok (.iinc 4 1, 3) := by decide +kernel
theorem dX2_nth_40 : decode cX2_nth 40 = .ok (.goto (-37), 3) := by decide +kernel
theorem dX2_nth_43 : decode cX2_nth 43 = .ok (.iconst (-1), 1) := by decide +kernel
theorem dX2_nth_44 : decode cX2_nth 44 = .ok (.ireturn, 1) := by decide +kernel
set_option maxRecDepth 20000 in
theorem ggX2_ahead_X2_compare : GoodIn wsX2_ahead wsX2_compare := goodIn_r _ [6, 7, 8, 9, 5, 10, 1, 11, 12, 13, 14, 15, 16, 17, 18, 19, 20, 21, 22, 23, 24] (by decide +kernel) (by decide +kernel)
set_option maxRecDepth 20000 in
theorem gX2_ahead_X2_compare : GoodIn wsX2_ahead (wsV RX2 58 RX2 yX2_compare wsX2_compare) := goodIn_app (goodIn_of _ (by decide +kernel)) ggX2_ahead_X2_compare
theorem dX2_ahead_0 : decode cX2_ahead 0 = .ok (.iconst 0, 1) := by decide +kernel
theorem dX2_ahead_1 : decode cX2_ahead 1 = .ok (.istore 4, 2) := by decide +kernel
theorem dX2_ahead_3 : decode cX2_ahead 3 = .ok (.iconst 0, 1) := by decide +kernel
theorem dX2_ahead_4 : decode cX2_ahead 4 = .ok (.istore 5, 2) := by decide +kernel
theorem dX2_ahead_6 : decode cX2_ahead 6 = .ok (.iload 5, 2) := by decide +kernel
theorem dX2_ahead_8 : decode cX2_ahead 8 = .ok (.aload_n 0, 1) := by decide +kernel
theorem dX2_ahead_9 : decode cX2_ahead 9 = .ok (.getfield 30, 3) := by decide +kernel
theorem dX2_ahead_12 : decode cX2_ahead 12 = .ok (.if_icmp .ge 34, 3) := by decide +kernel
theorem dX2_ahead_15 : decode cX2_ahead 15 = .ok (.lload_n 2, 1) := by decide +kernel
theorem dX2_ahead_16 : decode cX2_ahead 16 = .ok (.iload 5, 2) := by decide +kernel
theorem dX2_ahead_18 : decode cX2_ahead 18 = .ok (.lshr, 1) := by decide +kernel
theorem dX2_ahead_19 : decode cX2_ahead 19 = .ok (.lconst 1, 1) := by decide +kernel
theorem dX2_ahead_20 : decode cX2_ahead 20 = .ok (.land, 1) := by decide +kernel
theorem dX2_ahead_21 : decode cX2_ahead 21 = .ok (.lconst 0, 1) := by decide +kernel
theorem dX2_ahead_22 : decode cX2_ahead 22 = .ok (.lcmp, 1) := by decide +kernel
theorem dX2_ahead_23 : decode cX2_ahead 23 = .ok (.ifCond .eq 17, 3) := by decide +kernel
theorem dX2_ahead_26 : decode cX2_ahead 26 = .ok (.aload_n 0, 1) := by decide +kernel
theorem dX2_ahead_27 : decode cX2_ahead 27 = .ok (.iload 5, 2) := by decide +kernel
theorem dX2_ahead_29 : decode cX2_ahead 29 = .ok (.aload_n 0, 1) := by decide +kernel
theorem dX2_ahead_30 : decode cX2_ahead 30 = .ok (.iload_n 1, 1) := by decide +kernel
theorem dX2_ahead_31 : decode cX2_ahead 31 = .ok (.invokevirtual 58, 3) := by decide +kernel
theorem dX2_ahead_34 : decode cX2_ahead 34 = .ok (.ifCond .ge 6, 3) := by decide +kernel
theorem dX2_ahead_37 : decode cX2_ahead 37 = .ok (.iinc 4 1, 3) := by decide +kernel
theorem dX2_ahead_40 : decode cX2_ahead 40 = .ok (.iinc 5 1, 3) := by decide +kernel
theorem dX2_ahead_43 : decode cX2_ahead 43 = .ok (.goto (-37), 3) := by decide +kernel
theorem dX2_ahead_46 : decode cX2_ahead 46 = .ok (.iload 4, 2) := by decide +kernel
theorem dX2_ahead_48 : decode cX2_ahead 48 = .ok (.ireturn, 1) := by decide +kernel
set_option maxRecDepth 20000 in
theorem ggX2_spanAt_X2_lengthOf : GoodIn wsX2_spanAt wsX2_lengthOf := goodIn_r _ [5, 6, 7, 16, 17, 18, 19] (by decide +kernel) (by decide +kernel)
set_option maxRecDepth 20000 in
theorem gX2_spanAt_X2_lengthOf : GoodIn wsX2_spanAt (wsV RX2 34 RX2 yX2_lengthOf wsX2_lengthOf) := goodIn_app (goodIn_of _ (by decide +kernel)) ggX2_spanAt_X2_lengthOf
set_option maxRecDepth 20000 in
theorem ggX2_spanAt_X2_cellAt : GoodIn wsX2_spanAt wsX2_cellAt := goodIn_r _ [11, 7, 12, 16, 17, 18, 19] (by decide +kernel) (by decide +kernel)
set_option maxRecDepth 20000 in
theorem gX2_spanAt_X2_cellAt : GoodIn wsX2_spanAt (wsV RX2 46 RX2 yX2_cellAt wsX2_cellAt) := goodIn_app (goodIn_of _ (by decide +kernel)) ggX2_spanAt_X2_cellAt
set_option maxRecDepth 20000 in
theorem ggX2_spanAt_X9_partsIn : GoodIn wsX2_spanAt wsX9_partsIn := goodIn_r _ [15] (by decide +kernel) (by decide +kernel)
set_option maxRecDepth 20000 in
theorem gX2_spanAt_X9_partsIn_n65 : GoodIn wsX2_spanAt (wsX9_partsIn) := ggX2_spanAt_X9_partsIn
theorem dX2_spanAt_0 : decode cX2_spanAt 0 = .ok (.iconst 1, 1) := by decide +kernel
theorem dX2_spanAt_1 : decode cX2_spanAt 1 = .ok (.istore_n 3, 1) := by decide +kernel
theorem dX2_spanAt_2 : decode cX2_spanAt 2 = .ok (.iload_n 2, 1) := by decide +kernel
theorem dX2_spanAt_3 : decode cX2_spanAt 3 = .ok (.istore 4, 2) := by decide +kernel
theorem dX2_spanAt_5 : decode cX2_spanAt 5 = .ok (.aload_n 0, 1) := by decide +kernel
theorem dX2_spanAt_6 : decode cX2_spanAt 6 = .ok (.iload_n 1, 1) := by decide +kernel
theorem dX2_spanAt_7 : decode cX2_spanAt 7 = .ok (.invokevirtual 34, 3) := by decide +kernel
theorem dX2_spanAt_10 : decode cX2_spanAt 10 = .ok (.istore 5, 2) := by decide +kernel
theorem dX2_spanAt_12 : decode cX2_spanAt 12 = .ok (.iload_n 3, 1) := by decide +kernel
theorem dX2_spanAt_13 : decode cX2_spanAt 13 = .ok (.ifCond .le 31, 3) := by decide +kernel
theorem dX2_spanAt_16 : decode cX2_spanAt 16 = .ok (.iload 4, 2) := by decide +kernel
theorem dX2_spanAt_18 : decode cX2_spanAt 18 = .ok (.iload 5, 2) := by decide +kernel
theorem dX2_spanAt_20 : decode cX2_spanAt 20 = .ok (.if_icmp .ge 24, 3) := by decide +kernel
theorem dX2_spanAt_23 : decode cX2_spanAt 23 = .ok (.iload_n 3, 1) := by decide +kernel
theorem dX2_spanAt_24 : decode cX2_spanAt 24 = .ok (.aload_n 0, 1) := by decide +kernel
theorem dX2_spanAt_25 : decode cX2_spanAt 25 = .ok (.iload_n 1, 1) := by decide +kernel
theorem dX2_spanAt_26 : decode cX2_spanAt 26 = .ok (.iload 4, 2) := by decide +kernel
theorem dX2_spanAt_28 : decode cX2_spanAt 28 = .ok (.invokevirtual 46, 3) := by decide +kernel
theorem dX2_spanAt_31 : decode cX2_spanAt 31 = .ok (.invokestatic 65, 3) := by decide +kernel
theorem dX2_spanAt_34 : decode cX2_spanAt 34 = .ok (.iconst 1, 1) := by decide +kernel
theorem dX2_spanAt_35 : decode cX2_spanAt 35 = .ok (.isub, 1) := by decide +kernel
theorem dX2_spanAt_36 : decode cX2_spanAt 36 = .ok (.iadd, 1) := by decide +kernel
theorem dX2_spanAt_37 : decode cX2_spanAt 37 = .ok (.istore_n 3, 1) := by decide +kernel
theorem dX2_spanAt_38 : decode cX2_spanAt 38 = .ok (.iinc 4 1, 3) := by decide +kernel
theorem dX2_spanAt_41 : decode cX2_spanAt 41 = .ok (.goto (-29), 3) := by decide +kernel
theorem dX2_spanAt_44 : decode cX2_spanAt 44 = .ok (.iload 4, 2) := by decide +kernel
theorem dX2_spanAt_46 : decode cX2_spanAt 46 = .ok (.iload_n 2, 1) := by decide +kernel
theorem dX2_spanAt_47 : decode cX2_spanAt 47 = .ok (.isub, 1) := by decide +kernel
theorem dX2_spanAt_48 : decode cX2_spanAt 48 = .ok (.ireturn, 1) := by decide +kernel
set_option maxRecDepth 20000 in
theorem ggX2_depthOf_X2_lengthOf : GoodIn wsX2_depthOf wsX2_lengthOf := goodIn_r _ [10, 11, 12, 25, 26, 27, 28] (by decide +kernel) (by decide +kernel)
set_option maxRecDepth 20000 in
theorem gX2_depthOf_X2_lengthOf : GoodIn wsX2_depthOf (wsV RX2 34 RX2 yX2_lengthOf wsX2_lengthOf) := goodIn_app (goodIn_of _ (by decide +kernel)) ggX2_depthOf_X2_lengthOf
set_option maxRecDepth 20000 in
theorem ggX2_depthOf_X2_cellAt : GoodIn wsX2_depthOf wsX2_cellAt := goodIn_r _ [16, 12, 17, 25, 26, 27, 28] (by decide +kernel) (by decide +kernel)
set_option maxRecDepth 20000 in
theorem gX2_depthOf_X2_cellAt : GoodIn wsX2_depthOf (wsV RX2 46 RX2 yX2_cellAt wsX2_cellAt) := goodIn_app (goodIn_of _ (by decide +kernel)) ggX2_depthOf_X2_cellAt
set_option maxRecDepth 20000 in
theorem ggX2_depthOf_X9_partsIn : GoodIn wsX2_depthOf wsX9_partsIn := goodIn_r _ [20] (by decide +kernel) (by decide +kernel)
set_option maxRecDepth 20000 in
theorem gX2_depthOf_X9_partsIn_n65 : GoodIn wsX2_depthOf (wsX9_partsIn) := ggX2_depthOf_X9_partsIn
set_option maxRecDepth 20000 in
theorem ggX2_depthOf_X2_leave : GoodIn wsX2_depthOf wsX2_leave := goodIn_r _ [24, 5, 25, 26, 27, 28] (by decide +kernel) (by decide +kernel)
set_option maxRecDepth 20000 in
theorem gX2_depthOf_X2_leave : GoodIn wsX2_depthOf (wsV RX2 68 RX2 yX2_leave wsX2_leave) := goodIn_app (goodIn_of _ (by decide +kernel)) ggX2_depthOf_X2_leave
theorem dX2_depthOf_0 : decode cX2_depthOf 0 = .ok (.iconst 0, 1) := by decide +kernel
theorem dX2_depthOf_1 : decode cX2_depthOf 1 = .ok (.istore_n 2, 1) := by decide +kernel
theorem dX2_depthOf_2 : decode cX2_depthOf 2 = .ok (.iconst 0, 1) := by decide +kernel
theorem dX2_depthOf_3 : decode cX2_depthOf 3 = .ok (.istore_n 3, 1) := by decide +kernel
theorem dX2_depthOf_4 : decode cX2_depthOf 4 = .ok (.aload_n 0, 1) := by decide +kernel
theorem dX2_depthOf_5 : decode cX2_depthOf 5 = .ok (.iload_n 1, 1) := by decide +kernel
theorem dX2_depthOf_6 : decode cX2_depthOf 6 = .ok (.invokevirtual 34, 3) := by decide +kernel
theorem dX2_depthOf_9 : decode cX2_depthOf 9 = .ok (.istore 4, 2) := by decide +kernel
theorem dX2_depthOf_11 : decode cX2_depthOf 11 = .ok (.iconst 0, 1) := by decide +kernel
theorem dX2_depthOf_12 : decode cX2_depthOf 12 = .ok (.istore 5, 2) := by decide +kernel
theorem dX2_depthOf_14 : decode cX2_depthOf 14 = .ok (.iload 5, 2) := by decide +kernel
theorem dX2_depthOf_16 : decode cX2_depthOf 16 = .ok (.iload 4, 2) := by decide +kernel
theorem dX2_depthOf_18 : decode cX2_depthOf 18 = .ok (.if_icmp .ge 58, 3) := by decide +kernel
theorem dX2_depthOf_21 : decode cX2_depthOf 21 = .ok (.iload_n 2, 1) := by decide +kernel
theorem dX2_depthOf_22 : decode cX2_depthOf 22 = .ok (.iload_n 3, 1) := by decide +kernel
theorem dX2_depthOf_23 : decode cX2_depthOf 23 = .ok (.invokestatic 15, 3) := by decide +kernel
theorem dX2_depthOf_26 : decode cX2_depthOf 26 = .ok (.istore_n 2, 1) := by decide +kernel
theorem dX2_depthOf_27 : decode cX2_depthOf 27 = .ok (.aload_n 0, 1) := by decide +kernel
theorem dX2_depthOf_28 : decode cX2_depthOf 28 = .ok (.iload_n 1, 1) := by decide +kernel
theorem dX2_depthOf_29 : decode cX2_depthOf 29 = .ok (.iload 5, 2) := by decide +kernel
theorem dX2_depthOf_31 : decode cX2_depthOf 31 = .ok (.invokevirtual 46, 3) := by decide +kernel
theorem dX2_depthOf_34 : decode cX2_depthOf 34 = .ok (.invokestatic 65, 3) := by decide +kernel
theorem dX2_depthOf_37 : decode cX2_depthOf 37 = .ok (.istore 6, 2) := by decide +kernel
theorem dX2_depthOf_39 : decode cX2_depthOf 39 = .ok (.iload 6, 2) := by decide +kernel
theorem dX2_depthOf_41 : decode cX2_depthOf 41 = .ok (.ifCond .le 23, 3) := by decide +kernel
theorem dX2_depthOf_44 : decode cX2_depthOf 44 = .ok (.iload_n 3, 1) := by decide +kernel
theorem dX2_depthOf_45 : decode cX2_depthOf 45 = .ok (.bipush 20, 2) := by decide +kernel
theorem dX2_depthOf_47 : decode cX2_depthOf 47 = .ok (.if_icmp .ge 17, 3) := by decide +kernel
theorem dX2_depthOf_50 : decode cX2_depthOf 50 = .ok (.iinc 3 1, 3) := by decide +kernel
theorem dX2_depthOf_53 : decode cX2_depthOf 53 = .ok (.aload_n 0, 1) := by decide +kernel
theorem dX2_depthOf_54 : decode cX2_depthOf 54 = .ok (.getfield 27, 3) := by decide +kernel
theorem dX2_depthOf_57 : decode cX2_depthOf 57 = .ok (.iload_n 3, 1) := by decide +kernel
theorem dX2_depthOf_58 : decode cX2_depthOf 58 = .ok (.iload 6, 2) := by decide +kernel
theorem dX2_depthOf_60 : decode cX2_depthOf 60 = .ok (.iastore, 1) := by decide +kernel
theorem dX2_depthOf_61 : decode cX2_depthOf 61 = .ok (.goto 9, 3) := by decide +kernel
theorem dX2_depthOf_64 : decode cX2_depthOf 64 = .ok (.aload_n 0, 1) := by decide +kernel
theorem dX2_depthOf_65 : decode cX2_depthOf 65 = .ok (.iload_n 3, 1) := by decide +kernel
theorem dX2_depthOf_66 : decode cX2_depthOf 66 = .ok (.invokevirtual 68, 3) := by decide +kernel
theorem dX2_depthOf_69 : decode cX2_depthOf 69 = .ok (.istore_n 3, 1) := by decide +kernel
theorem dX2_depthOf_70 : decode cX2_depthOf 70 = .ok (.iinc 5 1, 3) := by decide +kernel
theorem dX2_depthOf_73 : decode cX2_depthOf 73 = .ok (.goto (-59), 3) := by decide +kernel
theorem dX2_depthOf_76 : decode cX2_depthOf 76 = .ok (.iload_n 2, 1) := by decide +kernel
theorem dX2_depthOf_77 : decode cX2_depthOf 77 = .ok (.ireturn, 1) := by decide +kernel
theorem dX2_leave_0 : decode cX2_leave 0 = .ok (.iload_n 1, 1) := by decide +kernel
theorem dX2_leave_1 : decode cX2_leave 1 = .ok (.istore_n 2, 1) := by decide +kernel
theorem dX2_leave_2 : decode cX2_leave 2 = .ok (.iload_n 2, 1) := by decide +kernel
theorem dX2_leave_3 : decode cX2_leave 3 = .ok (.ifCond .le 37, 3) := by decide +kernel
theorem dX2_leave_6 : decode cX2_leave 6 = .ok (.iload_n 2, 1) := by decide +kernel
theorem dX2_leave_7 : decode cX2_leave 7 = .ok (.bipush 20, 2) := by decide +kernel
theorem dX2_leave_9 : decode cX2_leave 9 = .ok (.if_icmp .gt 31, 3) := by decide +kernel
theorem dX2_leave_12 : decode cX2_leave 12 = .ok (.aload_n 0, 1) := by decide +kernel
theorem dX2_leave_13 : decode cX2_leave 13 = .ok (.getfield 27, 3) := by decide +kernel
theorem dX2_leave_16 : decode cX2_leave 16 = .ok (.iload_n 2, 1) := by decide +kernel
theorem dX2_leave_17 : decode cX2_leave 17 = .ok (.dup2, 1) := by decide +kernel
theorem dX2_leave_18 : decode cX2_leave 18 = .ok (.iaload, 1) := by decide +kernel
theorem dX2_leave_19 : decode cX2_leave 19 = .ok (.iconst 1, 1) := by decide +kernel
theorem dX2_leave_20 : decode cX2_leave 20 = .ok (.isub, 1) := by decide +kernel
theorem dX2_leave_21 : decode cX2_leave 21 = .ok (.iastore, 1) := by decide +kernel
theorem dX2_leave_22 : decode cX2_leave 22 = .ok (.aload_n 0, 1) := by decide +kernel
theorem dX2_leave_23 : decode cX2_leave 23 = .ok (.getfield 27, 3) := by decide +kernel
theorem dX2_leave_26 : decode cX2_leave 26 = .ok (.iload_n 2, 1) := by decide +kernel
theorem dX2_leave_27 : decode cX2_leave 27 = .ok (.iaload, 1) := by decide +kernel
theorem dX2_leave_28 : decode cX2_leave 28 = .ok (.ifCond .le 6, 3) := by decide +kernel
theorem dX2_leave_31 : decode cX2_leave 31 = .ok (.goto 9, 3) := by decide +kernel
theorem dX2_leave_34 : decode cX2_leave 34 = .ok (.iinc 2 (-1), 3) := by decide +kernel
theorem dX2_leave_37 : decode cX2_leave 37 = .ok (.goto (-35), 3) := by decide +kernel
theorem dX2_leave_40 : decode cX2_leave 40 = .ok (.iload_n 2, 1) := by decide +kernel
theorem dX2_leave_41 : decode cX2_leave 41 = .ok (.ireturn, 1) := by decide +kernel
set_option maxRecDepth 20000 in
theorem ggX2_variablesIn_X2_lengthOf : GoodIn wsX2_variablesIn wsX2_lengthOf := goodIn_r _ [5, 6, 7, 13, 14, 15, 16] (by decide +kernel) (by decide +kernel)
set_option maxRecDepth 20000 in
theorem gX2_variablesIn_X2_lengthOf : GoodIn wsX2_variablesIn (wsV RX2 34 RX2 yX2_lengthOf wsX2_lengthOf) := goodIn_app (goodIn_of _ (by decide +kernel)) ggX2_variablesIn_X2_lengthOf
set_option maxRecDepth 20000 in
theorem ggX2_variablesIn_X2_cellAt : GoodIn wsX2_variablesIn wsX2_cellAt := goodIn_r _ [11, 7, 12, 13, 14, 15, 16] (by decide +kernel) (by decide +kernel)
set_option maxRecDepth 20000 in
theorem gX2_variablesIn_X2_cellAt : GoodIn wsX2_variablesIn (wsV RX2 46 RX2 yX2_cellAt wsX2_cellAt) := goodIn_app (goodIn_of _ (by decide +kernel)) ggX2_variablesIn_X2_cellAt
theorem dX2_variablesIn_0 : decode cX2_variablesIn 0 = .ok (.iconst 0, 1) := by decide +kernel
theorem dX2_variablesIn_1 : decode cX2_variablesIn 1 = .ok (.istore_n 2, 1) := by decide +kernel
theorem dX2_variablesIn_2 : decode cX2_variablesIn 2 = .ok (.iconst 0, 1) := by decide +kernel
theorem dX2_variablesIn_3 : decode cX2_variablesIn 3 = .ok (.istore_n 3, 1) := by decide +kernel
theorem dX2_variablesIn_4 : decode cX2_variablesIn 4 = .ok (.iload_n 3, 1) := by decide +kernel
theorem dX2_variablesIn_5 : decode cX2_variablesIn 5 = .ok (.aload_n 0, 1) := by decide +kernel
theorem dX2_variablesIn_6 : decode cX2_variablesIn 6 = .ok (.iload_n 1, 1) := by decide +kernel
theorem dX2_variablesIn_7 : decode cX2_variablesIn 7 = .ok (.invokevirtual 34, 3) := by decide +kernel
theorem dX2_variablesIn_10 : decode cX2_variablesIn 10 = .ok (.if_icmp .ge 35, 3) := by decide +kernel
theorem dX2_variablesIn_13 : decode cX2_variablesIn 13 = .ok (.aload_n 0, 1) := by decide +kernel
theorem dX2_variablesIn_14 : decode cX2_variablesIn 14 = .ok (.iload_n 1, 1) := by decide +kernel
theorem dX2_variablesIn_15 : decode cX2_variablesIn 15 = .ok (.iload_n 3, 1) := by decide +kernel
theorem dX2_variablesIn_16 : decode cX2_variablesIn 16 = .ok (.invokevirtual 46, 3) := by decide +kernel
theorem dX2_variablesIn_19 : decode cX2_variablesIn 19 = .ok (.istore 4, 2) := by decide +kernel
theorem dX2_variablesIn_21 : decode cX2_variablesIn 21 = .ok (.iload_n 2, 1) := by decide +kernel
theorem dX2_variablesIn_22 : decode cX2_variablesIn 22 = .ok (.iload 4, 2) := by decide +kernel
theorem dX2_variablesIn_24 : decode cX2_variablesIn 24 = .ok (.bipush 8, 2) := by decide +kernel
theorem dX2_variablesIn_26 : decode cX2_variablesIn 26 = .ok (.if_icmp .ge 10, 3) := by decide +kernel
theorem dX2_variablesIn_29 : decode cX2_variablesIn 29 = .ok (.iconst 1, 1) := by decide +kernel
theorem dX2_variablesIn_30 : decode cX2_variablesIn 30 = .ok (.iload 4, 2) := by decide +kernel
theorem dX2_variablesIn_32 : decode cX2_variablesIn 32 = .ok (.ishl, 1) := by decide +kernel
theorem dX2_variablesIn_33 : decode cX2_variablesIn 33 = .ok (.goto 4, 3) := by decide +kernel
theorem dX2_variablesIn_36 : decode cX2_variablesIn 36 = .ok (.iconst 0, 1) := by decide +kernel
theorem dX2_variablesIn_37 : decode cX2_variablesIn 37 = .ok (.ior, 1) := by decide +kernel
theorem dX2_variablesIn_38 : decode cX2_variablesIn 38 = .ok (.istore_n 2, 1) := by decide +kernel
theorem dX2_variablesIn_39 : decode cX2_variablesIn 39 = .ok (.iinc 3 1, 3) := by decide +kernel
theorem dX2_variablesIn_42 : decode cX2_variablesIn 42 = .ok (.goto (-38), 3) := by decide +kernel
theorem dX2_variablesIn_45 : decode cX2_variablesIn 45 = .ok (.iload_n 2, 1) := by decide +kernel
theorem dX2_variablesIn_46 : decode cX2_variablesIn 46 = .ok (.ireturn, 1) := by decide +kernel
set_option maxRecDepth 20000 in
theorem ggX2_timesOfVariables_X2_lengthOf : GoodIn wsX2_timesOfVariables wsX2_lengthOf := goodIn_r _ [5, 6, 7, 13, 14, 15, 16] (by decide +kernel) (by decide +kernel)
set_option maxRecDepth 20000 in
theorem gX2_timesOfVariables_X2_lengthOf : GoodIn wsX2_timesOfVariables (wsV RX2 34 RX2 yX2_lengthOf wsX2_lengthOf) := goodIn_app (goodIn_of _ (by decide +kernel)) ggX2_timesOfVariables_X2_lengthOf
set_option maxRecDepth 20000 in
theorem ggX2_timesOfVariables_X2_cellAt : GoodIn wsX2_timesOfVariables wsX2_cellAt := goodIn_r _ [11, 7, 12, 13, 14, 15, 16] (by decide +kernel) (by decide +kernel)
set_option maxRecDepth 20000 in
theorem gX2_timesOfVariables_X2_cellAt : GoodIn wsX2_timesOfVariables (wsV RX2 46 RX2 yX2_cellAt wsX2_cellAt) := goodIn_app (goodIn_of _ (by decide +kernel)) ggX2_timesOfVariables_X2_cellAt
theorem dX2_timesOfVariables_0 : decode cX2_timesOfVariables 0 = .ok (.iconst 0, 1) := by decide +kernel
theorem dX2_timesOfVariables_1 : decode cX2_timesOfVariables 1 = .ok (.istore_n 2, 1) := by decide +kernel
theorem dX2_timesOfVariables_2 : decode cX2_timesOfVariables 2 = .ok (.iconst 0, 1) := by decide +kernel
theorem dX2_timesOfVariables_3 : decode cX2_timesOfVariables 3 = .ok (.istore_n 3, 1) := by decide +kernel
theorem dX2_timesOfVariables_4 : decode cX2_timesOfVariables 4 = .ok (.iload_n 3, 1) := by decide +kernel
theorem dX2_timesOfVariables_5 : decode cX2_timesOfVariables 5 = .ok (.aload_n 0, 1) := by decide +kernel
theorem dX2_timesOfVariables_6 : decode cX2_timesOfVariables 6 = .ok (.iload_n 1, 1) := by decide +kernel
theorem dX2_timesOfVariables_7 : decode cX2_timesOfVariables 7 = .ok (.invokevirtual 34, 3) := by decide +kernel
theorem dX2_timesOfVariables_10 : decode cX2_timesOfVariables 10 = .ok (.if_icmp .ge 28, 3) := by decide +kernel
theorem dX2_timesOfVariables_13 : decode cX2_timesOfVariables 13 = .ok (.iload_n 2, 1) := by decide +kernel
theorem dX2_timesOfVariables_14 : decode cX2_timesOfVariables 14 = .ok (.aload_n 0, 1) := by decide +kernel
theorem dX2_timesOfVariables_15 : decode cX2_timesOfVariables 15 = .ok (.iload_n 1, 1) := by decide +kernel
theorem dX2_timesOfVariables_16 : decode cX2_timesOfVariables 16 = .ok (.iload_n 3, 1) := by decide +kernel
theorem dX2_timesOfVariables_17 : decode cX2_timesOfVariables 17 = .ok (.invokevirtual 46, 3) := by decide +kernel
theorem dX2_timesOfVariables_20 : decode cX2_timesOfVariables 20 = .ok (.bipush 8, 2) := by decide +kernel
theorem dX2_timesOfVariables_22 : decode cX2_timesOfVariables 22 = .ok (.if_icmp .ge 7, 3) := by decide +kernel
theorem dX2_timesOfVariables_25 : decode cX2_timesOfVariables 25 = .ok (.iconst 1, 1) := by decide +kernel
theorem dX2_timesOfVariables_26 : decode cX2_timesOfVariables 26 = .ok (.goto 4, 3) := by decide +kernel
theorem dX2_timesOfVariables_29 : decode cX2_timesOfVariables 29 = .ok (.iconst 0, 1) := by decide +kernel
theorem dX2_timesOfVariables_30 : decode cX2_timesOfVariables 30 = .ok (.iadd, 1) := by decide +kernel
theorem dX2_timesOfVariables_31 : decode cX2_timesOfVariables 31 = .ok (.istore_n 2, 1) := by decide +kernel
theorem dX2_timesOfVariables_32 : decode cX2_timesOfVariables 32 = .ok (.iinc 3 1, 3) := by decide +kernel
theorem dX2_timesOfVariables_35 : decode cX2_timesOfVariables 35 = .ok (.goto (-31), 3) := by decide +kernel
theorem dX2_timesOfVariables_38 : decode cX2_timesOfVariables 38 = .ok (.iload_n 2, 1) := by decide +kernel
theorem dX2_timesOfVariables_39 : decode cX2_timesOfVariables 39 = .ok (.ireturn, 1) := by decide +kernel
set_option maxRecDepth 20000 in
theorem ggX2_operatorsIn_X2_lengthOf : GoodIn wsX2_operatorsIn wsX2_lengthOf := goodIn_r _ [5, 6, 7, 16, 17, 18, 19] (by decide +kernel) (by decide +kernel)
set_option maxRecDepth 20000 in
theorem gX2_operatorsIn_X2_lengthOf : GoodIn wsX2_operatorsIn (wsV RX2 34 RX2 yX2_lengthOf wsX2_lengthOf) := goodIn_app (goodIn_of _ (by decide +kernel)) ggX2_operatorsIn_X2_lengthOf
set_option maxRecDepth 20000 in
theorem ggX2_operatorsIn_X2_cellAt : GoodIn wsX2_operatorsIn wsX2_cellAt := goodIn_r _ [11, 7, 12, 16, 17, 18, 19] (by decide +kernel) (by decide +kernel)
set_option maxRecDepth 20000 in
theorem gX2_operatorsIn_X2_cellAt : GoodIn wsX2_operatorsIn (wsV RX2 46 RX2 yX2_cellAt wsX2_cellAt) := goodIn_app (goodIn_of _ (by decide +kernel)) ggX2_operatorsIn_X2_cellAt
set_option maxRecDepth 20000 in
theorem ggX2_operatorsIn_X9_operatorIn : GoodIn wsX2_operatorsIn wsX9_operatorIn := goodIn_r _ [15] (by decide +kernel) (by decide +kernel)
set_option maxRecDepth 20000 in
theorem gX2_operatorsIn_X9_operatorIn_n71 : GoodIn wsX2_operatorsIn (wsX9_operatorIn) := ggX2_operatorsIn_X9_operatorIn
theorem dX2_operatorsIn_0 : decode cX2_operatorsIn 0 = .ok (.iconst 0, 1) := by decide +kernel
theorem dX2_operatorsIn_1 : decode cX2_operatorsIn 1 = .ok (.istore_n 2, 1) := by decide +kernel
theorem dX2_operatorsIn_2 : decode cX2_operatorsIn 2 = .ok (.iconst 0, 1) := by decide +kernel
theorem dX2_operatorsIn_3 : decode cX2_operatorsIn 3 = .ok (.istore_n 3, 1) := by decide +kernel
theorem dX2_operatorsIn_4 : decode cX2_operatorsIn 4 = .ok (.iload_n 3, 1) := by decide +kernel
theorem dX2_operatorsIn_5 : decode cX2_operatorsIn 5 = .ok (.aload_n 0, 1) := by decide +kernel
theorem dX2_operatorsIn_6 : decode cX2_operatorsIn 6 = .ok (.iload_n 1, 1) := by decide +kernel
theorem dX2_operatorsIn_7 : decode cX2_operatorsIn 7 = .ok (.invokevirtual 34, 3) := by decide +kernel
theorem dX2_operatorsIn_10 : decode cX2_operatorsIn 10 = .ok (.if_icmp .ge 38, 3) := by decide +kernel
theorem dX2_operatorsIn_13 : decode cX2_operatorsIn 13 = .ok (.aload_n 0, 1) := by decide +kernel
theorem dX2_operatorsIn_14 : decode cX2_operatorsIn 14 = .ok (.iload_n 1, 1) := by decide +kernel
theorem dX2_operatorsIn_15 : decode cX2_operatorsIn 15 = .ok (.iload_n 3, 1) := by decide +kernel
theorem dX2_operatorsIn_16 : decode cX2_operatorsIn 16 = .ok (.invokevirtual 46, 3) := by decide +kernel
theorem dX2_operatorsIn_19 : decode cX2_operatorsIn 19 = .ok (.istore 4, 2) := by decide +kernel
theorem dX2_operatorsIn_21 : decode cX2_operatorsIn 21 = .ok (.iload_n 2, 1) := by decide +kernel
theorem dX2_operatorsIn_22 : decode cX2_operatorsIn 22 = .ok (.iload 4, 2) := by decide +kernel
theorem dX2_operatorsIn_24 : decode cX2_operatorsIn 24 = .ok (.bipush 8, 2) := by decide +kernel
theorem dX2_operatorsIn_26 : decode cX2_operatorsIn 26 = .ok (.if_icmp .ge 7, 3) := by decide +kernel
theorem dX2_operatorsIn_29 : decode cX2_operatorsIn 29 = .ok (.iconst 0, 1) := by decide +kernel
theorem dX2_operatorsIn_30 : decode cX2_operatorsIn 30 = .ok (.goto 10, 3) := by decide +kernel
theorem dX2_operatorsIn_33 : decode cX2_operatorsIn 33 = .ok (.iconst 1, 1) := by decide +kernel
theorem dX2_operatorsIn_34 : decode cX2_operatorsIn 34 = .ok (.iload 4, 2) := by decide +kernel
theorem dX2_operatorsIn_36 : decode cX2_operatorsIn 36 = .ok (.invokestatic 71, 3) := by decide +kernel
theorem dX2_operatorsIn_39 : decode cX2_operatorsIn 39 = .ok (.ishl, 1) := by decide +kernel
theorem dX2_operatorsIn_40 : decode cX2_operatorsIn 40 = .ok (.ior, 1) := by decide +kernel
theorem dX2_operatorsIn_41 : decode cX2_operatorsIn 41 = .ok (.istore_n 2, 1) := by decide +kernel
theorem dX2_operatorsIn_42 : decode cX2_operatorsIn 42 = .ok (.iinc 3 1, 3) := by decide +kernel
theorem dX2_operatorsIn_45 : decode cX2_operatorsIn 45 = .ok (.goto (-41), 3) := by decide +kernel
theorem dX2_operatorsIn_48 : decode cX2_operatorsIn 48 = .ok (.iload_n 2, 1) := by decide +kernel
theorem dX2_operatorsIn_49 : decode cX2_operatorsIn 49 = .ok (.ireturn, 1) := by decide +kernel
set_option maxRecDepth 20000 in
theorem ggX2_partsWith_X2_cellAt : GoodIn wsX2_partsWith wsX2_cellAt := goodIn_r _ [5, 6, 7, 22, 23, 24, 25] (by decide +kernel) (by decide +kernel)
set_option maxRecDepth 20000 in
theorem gX2_partsWith_X2_cellAt : GoodIn wsX2_partsWith (wsV RX2 46 RX2 yX2_cellAt wsX2_cellAt) := goodIn_app (goodIn_of _ (by decide +kernel)) ggX2_partsWith_X2_cellAt
set_option maxRecDepth 20000 in
theorem ggX2_partsWith_X9_partsIn : GoodIn wsX2_partsWith wsX9_partsIn := goodIn_r _ [10] (by decide +kernel) (by decide +kernel)
set_option maxRecDepth 20000 in
theorem gX2_partsWith_X9_partsIn_n65 : GoodIn wsX2_partsWith (wsX9_partsIn) := ggX2_partsWith_X9_partsIn
set_option maxRecDepth 20000 in
theorem ggX2_partsWith_X9_operatorIn : GoodIn wsX2_partsWith wsX9_operatorIn := goodIn_r _ [12] (by decide +kernel) (by decide +kernel)
set_option maxRecDepth 20000 in
theorem gX2_partsWith_X9_operatorIn_n71 : GoodIn wsX2_partsWith (wsX9_operatorIn) := ggX2_partsWith_X9_operatorIn
set_option maxRecDepth 20000 in
theorem ggX2_partsWith_X2_spanAt : GoodIn wsX2_partsWith wsX2_spanAt := goodIn_r _ [16, 17, 18, 19, 4, 20, 21, 6, 1, 2, 3, 5, 7, 8, 9, 10, 22, 23, 24, 25] (by decide +kernel) (by decide +kernel)
set_option maxRecDepth 20000 in
theorem gX2_partsWith_X2_spanAt : GoodIn wsX2_partsWith (wsV RX2 74 RX2 yX2_spanAt wsX2_spanAt) := goodIn_app (goodIn_of _ (by decide +kernel)) ggX2_partsWith_X2_spanAt
theorem dX2_partsWith_0 : decode cX2_partsWith 0 = .ok (.iconst 0, 1) := by decide +kernel
theorem dX2_partsWith_1 : decode cX2_partsWith 1 = .ok (.istore_n 3, 1) := by decide +kernel
theorem dX2_partsWith_2 : decode cX2_partsWith 2 = .ok (.iconst 1, 1) := by decide +kernel
theorem dX2_partsWith_3 : decode cX2_partsWith 3 = .ok (.istore 4, 2) := by decide +kernel
theorem dX2_partsWith_5 : decode cX2_partsWith 5 = .ok (.aload_n 0, 1) := by decide +kernel
theorem dX2_partsWith_6 : decode cX2_partsWith 6 = .ok (.iload_n 1, 1) := by decide +kernel
theorem dX2_partsWith_7 : decode cX2_partsWith 7 = .ok (.iconst 0, 1) := by decide +kernel
theorem dX2_partsWith_8 : decode cX2_partsWith 8 = .ok (.invokevirtual 46, 3) := by decide +kernel
theorem dX2_partsWith_11 : decode cX2_partsWith 11 = .ok (.invokestatic 65, 3) := by decide +kernel
theorem dX2_partsWith_14 : decode cX2_partsWith 14 = .ok (.istore 5, 2) := by decide +kernel
theorem dX2_partsWith_16 : decode cX2_partsWith 16 = .ok (.iload 5, 2) := by decide +kernel
theorem dX2_partsWith_18 : decode cX2_partsWith 18 = .ok (.ifCond .le 43, 3) := by decide +kernel
theorem dX2_partsWith_21 : decode cX2_partsWith 21 = .ok (.iload_n 3, 1) := by decide +kernel
theorem dX2_partsWith_22 : decode cX2_partsWith 22 = .ok (.aload_n 0, 1) := by decide +kernel
theorem dX2_partsWith_23 : decode cX2_partsWith 23 = .ok (.iload_n 1, 1) := by decide +kernel
theorem dX2_partsWith_24 : decode cX2_partsWith 24 = .ok (.iload 4, 2) := by decide +kernel
theorem dX2_partsWith_26 : decode cX2_partsWith 26 = .ok (.invokevirtual 46, 3) := by decide +kernel
theorem dX2_partsWith_29 : decode cX2_partsWith 29 = .ok (.invokestatic 71, 3) := by decide +kernel
theorem dX2_partsWith_32 : decode cX2_partsWith 32 = .ok (.iload_n 2, 1) := by decide +kernel
theorem dX2_partsWith_33 : decode cX2_partsWith 33 = .ok (.if_icmp .ne 7, 3) := by decide +kernel
theorem dX2_partsWith_36 : decode cX2_partsWith 36 = .ok (.iconst 1, 1) := by decide +kernel
theorem dX2_partsWith_37 : decode cX2_partsWith 37 = .ok (.goto 4, 3) := by decide +kernel
theorem dX2_partsWith_40 : decode cX2_partsWith 40 = .ok (.iconst 0, 1) := by decide +kernel
theorem dX2_partsWith_41 : decode cX2_partsWith 41 = .ok (.iadd, 1) := by decide +kernel
theorem dX2_partsWith_42 : decode cX2_partsWith 42 = .ok (.istore_n 3, 1) := by decide +kernel
theorem dX2_partsWith_43 : decode cX2_partsWith 43 = .ok (.iload 4, 2) := by decide +kernel
theorem dX2_partsWith_45 : decode cX2_partsWith 45 = .ok (.aload_n 0, 1) := by decide +kernel
theorem dX2_partsWith_46 : decode cX2_partsWith 46 = .ok (.iload_n 1, 1) := by decide +kernel
theorem dX2_partsWith_47 : decode cX2_partsWith 47 = .ok (.iload 4, 2) := by decide +kernel
theorem dX2_partsWith_49 : decode cX2_partsWith 49 = .ok (.invokevirtual 74, 3) := by decide +kernel
theorem dX2_partsWith_52 : decode cX2_partsWith 52 = .ok (.iadd, 1) := by decide +kernel
theorem dX2_partsWith_53 : decode cX2_partsWith 53 = .ok (.istore 4, 2) := by decide +kernel
theorem dX2_partsWith_55 : decode cX2_partsWith 55 = .ok (.iinc 5 (-1), 3) := by decide +kernel
theorem dX2_partsWith_58 : decode cX2_partsWith 58 = .ok (.goto (-42), 3) := by decide +kernel
theorem dX2_partsWith_61 : decode cX2_partsWith 61 = .ok (.iload_n 3, 1) := by decide +kernel
theorem dX2_partsWith_62 : decode cX2_partsWith 62 = .ok (.ireturn, 1) := by decide +kernel
