theorem dX4_closeAll_6 : decode cX4_closeAll 6 = .ok (.iload_n 2, 1) := by decide +kernel
theorem dX4_closeAll_7 : decode cX4_closeAll 7 = .ok (.bipush 20, 2) := by decide +kernel
theorem dX4_closeAll_9 : decode cX4_closeAll 9 = .ok (.if_icmp .gt 43, 3) := by decide +kernel
theorem dX4_closeAll_12 : decode cX4_closeAll 12 = .ok (.aload_n 0, 1) := by decide +kernel
theorem dX4_closeAll_13 : decode cX4_closeAll 13 = .ok (.getfield 24, 3) := by decide +kernel
theorem dX4_closeAll_16 : decode cX4_closeAll 16 = .ok (.iload_n 2, 1) := by decide +kernel
theorem dX4_closeAll_17 : decode cX4_closeAll 17 = .ok (.dup2, 1) := by decide +kernel
theorem dX4_closeAll_18 : decode cX4_closeAll 18 = .ok (.iaload, 1) := by decide +kernel
theorem dX4_closeAll_19 : decode cX4_closeAll 19 = .ok (.iconst 1, 1) := by decide +kernel
theorem dX4_closeAll_20 : decode cX4_closeAll 20 = .ok (.isub, 1) := by decide +kernel
theorem dX4_closeAll_21 : decode cX4_closeAll 21 = .ok (.iastore, 1) := by decide +kernel
theorem dX4_closeAll_22 : decode cX4_closeAll 22 = .ok (.aload_n 0, 1) := by decide +kernel
theorem dX4_closeAll_23 : decode cX4_closeAll 23 = .ok (.getfield 24, 3) := by decide +kernel
theorem dX4_closeAll_26 : decode cX4_closeAll 26 = .ok (.iload_n 2, 1) := by decide +kernel
theorem dX4_closeAll_27 : decode cX4_closeAll 27 = .ok (.iaload, 1) := by decide +kernel
theorem dX4_closeAll_28 : decode cX4_closeAll 28 = .ok (.ifCond .le 12, 3) := by decide +kernel
theorem dX4_closeAll_31 : decode cX4_closeAll 31 = .ok (.aload_n 0, 1) := by decide +kernel
theorem dX4_closeAll_32 : decode cX4_closeAll 32 = .ok (.bipush 44, 2) := by decide +kernel
theorem dX4_closeAll_34 : decode cX4_closeAll 34 = .ok (.invokevirtual 64, 3) := by decide +kernel
theorem dX4_closeAll_37 : decode cX4_closeAll 37 = .ok (.goto 15, 3) := by decide +kernel
theorem dX4_closeAll_40 : decode cX4_closeAll 40 = .ok (.aload_n 0, 1) := by decide +kernel
theorem dX4_closeAll_41 : decode cX4_closeAll 41 = .ok (.bipush 41, 2) := by decide +kernel
theorem dX4_closeAll_43 : decode cX4_closeAll 43 = .ok (.invokevirtual 64, 3) := by decide +kernel
theorem dX4_closeAll_46 : decode cX4_closeAll 46 = .ok (.iinc 2 (-1), 3) := by decide +kernel
theorem dX4_closeAll_49 : decode cX4_closeAll 49 = .ok (.goto (-47), 3) := by decide +kernel
theorem dX4_closeAll_52 : decode cX4_closeAll 52 = .ok (.iload_n 2, 1) := by decide +kernel
theorem dX4_closeAll_53 : decode cX4_closeAll 53 = .ok (.ireturn, 1) := by decide +kernel
theorem dX4_putName_0 : decode cX4_putName 0 = .ok (.bipush 25, 2) := by decide +kernel
theorem dX4_putName_2 : decode cX4_putName 2 = .ok (.istore_n 2, 1) := by decide +kernel
theorem dX4_putName_3 : decode cX4_putName 3 = .ok (.iload_n 2, 1) := by decide +kernel
theorem dX4_putName_4 : decode cX4_putName 4 = .ok (.ifCond .lt 30, 3) := by decide +kernel
theorem dX4_putName_7 : decode cX4_putName 7 = .ok (.iload_n 1, 1) := by decide +kernel
theorem dX4_putName_8 : decode cX4_putName 8 = .ok (.iload_n 2, 1) := by decide +kernel
theorem dX4_putName_9 : decode cX4_putName 9 = .ok (.iushr, 1) := by decide +kernel
theorem dX4_putName_10 : decode cX4_putName 10 = .ok (.bipush 31, 2) := by decide +kernel
theorem dX4_putName_12 : decode cX4_putName 12 = .ok (.iand, 1) := by decide +kernel
theorem dX4_putName_13 : decode cX4_putName 13 = .ok (.istore_n 3, 1) := by decide +kernel
theorem dX4_putName_14 : decode cX4_putName 14 = .ok (.iload_n 3, 1) := by decide +kernel
theorem dX4_putName_15 : decode cX4_putName 15 = .ok (.ifCond .le 13, 3) := by decide +kernel
theorem dX4_putName_18 : decode cX4_putName 18 = .ok (.aload_n 0, 1) := by decide +kernel
theorem dX4_putName_19 : decode cX4_putName 19 = .ok (.bipush 97, 2) := by decide +kernel
theorem dX4_putName_21 : decode cX4_putName 21 = .ok (.iload_n 3, 1) := by decide +kernel
theorem dX4_putName_22 : decode cX4_putName 22 = .ok (.iadd, 1) := by decide +kernel
theorem dX4_putName_23 : decode cX4_putName 23 = .ok (.iconst 1, 1) := by decide +kernel
theorem dX4_putName_24 : decode cX4_putName 24 = .ok (.isub, 1) := by decide +kernel
theorem dX4_putName_25 : decode cX4_putName 25 = .ok (.invokevirtual 64, 3) := by decide +kernel
theorem dX4_putName_28 : decode cX4_putName 28 = .ok (.iinc 2 (-5), 3) := by decide +kernel
theorem dX4_putName_31 : decode cX4_putName 31 = .ok (.goto (-28), 3) := by decide +kernel
theorem dX4_putName_34 : decode cX4_putName 34 = .ok (.return_, 1) := by decide +kernel
theorem dX4_putByte_0 : decode cX4_putByte 0 = .ok (.aload_n 0, 1) := by decide +kernel
theorem dX4_putByte_1 : decode cX4_putByte 1 = .ok (.getfield 34, 3) := by decide +kernel
theorem dX4_putByte_4 : decode cX4_putByte 4 = .ok (.ifCond .lt 33, 3) := by decide +kernel
theorem dX4_putByte_7 : decode cX4_putByte 7 = .ok (.aload_n 0, 1) := by decide +kernel
theorem dX4_putByte_8 : decode cX4_putByte 8 = .ok (.getfield 34, 3) := by decide +kernel
theorem dX4_putByte_11 : decode cX4_putByte 11 = .ok (.sipush 256, 3) := by decide +kernel
theorem dX4_putByte_14 : decode cX4_putByte 14 = .ok (.if_icmp .ge 23, 3) := by decide +kernel
theorem dX4_putByte_17 : decode cX4_putByte 17 = .ok (.aload_n 0, 1) := by decide +kernel
theorem dX4_putByte_18 : decode cX4_putByte 18 = .ok (.getfield 20, 3) := by decide +kernel
theorem dX4_putByte_21 : decode cX4_putByte 21 = .ok (.aload_n 0, 1) := by decide +kernel
theorem dX4_putByte_22 : decode cX4_putByte 22 = .ok (.getfield 34, 3) := by decide +kernel
theorem dX4_putByte_25 : decode cX4_putByte 25 = .ok (.iload_n 1, 1) := by decide +kernel
theorem dX4_putByte_26 : decode cX4_putByte 26 = .ok (.iastore, 1) := by decide +kernel
theorem dX4_putByte_27 : decode cX4_putByte 27 = .ok (.aload_n 0, 1) := by decide +kernel
theorem dX4_putByte_28 : decode cX4_putByte 28 = .ok (.dup, 1) := by decide +kernel
theorem dX4_putByte_29 : decode cX4_putByte 29 = .ok (.getfield 34, 3) := by decide +kernel
theorem dX4_putByte_32 : decode cX4_putByte 32 = .ok (.iconst 1, 1) := by decide +kernel
theorem dX4_putByte_33 : decode cX4_putByte 33 = .ok (.iadd, 1) := by decide +kernel
theorem dX4_putByte_34 : decode cX4_putByte 34 = .ok (.putfield 34, 3) := by decide +kernel
theorem dX4_putByte_37 : decode cX4_putByte 37 = .ok (.return_, 1) := by decide +kernel

theorem dX5_init_0 : decode cX5_init 0 = .ok (.aload_n 0, 1) := by decide +kernel
theorem dX5_init_1 : decode cX5_init 1 = .ok (.invokespecial 3, 3) := by decide +kernel
theorem dX5_init_4 : decode cX5_init 4 = .ok (.aload_n 0, 1) := by decide +kernel
theorem dX5_init_5 : decode cX5_init 5 = .ok (.bipush 10, 2) := by decide +kernel
theorem dX5_init_7 : decode cX5_init 7 = .ok (.newarray .int, 2) := by decide +kernel
theorem dX5_init_9 : decode cX5_init 9 = .ok (.putfield 9, 3) := by decide +kernel
theorem dX5_init_12 : decode cX5_init 12 = .ok (.aload_n 0, 1) := by decide +kernel
theorem dX5_init_13 : decode cX5_init 13 = .ok (.bipush 10, 2) := by decide +kernel
theorem dX5_init_15 : decode cX5_init 15 = .ok (.newarray .int, 2) := by decide +kernel
theorem dX5_init_17 : decode cX5_init 17 = .ok (.putfield 15, 3) := by decide +kernel
theorem dX5_init_20 : decode cX5_init 20 = .ok (.aload_n 0, 1) := by decide +kernel
theorem dX5_init_21 : decode cX5_init 21 = .ok (.bipush 10, 2) := by decide +kernel
theorem dX5_init_23 : decode cX5_init 23 = .ok (.newarray .int, 2) := by decide +kernel
theorem dX5_init_25 : decode cX5_init 25 = .ok (.putfield 18, 3) := by decide +kernel
theorem dX5_init_28 : decode cX5_init 28 = .ok (.aload_n 0, 1) := by decide +kernel
theorem dX5_init_29 : decode cX5_init 29 = .ok (.bipush 10, 2) := by decide +kernel
theorem dX5_init_31 : decode cX5_init 31 = .ok (.newarray .int, 2) := by decide +kernel
theorem dX5_init_33 : decode cX5_init 33 = .ok (.putfield 21, 3) := by decide +kernel
theorem dX5_init_36 : decode cX5_init 36 = .ok (.aload_n 0, 1) := by decide +kernel
theorem dX5_init_37 : decode cX5_init 37 = .ok (.iconst 5, 1) := by decide +kernel
theorem dX5_init_38 : decode cX5_init 38 = .ok (.newarray .int, 2) := by decide +kernel
theorem dX5_init_40 : decode cX5_init 40 = .ok (.putfield 24, 3) := by decide +kernel
theorem dX5_init_43 : decode cX5_init 43 = .ok (.return_, 1) := by decide +kernel
theorem dX5_takeOver_0 : decode cX5_takeOver 0 = .ok (.aload_n 1, 1) := by decide +kernel
theorem dX5_takeOver_1 : decode cX5_takeOver 1 = .ok (.getfield 9, 3) := by decide +kernel
theorem dX5_takeOver_4 : decode cX5_takeOver 4 = .ok (.iconst 0, 1) := by decide +kernel
theorem dX5_takeOver_5 : decode cX5_takeOver 5 = .ok (.aload_n 0, 1) := by decide +kernel
theorem dX5_takeOver_6 : decode cX5_takeOver 6 = .ok (.getfield 9, 3) := by decide +kernel
theorem dX5_takeOver_9 : decode cX5_takeOver 9 = .ok (.iconst 0, 1) := by decide +kernel
theorem dX5_takeOver_10 : decode cX5_takeOver 10 = .ok (.bipush 10, 2) := by decide +kernel
theorem dX5_takeOver_12 : decode cX5_takeOver 12 = .ok (.invokestatic 27, 3) := by decide +kernel
theorem dX5_takeOver_15 : decode cX5_takeOver 15 = .ok (.aload_n 1, 1) := by decide +kernel
theorem dX5_takeOver_16 : decode cX5_takeOver 16 = .ok (.getfield 15, 3) := by decide +kernel
theorem dX5_takeOver_19 : decode cX5_takeOver 19 = .ok (.iconst 0, 1) := by decide +kernel
theorem dX5_takeOver_20 : decode cX5_takeOver 20 = .ok (.aload_n 0, 1) := by decide +kernel
theorem dX5_takeOver_21 : decode cX5_takeOver 21 = .ok (.getfield 15, 3) := by decide +kernel
theorem dX5_takeOver_24 : decode cX5_takeOver 24 = .ok (.iconst 0, 1) := by decide +kernel
theorem dX5_takeOver_25 : decode cX5_takeOver 25 = .ok (.bipush 10, 2) := by decide +kernel
theorem dX5_takeOver_27 : decode cX5_takeOver 27 = .ok (.invokestatic 27, 3) := by decide +kernel
theorem dX5_takeOver_30 : decode cX5_takeOver 30 = .ok (.aload_n 1, 1) := by decide +kernel
theorem dX5_takeOver_31 : decode cX5_takeOver 31 = .ok (.getfield 18, 3) := by decide +kernel
theorem dX5_takeOver_34 : decode cX5_takeOver 34 = .ok (.iconst 0, 1) := by decide +kernel
theorem dX5_takeOver_35 : decode cX5_takeOver 35 = .ok (.aload_n 0, 1) := by decide +kernel
theorem dX5_takeOver_36 : decode cX5_takeOver 36 = .ok (.getfield 18, 3) := by decide +kernel
theorem dX5_takeOver_39 : decode cX5_takeOver 39 = .ok (.iconst 0, 1) := by decide +kernel
theorem dX5_takeOver_40 : decode cX5_takeOver 40 = .ok (.bipush 10, 2) := by decide +kernel
theorem dX5_takeOver_42 : decode cX5_takeOver 42 = .ok (.invokestatic 27, 3) := by decide +kernel
theorem dX5_takeOver_45 : decode cX5_takeOver 45 = .ok (.aload_n 1, 1) := by decide +kernel
theorem dX5_takeOver_46 : decode cX5_takeOver 46 = .ok (.getfield 21, 3) := by decide +kernel
theorem dX5_takeOver_49 : decode cX5_takeOver 49 = .ok (.iconst 0, 1) := by decide +kernel
theorem dX5_takeOver_50 : decode cX5_takeOver 50 = .ok (.aload_n 0, 1) := by decide +kernel
theorem dX5_takeOver_51 : decode cX5_takeOver 51 = .ok (.getfield 21, 3) := by decide +kernel
theorem dX5_takeOver_54 : decode cX5_takeOver 54 = .ok (.iconst 0, 1) := by decide +kernel
theorem dX5_takeOver_55 : decode cX5_takeOver 55 = .ok (.bipush 10, 2) := by decide +kernel
theorem dX5_takeOver_57 : decode cX5_takeOver 57 = .ok (.invokestatic 27, 3) := by decide +kernel
theorem dX5_takeOver_60 : decode cX5_takeOver 60 = .ok (.aload_n 1, 1) := by decide +kernel
theorem dX5_takeOver_61 : decode cX5_takeOver 61 = .ok (.getfield 24, 3) := by decide +kernel
theorem dX5_takeOver_64 : decode cX5_takeOver 64 = .ok (.iconst 0, 1) := by decide +kernel
theorem dX5_takeOver_65 : decode cX5_takeOver 65 = .ok (.aload_n 0, 1) := by decide +kernel
theorem dX5_takeOver_66 : decode cX5_takeOver 66 = .ok (.getfield 24, 3) := by decide +kernel
theorem dX5_takeOver_69 : decode cX5_takeOver 69 = .ok (.iconst 0, 1) := by decide +kernel
theorem dX5_takeOver_70 : decode cX5_takeOver 70 = .ok (.iconst 5, 1) := by decide +kernel
theorem dX5_takeOver_71 : decode cX5_takeOver 71 = .ok (.invokestatic 27, 3) := by decide +kernel
theorem dX5_takeOver_74 : decode cX5_takeOver 74 = .ok (.aload_n 0, 1) := by decide +kernel
theorem dX5_takeOver_75 : decode cX5_takeOver 75 = .ok (.aload_n 1, 1) := by decide +kernel
theorem dX5_takeOver_76 : decode cX5_takeOver 76 = .ok (.getfield 33, 3) := by decide +kernel
theorem dX5_takeOver_79 : decode cX5_takeOver 79 = .ok (.putfield 33, 3) := by decide +kernel
theorem dX5_takeOver_82 : decode cX5_takeOver 82 = .ok (.aload_n 0, 1) := by decide +kernel
theorem dX5_takeOver_83 : decode cX5_takeOver 83 = .ok (.aload_n 1, 1) := by decide +kernel
theorem dX5_takeOver_84 : decode cX5_takeOver 84 = .ok (.getfield 37, 3) := by decide +kernel
theorem dX5_takeOver_87 : decode cX5_takeOver 87 = .ok (.putfield 37, 3) := by decide +kernel
theorem dX5_takeOver_90 : decode cX5_takeOver 90 = .ok (.aload_n 0, 1) := by decide +kernel
theorem dX5_takeOver_91 : decode cX5_takeOver 91 = .ok (.aload_n 1, 1) := by decide +kernel
theorem dX5_takeOver_92 : decode cX5_takeOver 92 = .ok (.getfield 40, 3) := by decide +kernel
theorem dX5_takeOver_95 : decode cX5_takeOver 95 = .ok (.putfield 40, 3) := by decide +kernel
theorem dX5_takeOver_98 : decode cX5_takeOver 98 = .ok (.return_, 1) := by decide +kernel
theorem dX5_read_0 : decode cX5_read 0 = .ok (.aload_n 0, 1) := by decide +kernel
theorem dX5_read_1 : decode cX5_read 1 = .ok (.iconst 0, 1) := by decide +kernel
theorem dX5_read_2 : decode cX5_read 2 = .ok (.putfield 33, 3) := by decide +kernel
theorem dX5_read_5 : decode cX5_read 5 = .ok (.aload_n 0, 1) := by decide +kernel
theorem dX5_read_6 : decode cX5_read 6 = .ok (.iconst 0, 1) := by decide +kernel
theorem dX5_read_7 : decode cX5_read 7 = .ok (.putfield 37, 3) := by decide +kernel
theorem dX5_read_10 : decode cX5_read 10 = .ok (.aload_n 0, 1) := by decide +kernel
theorem dX5_read_11 : decode cX5_read 11 = .ok (.bipush 31, 2) := by decide +kernel
theorem dX5_read_13 : decode cX5_read 13 = .ok (.putfield 40, 3) := by decide +kernel
theorem dX5_read_16 : decode cX5_read 16 = .ok (.iconst 0, 1) := by decide +kernel
theorem dX5_read_17 : decode cX5_read 17 = .ok (.istore_n 2, 1) := by decide +kernel
theorem dX5_read_18 : decode cX5_read 18 = .ok (.iload_n 2, 1) := by decide +kernel
theorem dX5_read_19 : decode cX5_read 19 = .ok (.sipush 400, 3) := by decide +kernel
theorem dX5_read_22 : decode cX5_read 22 = .ok (.if_icmp .ge 41, 3) := by decide +kernel
theorem dX5_read_25 : decode cX5_read 25 = .ok (.aload_n 1, 1) := by decide +kernel
theorem dX5_read_26 : decode cX5_read 26 = .ok (.getfield 43, 3) := by decide +kernel
theorem dX5_read_29 : decode cX5_read 29 = .ok (.ifCond .ne 5, 3) := by decide +kernel
theorem dX5_read_32 : decode cX5_read 32 = .ok (.iconst 1, 1) := by decide +kernel
theorem dX5_read_33 : decode cX5_read 33 = .ok (.ireturn, 1) := by decide +kernel
theorem dX5_read_34 : decode cX5_read 34 = .ok (.aload_n 0, 1) := by decide +kernel
theorem dX5_read_35 : decode cX5_read 35 = .ok (.aload_n 1, 1) := by decide +kernel
theorem dX5_read_36 : decode cX5_read 36 = .ok (.invokevirtual 48, 3) := by decide +kernel
theorem dX5_read_39 : decode cX5_read 39 = .ok (.ifCond .eq 12, 3) := by decide +kernel
theorem dX5_read_42 : decode cX5_read 42 = .ok (.aload_n 1, 1) := by decide +kernel
theorem dX5_read_43 : decode cX5_read 43 = .ok (.bipush 59, 2) := by decide +kernel
theorem dX5_read_45 : decode cX5_read 45 = .ok (.invokevirtual 52, 3) := by decide +kernel
theorem dX5_read_48 : decode cX5_read 48 = .ok (.ifCond .ne 5, 3) := by decide +kernel
theorem dX5_read_51 : decode cX5_read 51 = .ok (.iconst 0, 1) := by decide +kernel
theorem dX5_read_52 : decode cX5_read 52 = .ok (.ireturn, 1) := by decide +kernel
theorem dX5_read_53 : decode cX5_read 53 = .ok (.aload_n 1, 1) := by decide +kernel
theorem dX5_read_54 : decode cX5_read 54 = .ok (.invokevirtual 56, 3) := by decide +kernel
theorem dX5_read_57 : decode cX5_read 57 = .ok (.iinc 2 1, 3) := by decide +kernel
theorem dX5_read_60 : decode cX5_read 60 = .ok (.goto (-42), 3) := by decide +kernel
theorem dX5_read_63 : decode cX5_read 63 = .ok (.aload_n 1, 1) := by decide +kernel
theorem dX5_read_64 : decode cX5_read 64 = .ok (.getfield 43, 3) := by decide +kernel
theorem dX5_read_67 : decode cX5_read 67 = .ok (.ifCond .ne 7, 3) := by decide +kernel
theorem dX5_read_70 : decode cX5_read 70 = .ok (.iconst 1, 1) := by decide +kernel
theorem dX5_read_71 : decode cX5_read 71 = .ok (.goto 4, 3) := by decide +kernel
theorem dX5_read_74 : decode cX5_read 74 = .ok (.iconst 0, 1) := by decide +kernel
theorem dX5_read_75 : decode cX5_read 75 = .ok (.ireturn, 1) := by decide +kernel
theorem dX5_readClause_0 : decode cX5_readClause 0 = .ok (.aload_n 1, 1) := by decide +kernel
theorem dX5_readClause_1 : decode cX5_readClause 1 = .ok (.getfield 43, 3) := by decide +kernel
theorem dX5_readClause_4 : decode cX5_readClause 4 = .ok (.iconst 1, 1) := by decide +kernel
theorem dX5_readClause_5 : decode cX5_readClause 5 = .ok (.if_icmp .ne 10, 3) := by decide +kernel
theorem dX5_readClause_8 : decode cX5_readClause 8 = .ok (.aload_n 1, 1) := by decide +kernel
theorem dX5_readClause_9 : decode cX5_readClause 9 = .ok (.getfield 59, 3) := by decide +kernel
theorem dX5_readClause_12 : decode cX5_readClause 12 = .ok (.goto 4, 3) := by decide +kernel
theorem dX5_readClause_15 : decode cX5_readClause 15 = .ok (.iconst 0, 1) := by decide +kernel
theorem dX5_readClause_16 : decode cX5_readClause 16 = .ok (.istore_n 2, 1) := by decide +kernel
theorem dX5_readClause_17 : decode cX5_readClause 17 = .ok (.iload_n 2, 1) := by decide +kernel
theorem dX5_readClause_18 : decode cX5_readClause 18 = .ok (.sipush 22578, 3) := by decide +kernel
theorem dX5_readClause_21 : decode cX5_readClause 21 = .ok (.if_icmp .ne 7, 3) := by decide +kernel
theorem dX5_readClause_24 : decode cX5_readClause 24 = .ok (.iconst 1, 1) := by decide +kernel
theorem dX5_readClause_25 : decode cX5_readClause 25 = .ok (.goto 4, 3) := by decide +kernel
theorem dX5_readClause_28 : decode cX5_readClause 28 = .ok (.iconst 0, 1) := by decide +kernel
theorem dX5_readClause_29 : decode cX5_readClause 29 = .ok (.istore_n 3, 1) := by decide +kernel
theorem dX5_readClause_30 : decode cX5_readClause 30 = .ok (.iload_n 3, 1) := by decide +kernel
theorem dX5_readClause_31 : decode cX5_readClause 31 = .ok (.ifCond .ne 22, 3) := by decide +kernel
theorem dX5_readClause_34 : decode cX5_readClause 34 = .ok (.iload_n 2, 1) := by decide +kernel
theorem dX5_readClause_35 : decode cX5_readClause 35 = .ok (.ldc 62, 2) := by decide +kernel
theorem dX5_readClause_37 : decode cX5_readClause 37 = .ok (.if_icmp .eq 16, 3) := by decide +kernel
theorem dX5_readClause_40 : decode cX5_readClause 40 = .ok (.iload_n 2, 1) := by decide +kernel
theorem dX5_readClause_41 : decode cX5_readClause 41 = .ok (.iconst 3, 1) := by decide +kernel
theorem dX5_readClause_42 : decode cX5_readClause 42 = .ok (.if_icmp .eq 11, 3) := by decide +kernel
theorem dX5_readClause_45 : decode cX5_readClause 45 = .ok (.iload_n 2, 1) := by decide +kernel
theorem dX5_readClause_46 : decode cX5_readClause 46 = .ok (.bipush 35, 2) := by decide +kernel
theorem dX5_readClause_48 : decode cX5_readClause 48 = .ok (.if_icmp .eq 5, 3) := by decide +kernel
theorem dX5_readClause_51 : decode cX5_readClause 51 = .ok (.iconst 0, 1) := by decide +kernel
theorem dX5_readClause_52 : decode cX5_readClause 52 = .ok (.ireturn, 1) := by decide +kernel
theorem dX5_readClause_53 : decode cX5_readClause 53 = .ok (.iload_n 3, 1) := by decide +kernel
theorem dX5_readClause_54 : decode cX5_readClause 54 = .ok (.ifCond .eq 14, 3) := by decide +kernel
theorem dX5_readClause_57 : decode cX5_readClause 57 = .ok (.aload_n 0, 1) := by decide +kernel
theorem dX5_readClause_58 : decode cX5_readClause 58 = .ok (.getfield 37, 3) := by decide +kernel
theorem dX5_readClause_61 : decode cX5_readClause 61 = .ok (.iconst 5, 1) := by decide +kernel
theorem dX5_readClause_62 : decode cX5_readClause 62 = .ok (.if_icmp .lt 17, 3) := by decide +kernel
theorem dX5_readClause_65 : decode cX5_readClause 65 = .ok (.goto 12, 3) := by decide +kernel
theorem dX5_readClause_68 : decode cX5_readClause 68 = .ok (.aload_n 0, 1) := by decide +kernel
theorem dX5_readClause_69 : decode cX5_readClause 69 = .ok (.getfield 33, 3) := by decide +kernel
theorem dX5_readClause_72 : decode cX5_readClause 72 = .ok (.bipush 10, 2) := by decide +kernel
theorem dX5_readClause_74 : decode cX5_readClause 74 = .ok (.if_icmp .lt 5, 3) := by decide +kernel
theorem dX5_readClause_77 : decode cX5_readClause 77 = .ok (.iconst 0, 1) := by decide +kernel
theorem dX5_readClause_78 : decode cX5_readClause 78 = .ok (.ireturn, 1) := by decide +kernel
theorem dX5_readClause_79 : decode cX5_readClause 79 = .ok (.aload_n 1, 1) := by decide +kernel
theorem dX5_readClause_80 : decode cX5_readClause 80 = .ok (.invokevirtual 56, 3) := by decide +kernel
theorem dX5_readClause_83 : decode cX5_readClause 83 = .ok (.aload_n 1, 1) := by decide +kernel
theorem dX5_readClause_84 : decode cX5_readClause 84 = .ok (.getfield 43, 3) := by decide +kernel
theorem dX5_readClause_87 : decode cX5_readClause 87 = .ok (.iconst 1, 1) := by decide +kernel
theorem dX5_readClause_88 : decode cX5_readClause 88 = .ok (.if_icmp .ne 14, 3) := by decide +kernel
theorem dX5_readClause_91 : decode cX5_readClause 91 = .ok (.aload_n 0, 1) := by decide +kernel
theorem dX5_readClause_92 : decode cX5_readClause 92 = .ok (.aload_n 1, 1) := by decide +kernel
theorem dX5_readClause_93 : decode cX5_readClause 93 = .ok (.getfield 59, 3) := by decide +kernel
theorem dX5_readClause_96 : decode cX5_readClause 96 = .ok (.invokevirtual 63, 3) := by decide +kernel
theorem dX5_readClause_99 : decode cX5_readClause 99 = .ok (.ifCond .ne 5, 3) := by decide +kernel
theorem dX5_readClause_102 : decode cX5_readClause 102 = .ok (.iconst 0, 1) := by decide +kernel
theorem dX5_readClause_103 : decode cX5_readClause 103 = .ok (.ireturn, 1) := by decide +kernel
theorem dX5_readClause_104 : decode cX5_readClause 104 = .ok (.aload_n 1, 1) := by decide +kernel
theorem dX5_readClause_105 : decode cX5_readClause 105 = .ok (.getfield 59, 3) := by decide +kernel
theorem dX5_readClause_108 : decode cX5_readClause 108 = .ok (.istore 4, 2) := by decide +kernel
theorem dX5_readClause_110 : decode cX5_readClause 110 = .ok (.aload_n 1, 1) := by decide +kernel
theorem dX5_readClause_111 : decode cX5_readClause 111 = .ok (.invokevirtual 56, 3) := by decide +kernel
theorem dX5_readClause_114 : decode cX5_readClause 114 = .ok (.iload_n 3, 1) := by decide +kernel
theorem dX5_readClause_115 : decode cX5_readClause 115 = .ok (.ifCond .eq 11, 3) := by decide +kernel
theorem dX5_readClause_118 : decode cX5_readClause 118 = .ok (.aload_n 0, 1) := by decide +kernel
theorem dX5_readClause_119 : decode cX5_readClause 119 = .ok (.iload 4, 2) := by decide +kernel
theorem dX5_readClause_121 : decode cX5_readClause 121 = .ok (.invokevirtual 66, 3) := by decide +kernel
theorem dX5_readClause_124 : decode cX5_readClause 124 = .ok (.iconst 1, 1) := by decide +kernel
theorem dX5_readClause_125 : decode cX5_readClause 125 = .ok (.ireturn, 1) := by decide +kernel
theorem dX5_readClause_126 : decode cX5_readClause 126 = .ok (.aload_n 0, 1) := by decide +kernel
theorem dX5_readClause_127 : decode cX5_readClause 127 = .ok (.aload_n 1, 1) := by decide +kernel
theorem dX5_readClause_128 : decode cX5_readClause 128 = .ok (.iload_n 2, 1) := by decide +kernel
theorem dX5_readClause_129 : decode cX5_readClause 129 = .ok (.iload 4, 2) := by decide +kernel
theorem dX5_readClause_131 : decode cX5_readClause 131 = .ok (.invokevirtual 70, 3) := by decide +kernel
theorem dX5_readClause_134 : decode cX5_readClause 134 = .ok (.ireturn, 1) := by decide +kernel
theorem dX5_readOperator_0 : decode cX5_readOperator 0 = .ok (.iload_n 2, 1) := by decide +kernel
theorem dX5_readOperator_1 : decode cX5_readOperator 1 = .ok (.iconst 3, 1) := by decide +kernel
theorem dX5_readOperator_2 : decode cX5_readOperator 2 = .ok (.if_icmp .ne 13, 3) := by decide +kernel
theorem dX5_readOperator_5 : decode cX5_readOperator 5 = .ok (.aload_n 0, 1) := by decide +kernel
theorem dX5_readOperator_6 : decode cX5_readOperator 6 = .ok (.iload_n 3, 1) := by decide +kernel
theorem dX5_readOperator_7 : decode cX5_readOperator 7 = .ok (.iconst 1, 1) := by decide +kernel
theorem dX5_readOperator_8 : decode cX5_readOperator 8 = .ok (.iconst 2, 1) := by decide +kernel
theorem dX5_readOperator_9 : decode cX5_readOperator 9 = .ok (.iconst (-1), 1) := by decide +kernel
theorem dX5_readOperator_10 : decode cX5_readOperator 10 = .ok (.invokevirtual 74, 3) := by decide +kernel
theorem dX5_readOperator_13 : decode cX5_readOperator 13 = .ok (.iconst 1, 1) := by decide +kernel
theorem dX5_readOperator_14 : decode cX5_readOperator 14 = .ok (.ireturn, 1) := by decide +kernel
theorem dX5_readOperator_15 : decode cX5_readOperator 15 = .ok (.iload_n 2, 1) := by decide +kernel
theorem dX5_readOperator_16 : decode cX5_readOperator 16 = .ok (.bipush 35, 2) := by decide +kernel
theorem dX5_readOperator_18 : decode cX5_readOperator 18 = .ok (.if_icmp .ne 89, 3) := by decide +kernel
theorem dX5_readOperator_21 : decode cX5_readOperator 21 = .ok (.iconst (-1), 1) := by decide +kernel
theorem dX5_readOperator_22 : decode cX5_readOperator 22 = .ok (.istore 4, 2) := by decide +kernel
theorem dX5_readOperator_24 : decode cX5_readOperator 24 = .ok (.aload_n 1, 1) := by decide +kernel
theorem dX5_readOperator_25 : decode cX5_readOperator 25 = .ok (.getfield 43, 3) := by decide +kernel
theorem dX5_readOperator_28 : decode cX5_readOperator 28 = .ok (.iconst 1, 1) := by decide +kernel
theorem dX5_readOperator_29 : decode cX5_readOperator 29 = .ok (.if_icmp .ne 67, 3) := by decide +kernel
theorem dX5_readOperator_32 : decode cX5_readOperator 32 = .ok (.aload_n 1, 1) := by decide +kernel
theorem dX5_readOperator_33 : decode cX5_readOperator 33 = .ok (.getfield 59, 3) := by decide +kernel
theorem dX5_readOperator_36 : decode cX5_readOperator 36 = .ok (.ldc 78, 2) := by decide +kernel
theorem dX5_readOperator_38 : decode cX5_readOperator 38 = .ok (.if_icmp .ne 58, 3) := by decide +kernel
theorem dX5_readOperator_41 : decode cX5_readOperator 41 = .ok (.aload_n 1, 1) := by decide +kernel
theorem dX5_readOperator_42 : decode cX5_readOperator 42 = .ok (.invokevirtual 56, 3) := by decide +kernel
theorem dX5_readOperator_45 : decode cX5_readOperator 45 = .ok (.aload_n 1, 1) := by decide +kernel
theorem dX5_readOperator_46 : decode cX5_readOperator 46 = .ok (.getfield 43, 3) := by decide +kernel
theorem dX5_readOperator_49 : decode cX5_readOperator 49 = .ok (.iconst 1, 1) := by decide +kernel
theorem dX5_readOperator_50 : decode cX5_readOperator 50 = .ok (.if_icmp .ne 14, 3) := by decide +kernel
theorem dX5_readOperator_53 : decode cX5_readOperator 53 = .ok (.aload_n 0, 1) := by decide +kernel
theorem dX5_readOperator_54 : decode cX5_readOperator 54 = .ok (.aload_n 1, 1) := by decide +kernel
theorem dX5_readOperator_55 : decode cX5_readOperator 55 = .ok (.getfield 59, 3) := by decide +kernel
theorem dX5_readOperator_58 : decode cX5_readOperator 58 = .ok (.invokevirtual 79, 3) := by decide +kernel
theorem dX5_readOperator_61 : decode cX5_readOperator 61 = .ok (.goto 4, 3) := by decide +kernel
theorem dX5_readOperator_64 : decode cX5_readOperator 64 = .ok (.iconst (-1), 1) := by decide +kernel
theorem dX5_readOperator_65 : decode cX5_readOperator 65 = .ok (.istore 4, 2) := by decide +kernel
theorem dX5_readOperator_67 : decode cX5_readOperator 67 = .ok (.iload 4, 2) := by decide +kernel
theorem dX5_readOperator_69 : decode cX5_readOperator 69 = .ok (.ifCond .lt 21, 3) := by decide +kernel
theorem dX5_readOperator_72 : decode cX5_readOperator 72 = .ok (.aload_n 0, 1) := by decide +kernel
theorem dX5_readOperator_73 : decode cX5_readOperator 73 = .ok (.iload 4, 2) := by decide +kernel
theorem dX5_readOperator_75 : decode cX5_readOperator 75 = .ok (.invokevirtual 83, 3) := by decide +kernel
theorem dX5_readOperator_78 : decode cX5_readOperator 78 = .ok (.ifCond .ne 12, 3) := by decide +kernel
theorem dX5_readOperator_81 : decode cX5_readOperator 81 = .ok (.aload_n 0, 1) := by decide +kernel
theorem dX5_readOperator_82 : decode cX5_readOperator 82 = .ok (.iload 4, 2) := by decide +kernel
theorem dX5_readOperator_84 : decode cX5_readOperator 84 = .ok (.invokevirtual 86, 3) := by decide +kernel
theorem dX5_readOperator_87 : decode cX5_readOperator 87 = .ok (.ifCond .eq 5, 3) := by decide +kernel
theorem dX5_readOperator_90 : decode cX5_readOperator 90 = .ok (.iconst 0, 1) := by decide +kernel
theorem dX5_readOperator_91 : decode cX5_readOperator 91 = .ok (.ireturn, 1) := by decide +kernel
theorem dX5_readOperator_92 : decode cX5_readOperator 92 = .ok (.aload_n 1, 1) := by decide +kernel
theorem dX5_readOperator_93 : decode cX5_readOperator 93 = .ok (.invokevirtual 56, 3) := by decide +kernel
theorem dX5_readOperator_96 : decode cX5_readOperator 96 = .ok (.aload_n 0, 1) := by decide +kernel
theorem dX5_readOperator_97 : decode cX5_readOperator 97 = .ok (.iload_n 3, 1) := by decide +kernel
theorem dX5_readOperator_98 : decode cX5_readOperator 98 = .ok (.iconst 2, 1) := by decide +kernel
theorem dX5_readOperator_99 : decode cX5_readOperator 99 = .ok (.iconst 2, 1) := by decide +kernel
theorem dX5_readOperator_100 : decode cX5_readOperator 100 = .ok (.iload 4, 2) := by decide +kernel
theorem dX5_readOperator_102 : decode cX5_readOperator 102 = .ok (.invokevirtual 74, 3) := by decide +kernel
theorem dX5_readOperator_105 : decode cX5_readOperator 105 = .ok (.iconst 1, 1) := by decide +kernel
theorem dX5_readOperator_106 : decode cX5_readOperator 106 = .ok (.ireturn, 1) := by decide +kernel
theorem dX5_readOperator_107 : decode cX5_readOperator 107 = .ok (.aload_n 1, 1) := by decide +kernel
theorem dX5_readOperator_108 : decode cX5_readOperator 108 = .ok (.getfield 43, 3) := by decide +kernel
theorem dX5_readOperator_111 : decode cX5_readOperator 111 = .ok (.iconst 2, 1) := by decide +kernel
theorem dX5_readOperator_112 : decode cX5_readOperator 112 = .ok (.if_icmp .ne 18, 3) := by decide +kernel
theorem dX5_readOperator_115 : decode cX5_readOperator 115 = .ok (.aload_n 1, 1) := by decide +kernel
theorem dX5_readOperator_116 : decode cX5_readOperator 116 = .ok (.getfield 59, 3) := by decide +kernel
theorem dX5_readOperator_119 : decode cX5_readOperator 119 = .ok (.ifCond .lt 11, 3) := by decide +kernel
theorem dX5_readOperator_122 : decode cX5_readOperator 122 = .ok (.aload_n 1, 1) := by decide +kernel
theorem dX5_readOperator_123 : decode cX5_readOperator 123 = .ok (.getfield 59, 3) := by decide +kernel
theorem dX5_readOperator_126 : decode cX5_readOperator 126 = .ok (.iconst 3, 1) := by decide +kernel
theorem dX5_readOperator_127 : decode cX5_readOperator 127 = .ok (.if_icmp .le 5, 3) := by decide +kernel
theorem dX5_readOperator_130 : decode cX5_readOperator 130 = .ok (.iconst 0, 1) := by decide +kernel
theorem dX5_readOperator_131 : decode cX5_readOperator 131 = .ok (.ireturn, 1) := by decide +kernel
theorem dX5_readOperator_132 : decode cX5_readOperator 132 = .ok (.aload_n 0, 1) := by decide +kernel
theorem dX5_readOperator_133 : decode cX5_readOperator 133 = .ok (.iload_n 3, 1) := by decide +kernel
theorem dX5_readOperator_134 : decode cX5_readOperator 134 = .ok (.iconst 0, 1) := by decide +kernel
theorem dX5_readOperator_135 : decode cX5_readOperator 135 = .ok (.aload_n 1, 1) := by decide +kernel
theorem dX5_readOperator_136 : decode cX5_readOperator 136 = .ok (.getfield 59, 3) := by decide +kernel
theorem dX5_readOperator_139 : decode cX5_readOperator 139 = .ok (.iconst (-1), 1) := by decide +kernel
theorem dX5_readOperator_140 : decode cX5_readOperator 140 = .ok (.invokevirtual 74, 3) := by decide +kernel
theorem dX5_readOperator_143 : decode cX5_readOperator 143 = .ok (.aload_n 1, 1) := by decide +kernel
theorem dX5_readOperator_144 : decode cX5_readOperator 144 = .ok (.invokevirtual 56, 3) := by decide +kernel
theorem dX5_readOperator_147 : decode cX5_readOperator 147 = .ok (.iconst 1, 1) := by decide +kernel
theorem dX5_readOperator_148 : decode cX5_readOperator 148 = .ok (.ireturn, 1) := by decide +kernel
theorem dX5_isNewName_0 : decode cX5_isNewName 0 = .ok (.iload_n 1, 1) := by decide +kernel
theorem dX5_isNewName_1 : decode cX5_isNewName 1 = .ok (.ifCond .eq 53, 3) := by decide +kernel
theorem dX5_isNewName_4 : decode cX5_isNewName 4 = .ok (.iload_n 1, 1) := by decide +kernel
theorem dX5_isNewName_5 : decode cX5_isNewName 5 = .ok (.ldc 62, 2) := by decide +kernel
theorem dX5_isNewName_7 : decode cX5_isNewName 7 = .ok (.if_icmp .eq 47, 3) := by decide +kernel
theorem dX5_isNewName_10 : decode cX5_isNewName 10 = .ok (.iload_n 1, 1) := by decide +kernel
theorem dX5_isNewName_11 : decode cX5_isNewName 11 = .ok (.iconst 3, 1) := by decide +kernel
theorem dX5_isNewName_12 : decode cX5_isNewName 12 = .ok (.if_icmp .eq 42, 3) := by decide +kernel
theorem dX5_isNewName_15 : decode cX5_isNewName 15 = .ok (.iload_n 1, 1) := by decide +kernel
theorem dX5_isNewName_16 : decode cX5_isNewName 16 = .ok (.bipush 35, 2) := by decide +kernel
theorem dX5_isNewName_18 : decode cX5_isNewName 18 = .ok (.if_icmp .eq 36, 3) := by decide +kernel
theorem dX5_isNewName_21 : decode cX5_isNewName 21 = .ok (.iload_n 1, 1) := by decide +kernel
theorem dX5_isNewName_22 : decode cX5_isNewName 22 = .ok (.ldc 78, 2) := by decide +kernel
theorem dX5_isNewName_24 : decode cX5_isNewName 24 = .ok (.if_icmp .eq 30, 3) := by decide +kernel
theorem dX5_isNewName_27 : decode cX5_isNewName 27 = .ok (.iload_n 1, 1) := by decide +kernel
theorem dX5_isNewName_28 : decode cX5_isNewName 28 = .ok (.sipush 22578, 3) := by decide +kernel
theorem dX5_isNewName_31 : decode cX5_isNewName 31 = .ok (.if_icmp .eq 23, 3) := by decide +kernel
theorem dX5_isNewName_34 : decode cX5_isNewName 34 = .ok (.aload_n 0, 1) := by decide +kernel
theorem dX5_isNewName_35 : decode cX5_isNewName 35 = .ok (.iload_n 1, 1) := by decide +kernel
theorem dX5_isNewName_36 : decode cX5_isNewName 36 = .ok (.invokevirtual 79, 3) := by decide +kernel
theorem dX5_isNewName_39 : decode cX5_isNewName 39 = .ok (.ifCond .ge 15, 3) := by decide +kernel
theorem dX5_isNewName_42 : decode cX5_isNewName 42 = .ok (.aload_n 0, 1) := by decide +kernel
theorem dX5_isNewName_43 : decode cX5_isNewName 43 = .ok (.iload_n 1, 1) := by decide +kernel
theorem dX5_isNewName_44 : decode cX5_isNewName 44 = .ok (.invokevirtual 89, 3) := by decide +kernel
theorem dX5_isNewName_47 : decode cX5_isNewName 47 = .ok (.ifCond .ge 7, 3) := by decide +kernel
theorem dX5_isNewName_50 : decode cX5_isNewName 50 = .ok (.iconst 1, 1) := by decide +kernel
theorem dX5_isNewName_51 : decode cX5_isNewName 51 = .ok (.goto 4, 3) := by decide +kernel
theorem dX5_isNewName_54 : decode cX5_isNewName 54 = .ok (.iconst 0, 1) := by decide +kernel
theorem dX5_isNewName_55 : decode cX5_isNewName 55 = .ok (.ireturn, 1) := by decide +kernel
theorem dX5_addOperator_0 : decode cX5_addOperator 0 = .ok (.aload_n 0, 1) := by decide +kernel
theorem dX5_addOperator_1 : decode cX5_addOperator 1 = .ok (.getfield 33, 3) := by decide +kernel
theorem dX5_addOperator_4 : decode cX5_addOperator 4 = .ok (.ifCond .lt 115, 3) := by decide +kernel
theorem dX5_addOperator_7 : decode cX5_addOperator 7 = .ok (.aload_n 0, 1) := by decide +kernel
theorem dX5_addOperator_8 : decode cX5_addOperator 8 = .ok (.getfield 33, 3) := by decide +kernel
theorem dX5_addOperator_11 : decode cX5_addOperator 11 = .ok (.bipush 10, 2) := by decide +kernel
theorem dX5_addOperator_13 : decode cX5_addOperator 13 = .ok (.if_icmp .ge 106, 3) := by decide +kernel
theorem dX5_addOperator_16 : decode cX5_addOperator 16 = .ok (.aload_n 0, 1) := by decide +kernel
theorem dX5_addOperator_17 : decode cX5_addOperator 17 = .ok (.getfield 9, 3) := by decide +kernel
theorem dX5_addOperator_20 : decode cX5_addOperator 20 = .ok (.aload_n 0, 1) := by decide +kernel
theorem dX5_addOperator_21 : decode cX5_addOperator 21 = .ok (.getfield 33, 3) := by decide +kernel
theorem dX5_addOperator_24 : decode cX5_addOperator 24 = .ok (.iload_n 1, 1) := by decide +kernel
theorem dX5_addOperator_25 : decode cX5_addOperator 25 = .ok (.iastore, 1) := by decide +kernel
theorem dX5_addOperator_26 : decode cX5_addOperator 26 = .ok (.aload_n 0, 1) := by decide +kernel
theorem dX5_addOperator_27 : decode cX5_addOperator 27 = .ok (.getfield 15, 3) := by decide +kernel
theorem dX5_addOperator_30 : decode cX5_addOperator 30 = .ok (.aload_n 0, 1) := by decide +kernel
theorem dX5_addOperator_31 : decode cX5_addOperator 31 = .ok (.getfield 33, 3) := by decide +kernel
theorem dX5_addOperator_34 : decode cX5_addOperator 34 = .ok (.iload_n 2, 1) := by decide +kernel
theorem dX5_addOperator_35 : decode cX5_addOperator 35 = .ok (.iastore, 1) := by decide +kernel
theorem dX5_addOperator_36 : decode cX5_addOperator 36 = .ok (.aload_n 0, 1) := by decide +kernel
theorem dX5_addOperator_37 : decode cX5_addOperator 37 = .ok (.getfield 18, 3) := by decide +kernel
theorem dX5_addOperator_40 : decode cX5_addOperator 40 = .ok (.aload_n 0, 1) := by decide +kernel
theorem dX5_addOperator_41 : decode cX5_addOperator 41 = .ok (.getfield 33, 3) := by decide +kernel
theorem dX5_addOperator_44 : decode cX5_addOperator 44 = .ok (.iload_n 3, 1) := by decide +kernel
theorem dX5_addOperator_45 : decode cX5_addOperator 45 = .ok (.iastore, 1) := by decide +kernel
theorem dX5_addOperator_46 : decode cX5_addOperator 46 = .ok (.aload_n 0, 1) := by decide +kernel
theorem dX5_addOperator_47 : decode cX5_addOperator 47 = .ok (.getfield 21, 3) := by decide +kernel
theorem dX5_addOperator_50 : decode cX5_addOperator 50 = .ok (.aload_n 0, 1) := by decide +kernel
theorem dX5_addOperator_51 : decode cX5_addOperator 51 = .ok (.getfield 33, 3) := by decide +kernel
theorem dX5_addOperator_54 : decode cX5_addOperator 54 = .ok (.iload 4, 2) := by decide +kernel
theorem dX5_addOperator_56 : decode cX5_addOperator 56 = .ok (.iastore, 1) := by decide +kernel
theorem dX5_addOperator_57 : decode cX5_addOperator 57 = .ok (.aload_n 0, 1) := by decide +kernel
theorem dX5_addOperator_58 : decode cX5_addOperator 58 = .ok (.dup, 1) := by decide +kernel
theorem dX5_addOperator_59 : decode cX5_addOperator 59 = .ok (.getfield 40, 3) := by decide +kernel
theorem dX5_addOperator_62 : decode cX5_addOperator 62 = .ok (.iload_n 2, 1) := by decide +kernel
theorem dX5_addOperator_63 : decode cX5_addOperator 63 = .ok (.iconst 2, 1) := by decide +kernel
theorem dX5_addOperator_64 : decode cX5_addOperator 64 = .ok (.if_icmp .ne 7, 3) := by decide +kernel
theorem dX5_addOperator_67 : decode cX5_addOperator 67 = .ok (.iconst 0, 1) := by decide +kernel
theorem dX5_addOperator_68 : decode cX5_addOperator 68 = .ok (.goto 11, 3) := by decide +kernel
theorem dX5_addOperator_71 : decode cX5_addOperator 71 = .ok (.iconst 1, 1) := by decide +kernel
theorem dX5_addOperator_72 : decode cX5_addOperator 72 = .ok (.iconst 5, 1) := by decide +kernel
theorem dX5_addOperator_73 : decode cX5_addOperator 73 = .ok (.aload_n 0, 1) := by decide +kernel
theorem dX5_addOperator_74 : decode cX5_addOperator 74 = .ok (.getfield 33, 3) := by decide +kernel
theorem dX5_addOperator_77 : decode cX5_addOperator 77 = .ok (.iadd, 1) := by decide +kernel
theorem dX5_addOperator_78 : decode cX5_addOperator 78 = .ok (.ishl, 1) := by decide +kernel
theorem dX5_addOperator_79 : decode cX5_addOperator 79 = .ok (.ior, 1) := by decide +kernel
theorem dX5_addOperator_80 : decode cX5_addOperator 80 = .ok (.putfield 40, 3) := by decide +kernel
theorem dX5_addOperator_83 : decode cX5_addOperator 83 = .ok (.aload_n 0, 1) := by decide +kernel
theorem dX5_addOperator_84 : decode cX5_addOperator 84 = .ok (.dup, 1) := by decide +kernel
theorem dX5_addOperator_85 : decode cX5_addOperator 85 = .ok (.getfield 40, 3) := by decide +kernel
theorem dX5_addOperator_88 : decode cX5_addOperator 88 = .ok (.iload 4, 2) := by decide +kernel
theorem dX5_addOperator_90 : decode cX5_addOperator 90 = .ok (.ifCond .ge 7, 3) := by decide +kernel
theorem dX5_addOperator_93 : decode cX5_addOperator 93 = .ok (.iconst (-1), 1) := by decide +kernel
theorem dX5_addOperator_94 : decode cX5_addOperator 94 = .ok (.goto 11, 3) := by decide +kernel
theorem dX5_addOperator_97 : decode cX5_addOperator 97 = .ok (.iconst 1, 1) := by decide +kernel
theorem dX5_addOperator_98 : decode cX5_addOperator 98 = .ok (.iconst 5, 1) := by decide +kernel
theorem dX5_addOperator_99 : decode cX5_addOperator 99 = .ok (.iload 4, 2) := by decide +kernel
theorem dX5_addOperator_101 : decode cX5_addOperator 101 = .ok (.iadd, 1) := by decide +kernel
theorem dX5_addOperator_102 : decode cX5_addOperator 102 = .ok (.ishl, 1) := by decide +kernel
theorem dX5_addOperator_103 : decode cX5_addOperator 103 = .ok (.iconst (-1), 1) := by decide +kernel
theorem dX5_addOperator_104 : decode cX5_addOperator 104 = .ok (.ixor, 1) := by decide +kernel
theorem dX5_addOperator_105 : decode cX5_addOperator 105 = .ok (.iand, 1) := by decide +kernel
theorem dX5_addOperator_106 : decode cX5_addOperator 106 = .ok (.putfield 40, 3) := by decide +kernel
theorem dX5_addOperator_109 : decode cX5_addOperator 109 = .ok (.aload_n 0, 1) := by decide +kernel
theorem dX5_addOperator_110 : decode cX5_addOperator 110 = .ok (.dup, 1) := by decide +kernel
theorem dX5_addOperator_111 : decode cX5_addOperator 111 = .ok (.getfield 33, 3) := by decide +kernel
theorem dX5_addOperator_114 : decode cX5_addOperator 114 = .ok (.iconst 1, 1) := by decide +kernel
theorem dX5_addOperator_115 : decode cX5_addOperator 115 = .ok (.iadd, 1) := by decide +kernel
theorem dX5_addOperator_116 : decode cX5_addOperator 116 = .ok (.putfield 33, 3) := by decide +kernel
theorem dX5_addOperator_119 : decode cX5_addOperator 119 = .ok (.return_, 1) := by decide +kernel
theorem dX5_addVariable_0 : decode cX5_addVariable 0 = .ok (.aload_n 0, 1) := by decide +kernel
theorem dX5_addVariable_1 : decode cX5_addVariable 1 = .ok (.getfield 37, 3) := by decide +kernel
theorem dX5_addVariable_4 : decode cX5_addVariable 4 = .ok (.ifCond .lt 31, 3) := by decide +kernel
theorem dX5_addVariable_7 : decode cX5_addVariable 7 = .ok (.aload_n 0, 1) := by decide +kernel
theorem dX5_addVariable_8 : decode cX5_addVariable 8 = .ok (.getfield 37, 3) := by decide +kernel
theorem dX5_addVariable_11 : decode cX5_addVariable 11 = .ok (.iconst 5, 1) := by decide +kernel
theorem dX5_addVariable_12 : decode cX5_addVariable 12 = .ok (.if_icmp .ge 23, 3) := by decide +kernel
theorem dX5_addVariable_15 : decode cX5_addVariable 15 = .ok (.aload_n 0, 1) := by decide +kernel
theorem dX5_addVariable_16 : decode cX5_addVariable 16 = .ok (.getfield 24, 3) := by decide +kernel
theorem dX5_addVariable_19 : decode cX5_addVariable 19 = .ok (.aload_n 0, 1) := by decide +kernel
theorem dX5_addVariable_20 : decode cX5_addVariable 20 = .ok (.getfield 37, 3) := by decide +kernel
theorem dX5_addVariable_23 : decode cX5_addVariable 23 = .ok (.iload_n 1, 1) := by decide +kernel
theorem dX5_addVariable_24 : decode cX5_addVariable 24 = .ok (.iastore, 1) := by decide +kernel
theorem dX5_addVariable_25 : decode cX5_addVariable 25 = .ok (.aload_n 0, 1) := by decide +kernel
theorem dX5_addVariable_26 : decode cX5_addVariable 26 = .ok (.dup, 1) := by decide +kernel
theorem dX5_addVariable_27 : decode cX5_addVariable 27 = .ok (.getfield 37, 3) := by decide +kernel
theorem dX5_addVariable_30 : decode cX5_addVariable 30 = .ok (.iconst 1, 1) := by decide +kernel
theorem dX5_addVariable_31 : decode cX5_addVariable 31 = .ok (.iadd, 1) := by decide +kernel
theorem dX5_addVariable_32 : decode cX5_addVariable 32 = .ok (.putfield 37, 3) := by decide +kernel
theorem dX5_addVariable_35 : decode cX5_addVariable 35 = .ok (.return_, 1) := by decide +kernel
theorem dX5_findOperator_0 : decode cX5_findOperator 0 = .ok (.iconst 0, 1) := by decide +kernel
theorem dX5_findOperator_1 : decode cX5_findOperator 1 = .ok (.istore_n 2, 1) := by decide +kernel
theorem dX5_findOperator_2 : decode cX5_findOperator 2 = .ok (.iload_n 2, 1) := by decide +kernel
theorem dX5_findOperator_3 : decode cX5_findOperator 3 = .ok (.aload_n 0, 1) := by decide +kernel
theorem dX5_findOperator_4 : decode cX5_findOperator 4 = .ok (.getfield 33, 3) := by decide +kernel
theorem dX5_findOperator_7 : decode cX5_findOperator 7 = .ok (.if_icmp .ge 27, 3) := by decide +kernel
theorem dX5_findOperator_10 : decode cX5_findOperator 10 = .ok (.iload_n 2, 1) := by decide +kernel
theorem dX5_findOperator_11 : decode cX5_findOperator 11 = .ok (.bipush 10, 2) := by decide +kernel
theorem dX5_findOperator_13 : decode cX5_findOperator 13 = .ok (.if_icmp .ge 21, 3) := by decide +kernel
theorem dX5_findOperator_16 : decode cX5_findOperator 16 = .ok (.aload_n 0, 1) := by decide +kernel
theorem dX5_findOperator_17 : decode cX5_findOperator 17 = .ok (.getfield 9, 3) := by decide +kernel
theorem dX5_findOperator_20 : decode cX5_findOperator 20 = .ok (.iload_n 2, 1) := by decide +kernel
theorem dX5_findOperator_21 : decode cX5_findOperator 21 = .ok (.iaload, 1) := by decide +kernel
theorem dX5_findOperator_22 : decode cX5_findOperator 22 = .ok (.iload_n 1, 1) := by decide +kernel
theorem dX5_findOperator_23 : decode cX5_findOperator 23 = .ok (.if_icmp .ne 5, 3) := by decide +kernel
theorem dX5_findOperator_26 : decode cX5_findOperator 26 = .ok (.iload_n 2, 1) := by decide +kernel
theorem dX5_findOperator_27 : decode cX5_findOperator 27 = .ok (.ireturn, 1) := by decide +kernel
theorem dX5_findOperator_28 : decode cX5_findOperator 28 = .ok (.iinc 2 1, 3) := by decide +kernel
theorem dX5_findOperator_31 : decode cX5_findOperator 31 = .ok (.goto (-29), 3) := by decide +kernel
theorem dX5_findOperator_34 : decode cX5_findOperator 34 = .ok (.iconst (-1), 1) := by decide +kernel
theorem dX5_findOperator_35 : decode cX5_findOperator 35 = .ok (.ireturn, 1) := by decide +kernel
theorem dX5_findVariable_0 : decode cX5_findVariable 0 = .ok (.iconst 0, 1) := by decide +kernel
theorem dX5_findVariable_1 : decode cX5_findVariable 1 = .ok (.istore_n 2, 1) := by decide +kernel
theorem dX5_findVariable_2 : decode cX5_findVariable 2 = .ok (.iload_n 2, 1) := by decide +kernel
theorem dX5_findVariable_3 : decode cX5_findVariable 3 = .ok (.aload_n 0, 1) := by decide +kernel
theorem dX5_findVariable_4 : decode cX5_findVariable 4 = .ok (.getfield 37, 3) := by decide +kernel
theorem dX5_findVariable_7 : decode cX5_findVariable 7 = .ok (.if_icmp .ge 26, 3) := by decide +kernel
theorem dX5_findVariable_10 : decode cX5_findVariable 10 = .ok (.iload_n 2, 1) := by decide +kernel
theorem dX5_findVariable_11 : decode cX5_findVariable 11 = .ok (.iconst 5, 1) := by decide +kernel
theorem dX5_findVariable_12 : decode cX5_findVariable 12 = .ok (.if_icmp .ge 21, 3) := by decide +kernel
theorem dX5_findVariable_15 : decode cX5_findVariable 15 = .ok (.aload_n 0, 1) := by decide +kernel
theorem dX5_findVariable_16 : decode cX5_findVariable 16 = .ok (.getfield 24, 3) := by decide +kernel
theorem dX5_findVariable_19 : decode cX5_findVariable 19 = .ok (.iload_n 2, 1) := by decide +kernel
theorem dX5_findVariable_20 : decode cX5_findVariable 20 = .ok (.iaload, 1) := by decide +kernel
theorem dX5_findVariable_21 : decode cX5_findVariable 21 = .ok (.iload_n 1, 1) := by decide +kernel
theorem dX5_findVariable_22 : decode cX5_findVariable 22 = .ok (.if_icmp .ne 5, 3) := by decide +kernel
theorem dX5_findVariable_25 : decode cX5_findVariable 25 = .ok (.iload_n 2, 1) := by decide +kernel
theorem dX5_findVariable_26 : decode cX5_findVariable 26 = .ok (.ireturn, 1) := by decide +kernel
theorem dX5_findVariable_27 : decode cX5_findVariable 27 = .ok (.iinc 2 1, 3) := by decide +kernel
theorem dX5_findVariable_30 : decode cX5_findVariable 30 = .ok (.goto (-28), 3) := by decide +kernel
theorem dX5_findVariable_33 : decode cX5_findVariable 33 = .ok (.iconst (-1), 1) := by decide +kernel
theorem dX5_findVariable_34 : decode cX5_findVariable 34 = .ok (.ireturn, 1) := by decide +kernel
theorem dX5_kindOf_0 : decode cX5_kindOf 0 = .ok (.iload_n 1, 1) := by decide +kernel
theorem dX5_kindOf_1 : decode cX5_kindOf 1 = .ok (.ifCond .lt 18, 3) := by decide +kernel
theorem dX5_kindOf_4 : decode cX5_kindOf 4 = .ok (.iload_n 1, 1) := by decide +kernel
theorem dX5_kindOf_5 : decode cX5_kindOf 5 = .ok (.bipush 10, 2) := by decide +kernel
theorem dX5_kindOf_7 : decode cX5_kindOf 7 = .ok (.if_icmp .ge 12, 3) := by decide +kernel
theorem dX5_kindOf_10 : decode cX5_kindOf 10 = .ok (.aload_n 0, 1) := by decide +kernel
theorem dX5_kindOf_11 : decode cX5_kindOf 11 = .ok (.getfield 15, 3) := by decide +kernel
theorem dX5_kindOf_14 : decode cX5_kindOf 14 = .ok (.iload_n 1, 1) := by decide +kernel
theorem dX5_kindOf_15 : decode cX5_kindOf 15 = .ok (.iaload, 1) := by decide +kernel
theorem dX5_kindOf_16 : decode cX5_kindOf 16 = .ok (.goto 4, 3) := by decide +kernel
theorem dX5_kindOf_19 : decode cX5_kindOf 19 = .ok (.iconst 0, 1) := by decide +kernel
theorem dX5_kindOf_20 : decode cX5_kindOf 20 = .ok (.ireturn, 1) := by decide +kernel
theorem dX5_partsOf_0 : decode cX5_partsOf 0 = .ok (.iload_n 1, 1) := by decide +kernel
theorem dX5_partsOf_1 : decode cX5_partsOf 1 = .ok (.ifCond .lt 18, 3) := by decide +kernel
theorem dX5_partsOf_4 : decode cX5_partsOf 4 = .ok (.iload_n 1, 1) := by decide +kernel
theorem dX5_partsOf_5 : decode cX5_partsOf 5 = .ok (.bipush 10, 2) := by decide +kernel
theorem dX5_partsOf_7 : decode cX5_partsOf 7 = .ok (.if_icmp .ge 12, 3) := by decide +kernel
theorem dX5_partsOf_10 : decode cX5_partsOf 10 = .ok (.aload_n 0, 1) := by decide +kernel
theorem dX5_partsOf_11 : decode cX5_partsOf 11 = .ok (.getfield 18, 3) := by decide +kernel
theorem dX5_partsOf_14 : decode cX5_partsOf 14 = .ok (.iload_n 1, 1) := by decide +kernel
theorem dX5_partsOf_15 : decode cX5_partsOf 15 = .ok (.iaload, 1) := by decide +kernel
theorem dX5_partsOf_16 : decode cX5_partsOf 16 = .ok (.goto 4, 3) := by decide +kernel
theorem dX5_partsOf_19 : decode cX5_partsOf 19 = .ok (.iconst 0, 1) := by decide +kernel
theorem dX5_partsOf_20 : decode cX5_partsOf 20 = .ok (.ireturn, 1) := by decide +kernel
theorem dX5_unitOf_0 : decode cX5_unitOf 0 = .ok (.iload_n 1, 1) := by decide +kernel
theorem dX5_unitOf_1 : decode cX5_unitOf 1 = .ok (.ifCond .lt 18, 3) := by decide +kernel
theorem dX5_unitOf_4 : decode cX5_unitOf 4 = .ok (.iload_n 1, 1) := by decide +kernel
theorem dX5_unitOf_5 : decode cX5_unitOf 5 = .ok (.bipush 10, 2) := by decide +kernel
theorem dX5_unitOf_7 : decode cX5_unitOf 7 = .ok (.if_icmp .ge 12, 3) := by decide +kernel
theorem dX5_unitOf_10 : decode cX5_unitOf 10 = .ok (.aload_n 0, 1) := by decide +kernel
theorem dX5_unitOf_11 : decode cX5_unitOf 11 = .ok (.getfield 21, 3) := by decide +kernel
theorem dX5_unitOf_14 : decode cX5_unitOf 14 = .ok (.iload_n 1, 1) := by decide +kernel
theorem dX5_unitOf_15 : decode cX5_unitOf 15 = .ok (.iaload, 1) := by decide +kernel
theorem dX5_unitOf_16 : decode cX5_unitOf 16 = .ok (.goto 4, 3) := by decide +kernel
theorem dX5_unitOf_19 : decode cX5_unitOf 19 = .ok (.iconst (-1), 1) := by decide +kernel
theorem dX5_unitOf_20 : decode cX5_unitOf 20 = .ok (.ireturn, 1) := by decide +kernel
theorem dX5_unitCodeOf_0 : decode cX5_unitCodeOf 0 = .ok (.iload_n 1, 1) := by decide +kernel
theorem dX5_unitCodeOf_1 : decode cX5_unitCodeOf 1 = .ok (.ifCond .lt 32, 3) := by decide +kernel
theorem dX5_unitCodeOf_4 : decode cX5_unitCodeOf 4 = .ok (.iload_n 1, 1) := by decide +kernel
theorem dX5_unitCodeOf_5 : decode cX5_unitCodeOf 5 = .ok (.bipush 10, 2) := by decide +kernel
theorem dX5_unitCodeOf_7 : decode cX5_unitCodeOf 7 = .ok (.if_icmp .ge 26, 3) := by decide +kernel
theorem dX5_unitCodeOf_10 : decode cX5_unitCodeOf 10 = .ok (.aload_n 0, 1) := by decide +kernel
theorem dX5_unitCodeOf_11 : decode cX5_unitCodeOf 11 = .ok (.getfield 21, 3) := by decide +kernel
theorem dX5_unitCodeOf_14 : decode cX5_unitCodeOf 14 = .ok (.iload_n 1, 1) := by decide +kernel
theorem dX5_unitCodeOf_15 : decode cX5_unitCodeOf 15 = .ok (.iaload, 1) := by decide +kernel
theorem dX5_unitCodeOf_16 : decode cX5_unitCodeOf 16 = .ok (.ifCond .lt 17, 3) := by decide +kernel
theorem dX5_unitCodeOf_19 : decode cX5_unitCodeOf 19 = .ok (.bipush 8, 2) := by decide +kernel
theorem dX5_unitCodeOf_21 : decode cX5_unitCodeOf 21 = .ok (.aload_n 0, 1) := by decide +kernel
theorem dX5_unitCodeOf_22 : decode cX5_unitCodeOf 22 = .ok (.getfield 21, 3) := by decide +kernel
theorem dX5_unitCodeOf_25 : decode cX5_unitCodeOf 25 = .ok (.iload_n 1, 1) := by decide +kernel
theorem dX5_unitCodeOf_26 : decode cX5_unitCodeOf 26 = .ok (.iaload, 1) := by decide +kernel
theorem dX5_unitCodeOf_27 : decode cX5_unitCodeOf 27 = .ok (.iconst 1, 1) := by decide +kernel
theorem dX5_unitCodeOf_28 : decode cX5_unitCodeOf 28 = .ok (.iadd, 1) := by decide +kernel
theorem dX5_unitCodeOf_29 : decode cX5_unitCodeOf 29 = .ok (.imul, 1) := by decide +kernel
theorem dX5_unitCodeOf_30 : decode cX5_unitCodeOf 30 = .ok (.goto 4, 3) := by decide +kernel
theorem dX5_unitCodeOf_33 : decode cX5_unitCodeOf 33 = .ok (.iconst (-1), 1) := by decide +kernel
theorem dX5_unitCodeOf_34 : decode cX5_unitCodeOf 34 = .ok (.ireturn, 1) := by decide +kernel
theorem dX5_nameOf_0 : decode cX5_nameOf 0 = .ok (.iload_n 1, 1) := by decide +kernel
theorem dX5_nameOf_1 : decode cX5_nameOf 1 = .ok (.bipush 8, 2) := by decide +kernel
theorem dX5_nameOf_3 : decode cX5_nameOf 3 = .ok (.if_icmp .ge 23, 3) := by decide +kernel
theorem dX5_nameOf_6 : decode cX5_nameOf 6 = .ok (.iload_n 1, 1) := by decide +kernel
theorem dX5_nameOf_7 : decode cX5_nameOf 7 = .ok (.ifCond .lt 17, 3) := by decide +kernel
theorem dX5_nameOf_10 : decode cX5_nameOf 10 = .ok (.iload_n 1, 1) := by decide +kernel
theorem dX5_nameOf_11 : decode cX5_nameOf 11 = .ok (.iconst 5, 1) := by decide +kernel
theorem dX5_nameOf_12 : decode cX5_nameOf 12 = .ok (.if_icmp .ge 12, 3) := by decide +kernel
theorem dX5_nameOf_15 : decode cX5_nameOf 15 = .ok (.aload_n 0, 1) := by decide +kernel
theorem dX5_nameOf_16 : decode cX5_nameOf 16 = .ok (.getfield 24, 3) := by decide +kernel
theorem dX5_nameOf_19 : decode cX5_nameOf 19 = .ok (.iload_n 1, 1) := by decide +kernel
theorem dX5_nameOf_20 : decode cX5_nameOf 20 = .ok (.iaload, 1) := by decide +kernel
theorem dX5_nameOf_21 : decode cX5_nameOf 21 = .ok (.goto 4, 3) := by decide +kernel
theorem dX5_nameOf_24 : decode cX5_nameOf 24 = .ok (.iconst 0, 1) := by decide +kernel
theorem dX5_nameOf_25 : decode cX5_nameOf 25 = .ok (.ireturn, 1) := by decide +kernel
theorem dX5_nameOf_26 : decode cX5_nameOf 26 = .ok (.iload_n 1, 1) := by decide +kernel
theorem dX5_nameOf_27 : decode cX5_nameOf 27 = .ok (.invokestatic 92, 3) := by decide +kernel
theorem dX5_nameOf_30 : decode cX5_nameOf 30 = .ok (.istore_n 2, 1) := by decide +kernel
theorem dX5_nameOf_31 : decode cX5_nameOf 31 = .ok (.iload_n 2, 1) := by decide +kernel
theorem dX5_nameOf_32 : decode cX5_nameOf 32 = .ok (.ifCond .lt 18, 3) := by decide +kernel
theorem dX5_nameOf_35 : decode cX5_nameOf 35 = .ok (.iload_n 2, 1) := by decide +kernel
theorem dX5_nameOf_36 : decode cX5_nameOf 36 = .ok (.bipush 10, 2) := by decide +kernel
theorem dX5_nameOf_38 : decode cX5_nameOf 38 = .ok (.if_icmp .ge 12, 3) := by decide +kernel
theorem dX5_nameOf_41 : decode cX5_nameOf 41 = .ok (.aload_n 0, 1) := by decide +kernel
theorem dX5_nameOf_42 : decode cX5_nameOf 42 = .ok (.getfield 9, 3) := by decide +kernel
theorem dX5_nameOf_45 : decode cX5_nameOf 45 = .ok (.iload_n 2, 1) := by decide +kernel
theorem dX5_nameOf_46 : decode cX5_nameOf 46 = .ok (.iaload, 1) := by decide +kernel
theorem dX5_nameOf_47 : decode cX5_nameOf 47 = .ok (.goto 4, 3) := by decide +kernel
theorem dX5_nameOf_50 : decode cX5_nameOf 50 = .ok (.iconst 0, 1) := by decide +kernel
theorem dX5_nameOf_51 : decode cX5_nameOf 51 = .ok (.ireturn, 1) := by decide +kernel

theorem dJ6_compare_7cf53_0 : decode cJ6_compare_7cf53 0 = .ok (.iload_n 0, 1) := by decide +kernel
theorem dJ6_compare_7cf53_1 : decode cJ6_compare_7cf53 1 = .ok (.iload_n 1, 1) := by decide +kernel
theorem dJ6_compare_7cf53_2 : decode cJ6_compare_7cf53 2 = .ok (.if_icmp .ge 7, 3) := by decide +kernel
theorem dJ6_compare_7cf53_5 : decode cJ6_compare_7cf53 5 = .ok (.iconst (-1), 1) := by decide +kernel
theorem dJ6_compare_7cf53_6 : decode cJ6_compare_7cf53 6 = .ok (.goto 13, 3) := by decide +kernel
theorem dJ6_compare_7cf53_9 : decode cJ6_compare_7cf53 9 = .ok (.iload_n 0, 1) := by decide +kernel
theorem dJ6_compare_7cf53_10 : decode cJ6_compare_7cf53 10 = .ok (.iload_n 1, 1) := by decide +kernel
theorem dJ6_compare_7cf53_11 : decode cJ6_compare_7cf53 11 = .ok (.if_icmp .ne 7, 3) := by decide +kernel
theorem dJ6_compare_7cf53_14 : decode cJ6_compare_7cf53 14 = .ok (.iconst 0, 1) := by decide +kernel
theorem dJ6_compare_7cf53_15 : decode cJ6_compare_7cf53 15 = .ok (.goto 4, 3) := by decide +kernel
theorem dJ6_compare_7cf53_18 : decode cJ6_compare_7cf53 18 = .ok (.iconst 1, 1) := by decide +kernel
theorem dJ6_compare_7cf53_19 : decode cJ6_compare_7cf53 19 = .ok (.ireturn, 1) := by decide +kernel
theorem dJ6_numberOfTrailingZeros_0f7a4_0 : decode cJ6_numberOfTrailingZeros_0f7a4 0 = .ok (.iload_n 0, 1) := by decide +kernel
theorem dJ6_numberOfTrailingZeros_0f7a4_1 : decode cJ6_numberOfTrailingZeros_0f7a4 1 = .ok (.iconst (-1), 1) := by decide +kernel
theorem dJ6_numberOfTrailingZeros_0f7a4_2 : decode cJ6_numberOfTrailingZeros_0f7a4 2 = .ok (.ixor, 1) := by decide +kernel
theorem dJ6_numberOfTrailingZeros_0f7a4_3 : decode cJ6_numberOfTrailingZeros_0f7a4 3 = .ok (.iload_n 0, 1) := by decide +kernel
theorem dJ6_numberOfTrailingZeros_0f7a4_4 : decode cJ6_numberOfTrailingZeros_0f7a4 4 = .ok (.iconst 1, 1) := by decide +kernel
theorem dJ6_numberOfTrailingZeros_0f7a4_5 : decode cJ6_numberOfTrailingZeros_0f7a4 5 = .ok (.isub, 1) := by decide +kernel
theorem dJ6_numberOfTrailingZeros_0f7a4_6 : decode cJ6_numberOfTrailingZeros_0f7a4 6 = .ok (.iand, 1) := by decide +kernel
theorem dJ6_numberOfTrailingZeros_0f7a4_7 : decode cJ6_numberOfTrailingZeros_0f7a4 7 = .ok (.istore_n 0, 1) := by decide +kernel
theorem dJ6_numberOfTrailingZeros_0f7a4_8 : decode cJ6_numberOfTrailingZeros_0f7a4 8 = .ok (.iload_n 0, 1) := by decide +kernel
theorem dJ6_numberOfTrailingZeros_0f7a4_9 : decode cJ6_numberOfTrailingZeros_0f7a4 9 = .ok (.ifCond .gt 8, 3) := by decide +kernel
theorem dJ6_numberOfTrailingZeros_0f7a4_12 : decode cJ6_numberOfTrailingZeros_0f7a4 12 = .ok (.iload_n 0, 1) := by decide +kernel
theorem dJ6_numberOfTrailingZeros_0f7a4_13 : decode cJ6_numberOfTrailingZeros_0f7a4 13 = .ok (.bipush 32, 2) := by decide +kernel
theorem dJ6_numberOfTrailingZeros_0f7a4_15 : decode cJ6_numberOfTrailingZeros_0f7a4 15 = .ok (.iand, 1) := by decide +kernel
theorem dJ6_numberOfTrailingZeros_0f7a4_16 : decode cJ6_numberOfTrailingZeros_0f7a4 16 = .ok (.ireturn, 1) := by decide +kernel
theorem dJ6_numberOfTrailingZeros_0f7a4_17 : decode cJ6_numberOfTrailingZeros_0f7a4 17 = .ok (.iconst 1, 1) := by decide +kernel
theorem dJ6_numberOfTrailingZeros_0f7a4_18 : decode cJ6_numberOfTrailingZeros_0f7a4 18 = .ok (.istore_n 1, 1) := by decide +kernel
theorem dJ6_numberOfTrailingZeros_0f7a4_19 : decode cJ6_numberOfTrailingZeros_0f7a4 19 = .ok (.iload_n 0, 1) := by decide +kernel
theorem dJ6_numberOfTrailingZeros_0f7a4_20 : decode cJ6_numberOfTrailingZeros_0f7a4 20 = .ok (.ldc_w 264, 3) := by decide +kernel
theorem dJ6_numberOfTrailingZeros_0f7a4_23 : decode cJ6_numberOfTrailingZeros_0f7a4 23 = .ok (.if_icmp .le 11, 3) := by decide +kernel
theorem dJ6_numberOfTrailingZeros_0f7a4_26 : decode cJ6_numberOfTrailingZeros_0f7a4 26 = .ok (.iinc 1 16, 3) := by decide +kernel
theorem dJ6_numberOfTrailingZeros_0f7a4_29 : decode cJ6_numberOfTrailingZeros_0f7a4 29 = .ok (.iload_n 0, 1) := by decide +kernel
theorem dJ6_numberOfTrailingZeros_0f7a4_30 : decode cJ6_numberOfTrailingZeros_0f7a4 30 = .ok (.bipush 16, 2) := by decide +kernel
theorem dJ6_numberOfTrailingZeros_0f7a4_32 : decode cJ6_numberOfTrailingZeros_0f7a4 32 = .ok (.iushr, 1) := by decide +kernel
theorem dJ6_numberOfTrailingZeros_0f7a4_33 : decode cJ6_numberOfTrailingZeros_0f7a4 33 = .ok (.istore_n 0, 1) := by decide +kernel
theorem dJ6_numberOfTrailingZeros_0f7a4_34 : decode cJ6_numberOfTrailingZeros_0f7a4 34 = .ok (.iload_n 0, 1) := by decide +kernel
