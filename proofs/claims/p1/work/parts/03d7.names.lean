theorem dX7_init_0 : decode cX7_init 0 = .ok (.aload_n 0, 1) := by decide +kernel
theorem dX7_init_1 : decode cX7_init 1 = .ok (.invokespecial 3, 3) := by decide +kernel
theorem dX7_init_4 : decode cX7_init 4 = .ok (.aload_n 0, 1) := by decide +kernel
theorem dX7_init_5 : decode cX7_init 5 = .ok (.new 9, 3) := by decide +kernel
theorem dX7_init_8 : decode cX7_init 8 = .ok (.dup, 1) := by decide +kernel
theorem dX7_init_9 : decode cX7_init 9 = .ok (.sipush 201, 3) := by decide +kernel
theorem dX7_init_12 : decode cX7_init 12 = .ok (.invokespecial 11, 3) := by decide +kernel
theorem dX7_init_15 : decode cX7_init 15 = .ok (.putfield 14, 3) := by decide +kernel
theorem dX7_init_18 : decode cX7_init 18 = .ok (.aload_n 0, 1) := by decide +kernel
theorem dX7_init_19 : decode cX7_init 19 = .ok (.sipush 201, 3) := by decide +kernel
theorem dX7_init_22 : decode cX7_init 22 = .ok (.newarray .int, 2) := by decide +kernel
theorem dX7_init_24 : decode cX7_init 24 = .ok (.putfield 20, 3) := by decide +kernel
theorem dX7_init_27 : decode cX7_init 27 = .ok (.aload_n 0, 1) := by decide +kernel
theorem dX7_init_28 : decode cX7_init 28 = .ok (.sipush 201, 3) := by decide +kernel
theorem dX7_init_31 : decode cX7_init 31 = .ok (.newarray .int, 2) := by decide +kernel
theorem dX7_init_33 : decode cX7_init 33 = .ok (.putfield 24, 3) := by decide +kernel
theorem dX7_init_36 : decode cX7_init 36 = .ok (.aload_n 0, 1) := by decide +kernel
theorem dX7_init_37 : decode cX7_init 37 = .ok (.sipush 201, 3) := by decide +kernel
theorem dX7_init_40 : decode cX7_init 40 = .ok (.newarray .int, 2) := by decide +kernel
theorem dX7_init_42 : decode cX7_init 42 = .ok (.putfield 27, 3) := by decide +kernel
theorem dX7_init_45 : decode cX7_init 45 = .ok (.aload_n 0, 1) := by decide +kernel
theorem dX7_init_46 : decode cX7_init 46 = .ok (.bipush 8, 2) := by decide +kernel
theorem dX7_init_48 : decode cX7_init 48 = .ok (.newarray .int, 2) := by decide +kernel
theorem dX7_init_50 : decode cX7_init 50 = .ok (.putfield 30, 3) := by decide +kernel
theorem dX7_init_53 : decode cX7_init 53 = .ok (.aload_n 0, 1) := by decide +kernel
theorem dX7_init_54 : decode cX7_init 54 = .ok (.bipush 8, 2) := by decide +kernel
theorem dX7_init_56 : decode cX7_init 56 = .ok (.newarray .int, 2) := by decide +kernel
theorem dX7_init_58 : decode cX7_init 58 = .ok (.putfield 33, 3) := by decide +kernel
theorem dX7_init_61 : decode cX7_init 61 = .ok (.aload_n 0, 1) := by decide +kernel
theorem dX7_init_62 : decode cX7_init 62 = .ok (.bipush 20, 2) := by decide +kernel
theorem dX7_init_64 : decode cX7_init 64 = .ok (.newarray .int, 2) := by decide +kernel
theorem dX7_init_66 : decode cX7_init 66 = .ok (.putfield 36, 3) := by decide +kernel
theorem dX7_init_69 : decode cX7_init 69 = .ok (.aload_n 0, 1) := by decide +kernel
theorem dX7_init_70 : decode cX7_init 70 = .ok (.bipush 20, 2) := by decide +kernel
theorem dX7_init_72 : decode cX7_init 72 = .ok (.newarray .int, 2) := by decide +kernel
theorem dX7_init_74 : decode cX7_init 74 = .ok (.putfield 39, 3) := by decide +kernel
theorem dX7_init_77 : decode cX7_init 77 = .ok (.aload_n 0, 1) := by decide +kernel
theorem dX7_init_78 : decode cX7_init 78 = .ok (.bipush 20, 2) := by decide +kernel
theorem dX7_init_80 : decode cX7_init 80 = .ok (.newarray .int, 2) := by decide +kernel
theorem dX7_init_82 : decode cX7_init 82 = .ok (.putfield 42, 3) := by decide +kernel
theorem dX7_init_85 : decode cX7_init 85 = .ok (.aload_n 0, 1) := by decide +kernel
theorem dX7_init_86 : decode cX7_init 86 = .ok (.bipush 20, 2) := by decide +kernel
theorem dX7_init_88 : decode cX7_init 88 = .ok (.newarray .int, 2) := by decide +kernel
theorem dX7_init_90 : decode cX7_init 90 = .ok (.putfield 45, 3) := by decide +kernel
theorem dX7_init_93 : decode cX7_init 93 = .ok (.aload_n 0, 1) := by decide +kernel
theorem dX7_init_94 : decode cX7_init 94 = .ok (.aload_n 1, 1) := by decide +kernel
theorem dX7_init_95 : decode cX7_init 95 = .ok (.putfield 48, 3) := by decide +kernel
theorem dX7_init_98 : decode cX7_init 98 = .ok (.aload_n 0, 1) := by decide +kernel
theorem dX7_init_99 : decode cX7_init 99 = .ok (.aload_n 2, 1) := by decide +kernel
theorem dX7_init_100 : decode cX7_init 100 = .ok (.putfield 52, 3) := by decide +kernel
theorem dX7_init_103 : decode cX7_init 103 = .ok (.return_, 1) := by decide +kernel
theorem dX7_prepare_0 : decode cX7_prepare 0 = .ok (.aload_n 0, 1) := by decide +kernel
theorem dX7_prepare_1 : decode cX7_prepare 1 = .ok (.iload_n 2, 1) := by decide +kernel
theorem dX7_prepare_2 : decode cX7_prepare 2 = .ok (.putfield 56, 3) := by decide +kernel
theorem dX7_prepare_5 : decode cX7_prepare 5 = .ok (.aload_n 0, 1) := by decide +kernel
theorem dX7_prepare_6 : decode cX7_prepare 6 = .ok (.getfield 48, 3) := by decide +kernel
theorem dX7_prepare_9 : decode cX7_prepare 9 = .ok (.invokevirtual 60, 3) := by decide +kernel
theorem dX7_prepare_12 : decode cX7_prepare 12 = .ok (.iconst 0, 1) := by decide +kernel
theorem dX7_prepare_13 : decode cX7_prepare 13 = .ok (.istore_n 3, 1) := by decide +kernel
theorem dX7_prepare_14 : decode cX7_prepare 14 = .ok (.iload_n 3, 1) := by decide +kernel
theorem dX7_prepare_15 : decode cX7_prepare 15 = .ok (.bipush 8, 2) := by decide +kernel
theorem dX7_prepare_17 : decode cX7_prepare 17 = .ok (.if_icmp .ge 53, 3) := by decide +kernel
theorem dX7_prepare_20 : decode cX7_prepare 20 = .ok (.iload_n 2, 1) := by decide +kernel
theorem dX7_prepare_21 : decode cX7_prepare 21 = .ok (.iload_n 3, 1) := by decide +kernel
theorem dX7_prepare_22 : decode cX7_prepare 22 = .ok (.ishr, 1) := by decide +kernel
theorem dX7_prepare_23 : decode cX7_prepare 23 = .ok (.iconst 1, 1) := by decide +kernel
theorem dX7_prepare_24 : decode cX7_prepare 24 = .ok (.iand, 1) := by decide +kernel
theorem dX7_prepare_25 : decode cX7_prepare 25 = .ok (.ifCond .eq 39, 3) := by decide +kernel
theorem dX7_prepare_64 : decode cX7_prepare 64 = .ok (.iinc 3 1, 3) := by decide +kernel
theorem dX7_prepare_67 : decode cX7_prepare 67 = .ok (.goto (-53), 3) := by decide +kernel
theorem dX7_prepare_70 : decode cX7_prepare 70 = .ok (.aload_n 0, 1) := by decide +kernel
theorem dX7_prepare_71 : decode cX7_prepare 71 = .ok (.aload_n 0, 1) := by decide +kernel
theorem dX7_prepare_72 : decode cX7_prepare 72 = .ok (.getfield 48, 3) := by decide +kernel
theorem dX7_prepare_75 : decode cX7_prepare 75 = .ok (.getfield 69, 3) := by decide +kernel
theorem dX7_prepare_78 : decode cX7_prepare 78 = .ok (.putfield 72, 3) := by decide +kernel
theorem dX7_prepare_81 : decode cX7_prepare 81 = .ok (.return_, 1) := by decide +kernel
