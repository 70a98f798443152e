theorem dX2_init_0 : decode cX2_init 0 = .ok (.aload_n 0, 1) := by decide +kernel
theorem dX2_init_1 : decode cX2_init 1 = .ok (.invokespecial 3, 3) := by decide +kernel
theorem dX2_init_4 : decode cX2_init 4 = .ok (.iconst 1, 1) := by decide +kernel
theorem dX2_init_5 : decode cX2_init 5 = .ok (.iload_n 1, 1) := by decide +kernel
theorem dX2_init_6 : decode cX2_init 6 = .ok (.sipush 201, 3) := by decide +kernel
theorem dX2_init_9 : decode cX2_init 9 = .ok (.invokestatic 9, 3) := by decide +kernel
theorem dX2_init_12 : decode cX2_init 12 = .ok (.invokestatic 15, 3) := by decide +kernel
theorem dX2_init_15 : decode cX2_init 15 = .ok (.istore_n 2, 1) := by decide +kernel
theorem dX2_init_16 : decode cX2_init 16 = .ok (.aload_n 0, 1) := by decide +kernel
theorem dX2_init_17 : decode cX2_init 17 = .ok (.iload_n 2, 1) := by decide +kernel
theorem dX2_init_18 : decode cX2_init 18 = .ok (.bipush 20, 2) := by decide +kernel
theorem dX2_init_20 : decode cX2_init 20 = .ok (.imul, 1) := by decide +kernel
theorem dX2_init_21 : decode cX2_init 21 = .ok (.newarray .int, 2) := by decide +kernel
theorem dX2_init_23 : decode cX2_init 23 = .ok (.putfield 18, 3) := by decide +kernel
theorem dX2_init_26 : decode cX2_init 26 = .ok (.aload_n 0, 1) := by decide +kernel
theorem dX2_init_27 : decode cX2_init 27 = .ok (.iload_n 2, 1) := by decide +kernel
theorem dX2_init_28 : decode cX2_init 28 = .ok (.newarray .int, 2) := by decide +kernel
theorem dX2_init_30 : decode cX2_init 30 = .ok (.putfield 24, 3) := by decide +kernel
theorem dX2_init_33 : decode cX2_init 33 = .ok (.aload_n 0, 1) := by decide +kernel
theorem dX2_init_34 : decode cX2_init 34 = .ok (.bipush 21, 2) := by decide +kernel
theorem dX2_init_36 : decode cX2_init 36 = .ok (.newarray .int, 2) := by decide +kernel
theorem dX2_init_38 : decode cX2_init 38 = .ok (.putfield 27, 3) := by decide +kernel
theorem dX2_init_41 : decode cX2_init 41 = .ok (.return_, 1) := by decide +kernel
theorem dX2_clear_0 : decode cX2_clear 0 = .ok (.aload_n 0, 1) := by decide +kernel
theorem dX2_clear_1 : decode cX2_clear 1 = .ok (.iconst 0, 1) := by decide +kernel
theorem dX2_clear_2 : decode cX2_clear 2 = .ok (.putfield 30, 3) := by decide +kernel
theorem dX2_clear_5 : decode cX2_clear 5 = .ok (.return_, 1) := by decide +kernel
theorem dX2_nth_0 : decode cX2_nth 0 = .ok (.iconst 0, 1) := by decide +kernel
theorem dX2_nth_1 : decode cX2_nth 1 = .ok (.istore 4, 2) := by decide +kernel
theorem dX2_nth_3 : decode cX2_nth 3 = .ok (.iload 4, 2) := by decide +kernel
theorem dX2_nth_5 : decode cX2_nth 5 = .ok (.aload_n 0, 1) := by decide +kernel
theorem dX2_nth_6 : decode cX2_nth 6 = .ok (.getfield 30, 3) := by decide +kernel
theorem dX2_nth_9 : decode cX2_nth 9 = .ok (.if_icmp .ge 34, 3) := by decide +kernel
theorem dX2_nth_43 : decode cX2_nth 43 = .ok (.iconst (-1), 1) := by decide +kernel
theorem dX2_nth_44 : decode cX2_nth 44 = .ok (.ireturn, 1) := by decide +kernel
