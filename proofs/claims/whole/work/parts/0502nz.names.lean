abbrev cX10_keeps : ByteArray := prog_12_method_35_code
def yX10_keeps : MethodName := ⟨RX10, "keeps", "(II)V"⟩
abbrev cX10_comes : ByteArray := prog_12_method_36_code
def yX10_comes : MethodName := ⟨RX10, "comes", "(I)I"⟩
theorem dX10_keeps_0 : decode cX10_keeps 0 = .ok (.aload_n 0, 1) := by decide +kernel
theorem dX10_keeps_1 : decode cX10_keeps 1 = .ok (.iload_n 2, 1) := by decide +kernel
theorem dX10_keeps_2 : decode cX10_keeps 2 = .ok (.invokevirtual 213, 3) := by decide +kernel
theorem dX10_keeps_5 : decode cX10_keeps 5 = .ok (.istore_n 3, 1) := by decide +kernel
theorem dX10_keeps_6 : decode cX10_keeps 6 = .ok (.iload_n 2, 1) := by decide +kernel
theorem dX10_keeps_7 : decode cX10_keeps 7 = .ok (.istore 4, 2) := by decide +kernel
theorem dX10_keeps_9 : decode cX10_keeps 9 = .ok (.iload 4, 2) := by decide +kernel
theorem dX10_keeps_11 : decode cX10_keeps 11 = .ok (.iload_n 3, 1) := by decide +kernel
theorem dX10_keeps_12 : decode cX10_keeps 12 = .ok (.if_icmp .ge 30, 3) := by decide +kernel
theorem dX10_keeps_15 : decode cX10_keeps 15 = .ok (.aload_n 0, 1) := by decide +kernel
theorem dX10_keeps_16 : decode cX10_keeps 16 = .ok (.getfield 58, 3) := by decide +kernel
theorem dX10_keeps_19 : decode cX10_keeps 19 = .ok (.bipush 21, 2) := by decide +kernel
theorem dX10_keeps_21 : decode cX10_keeps 21 = .ok (.iload_n 1, 1) := by decide +kernel
theorem dX10_keeps_22 : decode cX10_keeps 22 = .ok (.imul, 1) := by decide +kernel
theorem dX10_keeps_23 : decode cX10_keeps 23 = .ok (.iload 4, 2) := by decide +kernel
theorem dX10_keeps_25 : decode cX10_keeps 25 = .ok (.iadd, 1) := by decide +kernel
theorem dX10_keeps_26 : decode cX10_keeps 26 = .ok (.iload_n 2, 1) := by decide +kernel
theorem dX10_keeps_27 : decode cX10_keeps 27 = .ok (.isub, 1) := by decide +kernel
theorem dX10_keeps_28 : decode cX10_keeps 28 = .ok (.aload_n 0, 1) := by decide +kernel
theorem dX10_keeps_29 : decode cX10_keeps 29 = .ok (.getfield 52, 3) := by decide +kernel
theorem dX10_keeps_32 : decode cX10_keeps 32 = .ok (.iload 4, 2) := by decide +kernel
theorem dX10_keeps_34 : decode cX10_keeps 34 = .ok (.iaload, 1) := by decide +kernel
theorem dX10_keeps_35 : decode cX10_keeps 35 = .ok (.iastore, 1) := by decide +kernel
theorem dX10_keeps_36 : decode cX10_keeps 36 = .ok (.iinc 4 1, 3) := by decide +kernel
theorem dX10_keeps_39 : decode cX10_keeps 39 = .ok (.goto (-30), 3) := by decide +kernel
theorem dX10_keeps_42 : decode cX10_keeps 42 = .ok (.return_, 1) := by decide +kernel
theorem dX10_comes_0 : decode cX10_comes 0 = .ok (.aload_n 0, 1) := by decide +kernel
theorem dX10_comes_1 : decode cX10_comes 1 = .ok (.getfield 178, 3) := by decide +kernel
theorem dX10_comes_4 : decode cX10_comes 4 = .ok (.istore_n 2, 1) := by decide +kernel
theorem dX10_comes_5 : decode cX10_comes 5 = .ok (.iconst 1, 1) := by decide +kernel
theorem dX10_comes_6 : decode cX10_comes 6 = .ok (.istore_n 3, 1) := by decide +kernel
theorem dX10_comes_7 : decode cX10_comes 7 = .ok (.bipush 21, 2) := by decide +kernel
theorem dX10_comes_9 : decode cX10_comes 9 = .ok (.iload_n 1, 1) := by decide +kernel
theorem dX10_comes_10 : decode cX10_comes 10 = .ok (.imul, 1) := by decide +kernel
theorem dX10_comes_11 : decode cX10_comes 11 = .ok (.istore 4, 2) := by decide +kernel
theorem dX10_comes_13 : decode cX10_comes 13 = .ok (.iload_n 3, 1) := by decide +kernel
theorem dX10_comes_14 : decode cX10_comes 14 = .ok (.ifCond .le 48, 3) := by decide +kernel
theorem dX10_comes_17 : decode cX10_comes 17 = .ok (.aload_n 0, 1) := by decide +kernel
theorem dX10_comes_18 : decode cX10_comes 18 = .ok (.getfield 52, 3) := by decide +kernel
theorem dX10_comes_21 : decode cX10_comes 21 = .ok (.aload_n 0, 1) := by decide +kernel
theorem dX10_comes_22 : decode cX10_comes 22 = .ok (.getfield 178, 3) := by decide +kernel
theorem dX10_comes_25 : decode cX10_comes 25 = .ok (.aload_n 0, 1) := by decide +kernel
theorem dX10_comes_26 : decode cX10_comes 26 = .ok (.getfield 58, 3) := by decide +kernel
theorem dX10_comes_29 : decode cX10_comes 29 = .ok (.iload 4, 2) := by decide +kernel
theorem dX10_comes_31 : decode cX10_comes 31 = .ok (.iaload, 1) := by decide +kernel
theorem dX10_comes_32 : decode cX10_comes 32 = .ok (.iastore, 1) := by decide +kernel
theorem dX10_comes_33 : decode cX10_comes 33 = .ok (.iload_n 3, 1) := by decide +kernel
theorem dX10_comes_34 : decode cX10_comes 34 = .ok (.aload_n 0, 1) := by decide +kernel
theorem dX10_comes_35 : decode cX10_comes 35 = .ok (.aload_n 0, 1) := by decide +kernel
theorem dX10_comes_36 : decode cX10_comes 36 = .ok (.getfield 178, 3) := by decide +kernel
theorem dX10_comes_39 : decode cX10_comes 39 = .ok (.invokevirtual 209, 3) := by decide +kernel
theorem dX10_comes_42 : decode cX10_comes 42 = .ok (.iconst 1, 1) := by decide +kernel
theorem dX10_comes_43 : decode cX10_comes 43 = .ok (.isub, 1) := by decide +kernel
theorem dX10_comes_44 : decode cX10_comes 44 = .ok (.iadd, 1) := by decide +kernel
theorem dX10_comes_45 : decode cX10_comes 45 = .ok (.istore_n 3, 1) := by decide +kernel
theorem dX10_comes_46 : decode cX10_comes 46 = .ok (.aload_n 0, 1) := by decide +kernel
theorem dX10_comes_47 : decode cX10_comes 47 = .ok (.dup, 1) := by decide +kernel
theorem dX10_comes_48 : decode cX10_comes 48 = .ok (.getfield 178, 3) := by decide +kernel
theorem dX10_comes_51 : decode cX10_comes 51 = .ok (.iconst 1, 1) := by decide +kernel
theorem dX10_comes_52 : decode cX10_comes 52 = .ok (.iadd, 1) := by decide +kernel
theorem dX10_comes_53 : decode cX10_comes 53 = .ok (.putfield 178, 3) := by decide +kernel
theorem dX10_comes_56 : decode cX10_comes 56 = .ok (.iinc 4 1, 3) := by decide +kernel
theorem dX10_comes_59 : decode cX10_comes 59 = .ok (.goto (-46), 3) := by decide +kernel
theorem dX10_comes_62 : decode cX10_comes 62 = .ok (.iload_n 2, 1) := by decide +kernel
theorem dX10_comes_63 : decode cX10_comes 63 = .ok (.ireturn, 1) := by decide +kernel
