theorem dJ6_numberOfTrailingZeros_0f7a4_35 : decode cJ6_numberOfTrailingZeros_0f7a4 35 = .ok (.sipush 256, 3) := by decide +kernel
theorem dJ6_numberOfTrailingZeros_0f7a4_38 : decode cJ6_numberOfTrailingZeros_0f7a4 38 = .ok (.if_icmp .le 11, 3) := by decide +kernel
theorem dJ6_numberOfTrailingZeros_0f7a4_41 : decode cJ6_numberOfTrailingZeros_0f7a4 41 = .ok (.iinc 1 8, 3) := by decide +kernel
theorem dJ6_numberOfTrailingZeros_0f7a4_44 : decode cJ6_numberOfTrailingZeros_0f7a4 44 = .ok (.iload_n 0, 1) := by decide +kernel
theorem dJ6_numberOfTrailingZeros_0f7a4_45 : decode cJ6_numberOfTrailingZeros_0f7a4 45 = .ok (.bipush 8, 2) := by decide +kernel
theorem dJ6_numberOfTrailingZeros_0f7a4_47 : decode cJ6_numberOfTrailingZeros_0f7a4 47 = .ok (.iushr, 1) := by decide +kernel
theorem dJ6_numberOfTrailingZeros_0f7a4_48 : decode cJ6_numberOfTrailingZeros_0f7a4 48 = .ok (.istore_n 0, 1) := by decide +kernel
theorem dJ6_numberOfTrailingZeros_0f7a4_49 : decode cJ6_numberOfTrailingZeros_0f7a4 49 = .ok (.iload_n 0, 1) := by decide +kernel
theorem dJ6_numberOfTrailingZeros_0f7a4_50 : decode cJ6_numberOfTrailingZeros_0f7a4 50 = .ok (.bipush 16, 2) := by decide +kernel
theorem dJ6_numberOfTrailingZeros_0f7a4_52 : decode cJ6_numberOfTrailingZeros_0f7a4 52 = .ok (.if_icmp .le 10, 3) := by decide +kernel
theorem dJ6_numberOfTrailingZeros_0f7a4_55 : decode cJ6_numberOfTrailingZeros_0f7a4 55 = .ok (.iinc 1 4, 3) := by decide +kernel
theorem dJ6_numberOfTrailingZeros_0f7a4_58 : decode cJ6_numberOfTrailingZeros_0f7a4 58 = .ok (.iload_n 0, 1) := by decide +kernel
theorem dJ6_numberOfTrailingZeros_0f7a4_59 : decode cJ6_numberOfTrailingZeros_0f7a4 59 = .ok (.iconst 4, 1) := by decide +kernel
theorem dJ6_numberOfTrailingZeros_0f7a4_60 : decode cJ6_numberOfTrailingZeros_0f7a4 60 = .ok (.iushr, 1) := by decide +kernel
theorem dJ6_numberOfTrailingZeros_0f7a4_61 : decode cJ6_numberOfTrailingZeros_0f7a4 61 = .ok (.istore_n 0, 1) := by decide +kernel
theorem dJ6_numberOfTrailingZeros_0f7a4_62 : decode cJ6_numberOfTrailingZeros_0f7a4 62 = .ok (.iload_n 0, 1) := by decide +kernel
theorem dJ6_numberOfTrailingZeros_0f7a4_63 : decode cJ6_numberOfTrailingZeros_0f7a4 63 = .ok (.iconst 4, 1) := by decide +kernel
theorem dJ6_numberOfTrailingZeros_0f7a4_64 : decode cJ6_numberOfTrailingZeros_0f7a4 64 = .ok (.if_icmp .le 10, 3) := by decide +kernel
theorem dJ6_numberOfTrailingZeros_0f7a4_67 : decode cJ6_numberOfTrailingZeros_0f7a4 67 = .ok (.iinc 1 2, 3) := by decide +kernel
theorem dJ6_numberOfTrailingZeros_0f7a4_70 : decode cJ6_numberOfTrailingZeros_0f7a4 70 = .ok (.iload_n 0, 1) := by decide +kernel
theorem dJ6_numberOfTrailingZeros_0f7a4_71 : decode cJ6_numberOfTrailingZeros_0f7a4 71 = .ok (.iconst 2, 1) := by decide +kernel
theorem dJ6_numberOfTrailingZeros_0f7a4_72 : decode cJ6_numberOfTrailingZeros_0f7a4 72 = .ok (.iushr, 1) := by decide +kernel
theorem dJ6_numberOfTrailingZeros_0f7a4_73 : decode cJ6_numberOfTrailingZeros_0f7a4 73 = .ok (.istore_n 0, 1) := by decide +kernel
theorem dJ6_numberOfTrailingZeros_0f7a4_74 : decode cJ6_numberOfTrailingZeros_0f7a4 74 = .ok (.iload_n 1, 1) := by decide +kernel
theorem dJ6_numberOfTrailingZeros_0f7a4_75 : decode cJ6_numberOfTrailingZeros_0f7a4 75 = .ok (.iload_n 0, 1) := by decide +kernel
theorem dJ6_numberOfTrailingZeros_0f7a4_76 : decode cJ6_numberOfTrailingZeros_0f7a4 76 = .ok (.iconst 1, 1) := by decide +kernel
theorem dJ6_numberOfTrailingZeros_0f7a4_77 : decode cJ6_numberOfTrailingZeros_0f7a4 77 = .ok (.iushr, 1) := by decide +kernel
theorem dJ6_numberOfTrailingZeros_0f7a4_78 : decode cJ6_numberOfTrailingZeros_0f7a4 78 = .ok (.iadd, 1) := by decide +kernel
theorem dJ6_numberOfTrailingZeros_0f7a4_79 : decode cJ6_numberOfTrailingZeros_0f7a4 79 = .ok (.ireturn, 1) := by decide +kernel
theorem dJ6_bitCount_0f7a4_0 : decode cJ6_bitCount_0f7a4 0 = .ok (.iload_n 0, 1) := by decide +kernel
theorem dJ6_bitCount_0f7a4_1 : decode cJ6_bitCount_0f7a4 1 = .ok (.iload_n 0, 1) := by decide +kernel
theorem dJ6_bitCount_0f7a4_2 : decode cJ6_bitCount_0f7a4 2 = .ok (.iconst 1, 1) := by decide +kernel
theorem dJ6_bitCount_0f7a4_3 : decode cJ6_bitCount_0f7a4 3 = .ok (.iushr, 1) := by decide +kernel
theorem dJ6_bitCount_0f7a4_4 : decode cJ6_bitCount_0f7a4 4 = .ok (.ldc_w 265, 3) := by decide +kernel
theorem dJ6_bitCount_0f7a4_7 : decode cJ6_bitCount_0f7a4 7 = .ok (.iand, 1) := by decide +kernel
theorem dJ6_bitCount_0f7a4_8 : decode cJ6_bitCount_0f7a4 8 = .ok (.isub, 1) := by decide +kernel
theorem dJ6_bitCount_0f7a4_9 : decode cJ6_bitCount_0f7a4 9 = .ok (.istore_n 0, 1) := by decide +kernel
theorem dJ6_bitCount_0f7a4_10 : decode cJ6_bitCount_0f7a4 10 = .ok (.iload_n 0, 1) := by decide +kernel
theorem dJ6_bitCount_0f7a4_11 : decode cJ6_bitCount_0f7a4 11 = .ok (.ldc_w 266, 3) := by decide +kernel
theorem dJ6_bitCount_0f7a4_14 : decode cJ6_bitCount_0f7a4 14 = .ok (.iand, 1) := by decide +kernel
theorem dJ6_bitCount_0f7a4_15 : decode cJ6_bitCount_0f7a4 15 = .ok (.iload_n 0, 1) := by decide +kernel
theorem dJ6_bitCount_0f7a4_16 : decode cJ6_bitCount_0f7a4 16 = .ok (.iconst 2, 1) := by decide +kernel
theorem dJ6_bitCount_0f7a4_17 : decode cJ6_bitCount_0f7a4 17 = .ok (.iushr, 1) := by decide +kernel
theorem dJ6_bitCount_0f7a4_18 : decode cJ6_bitCount_0f7a4 18 = .ok (.ldc_w 266, 3) := by decide +kernel
theorem dJ6_bitCount_0f7a4_21 : decode cJ6_bitCount_0f7a4 21 = .ok (.iand, 1) := by decide +kernel
theorem dJ6_bitCount_0f7a4_22 : decode cJ6_bitCount_0f7a4 22 = .ok (.iadd, 1) := by decide +kernel
theorem dJ6_bitCount_0f7a4_23 : decode cJ6_bitCount_0f7a4 23 = .ok (.istore_n 0, 1) := by decide +kernel
theorem dJ6_bitCount_0f7a4_24 : decode cJ6_bitCount_0f7a4 24 = .ok (.iload_n 0, 1) := by decide +kernel
theorem dJ6_bitCount_0f7a4_25 : decode cJ6_bitCount_0f7a4 25 = .ok (.iload_n 0, 1) := by decide +kernel
theorem dJ6_bitCount_0f7a4_26 : decode cJ6_bitCount_0f7a4 26 = .ok (.iconst 4, 1) := by decide +kernel
theorem dJ6_bitCount_0f7a4_27 : decode cJ6_bitCount_0f7a4 27 = .ok (.iushr, 1) := by decide +kernel
theorem dJ6_bitCount_0f7a4_28 : decode cJ6_bitCount_0f7a4 28 = .ok (.iadd, 1) := by decide +kernel
theorem dJ6_bitCount_0f7a4_29 : decode cJ6_bitCount_0f7a4 29 = .ok (.ldc_w 267, 3) := by decide +kernel
theorem dJ6_bitCount_0f7a4_32 : decode cJ6_bitCount_0f7a4 32 = .ok (.iand, 1) := by decide +kernel
theorem dJ6_bitCount_0f7a4_33 : decode cJ6_bitCount_0f7a4 33 = .ok (.istore_n 0, 1) := by decide +kernel
theorem dJ6_bitCount_0f7a4_34 : decode cJ6_bitCount_0f7a4 34 = .ok (.iload_n 0, 1) := by decide +kernel
theorem dJ6_bitCount_0f7a4_35 : decode cJ6_bitCount_0f7a4 35 = .ok (.iload_n 0, 1) := by decide +kernel
theorem dJ6_bitCount_0f7a4_36 : decode cJ6_bitCount_0f7a4 36 = .ok (.bipush 8, 2) := by decide +kernel
theorem dJ6_bitCount_0f7a4_38 : decode cJ6_bitCount_0f7a4 38 = .ok (.iushr, 1) := by decide +kernel
theorem dJ6_bitCount_0f7a4_39 : decode cJ6_bitCount_0f7a4 39 = .ok (.iadd, 1) := by decide +kernel
theorem dJ6_bitCount_0f7a4_40 : decode cJ6_bitCount_0f7a4 40 = .ok (.istore_n 0, 1) := by decide +kernel
theorem dJ6_bitCount_0f7a4_41 : decode cJ6_bitCount_0f7a4 41 = .ok (.iload_n 0, 1) := by decide +kernel
theorem dJ6_bitCount_0f7a4_42 : decode cJ6_bitCount_0f7a4 42 = .ok (.iload_n 0, 1) := by decide +kernel
theorem dJ6_bitCount_0f7a4_43 : decode cJ6_bitCount_0f7a4 43 = .ok (.bipush 16, 2) := by decide +kernel
theorem dJ6_bitCount_0f7a4_45 : decode cJ6_bitCount_0f7a4 45 = .ok (.iushr, 1) := by decide +kernel
theorem dJ6_bitCount_0f7a4_46 : decode cJ6_bitCount_0f7a4 46 = .ok (.iadd, 1) := by decide +kernel
theorem dJ6_bitCount_0f7a4_47 : decode cJ6_bitCount_0f7a4 47 = .ok (.istore_n 0, 1) := by decide +kernel
theorem dJ6_bitCount_0f7a4_48 : decode cJ6_bitCount_0f7a4 48 = .ok (.iload_n 0, 1) := by decide +kernel
theorem dJ6_bitCount_0f7a4_49 : decode cJ6_bitCount_0f7a4 49 = .ok (.bipush 63, 2) := by decide +kernel
theorem dJ6_bitCount_0f7a4_51 : decode cJ6_bitCount_0f7a4 51 = .ok (.iand, 1) := by decide +kernel
theorem dJ6_bitCount_0f7a4_52 : decode cJ6_bitCount_0f7a4 52 = .ok (.ireturn, 1) := by decide +kernel
theorem dJ13_bitCount_95d88_0 : decode cJ13_bitCount_95d88 0 = .ok (.lload_n 0, 1) := by decide +kernel
theorem dJ13_bitCount_95d88_1 : decode cJ13_bitCount_95d88 1 = .ok (.lload_n 0, 1) := by decide +kernel
theorem dJ13_bitCount_95d88_2 : decode cJ13_bitCount_95d88 2 = .ok (.iconst 1, 1) := by decide +kernel
theorem dJ13_bitCount_95d88_3 : decode cJ13_bitCount_95d88 3 = .ok (.lushr, 1) := by decide +kernel
theorem dJ13_bitCount_95d88_4 : decode cJ13_bitCount_95d88 4 = .ok (.ldc2_w 314, 3) := by decide +kernel
theorem dJ13_bitCount_95d88_7 : decode cJ13_bitCount_95d88 7 = .ok (.land, 1) := by decide +kernel
theorem dJ13_bitCount_95d88_8 : decode cJ13_bitCount_95d88 8 = .ok (.lsub, 1) := by decide +kernel
theorem dJ13_bitCount_95d88_9 : decode cJ13_bitCount_95d88 9 = .ok (.lstore_n 0, 1) := by decide +kernel
theorem dJ13_bitCount_95d88_10 : decode cJ13_bitCount_95d88 10 = .ok (.lload_n 0, 1) := by decide +kernel
theorem dJ13_bitCount_95d88_11 : decode cJ13_bitCount_95d88 11 = .ok (.ldc2_w 316, 3) := by decide +kernel
theorem dJ13_bitCount_95d88_14 : decode cJ13_bitCount_95d88 14 = .ok (.land, 1) := by decide +kernel
theorem dJ13_bitCount_95d88_15 : decode cJ13_bitCount_95d88 15 = .ok (.lload_n 0, 1) := by decide +kernel
theorem dJ13_bitCount_95d88_16 : decode cJ13_bitCount_95d88 16 = .ok (.iconst 2, 1) := by decide +kernel
theorem dJ13_bitCount_95d88_17 : decode cJ13_bitCount_95d88 17 = .ok (.lushr, 1) := by decide +kernel
theorem dJ13_bitCount_95d88_18 : decode cJ13_bitCount_95d88 18 = .ok (.ldc2_w 316, 3) := by decide +kernel
theorem dJ13_bitCount_95d88_21 : decode cJ13_bitCount_95d88 21 = .ok (.land, 1) := by decide +kernel
theorem dJ13_bitCount_95d88_22 : decode cJ13_bitCount_95d88 22 = .ok (.ladd, 1) := by decide +kernel
theorem dJ13_bitCount_95d88_23 : decode cJ13_bitCount_95d88 23 = .ok (.lstore_n 0, 1) := by decide +kernel
theorem dJ13_bitCount_95d88_24 : decode cJ13_bitCount_95d88 24 = .ok (.lload_n 0, 1) := by decide +kernel
theorem dJ13_bitCount_95d88_25 : decode cJ13_bitCount_95d88 25 = .ok (.lload_n 0, 1) := by decide +kernel
theorem dJ13_bitCount_95d88_26 : decode cJ13_bitCount_95d88 26 = .ok (.iconst 4, 1) := by decide +kernel
theorem dJ13_bitCount_95d88_27 : decode cJ13_bitCount_95d88 27 = .ok (.lushr, 1) := by decide +kernel
theorem dJ13_bitCount_95d88_28 : decode cJ13_bitCount_95d88 28 = .ok (.ladd, 1) := by decide +kernel
theorem dJ13_bitCount_95d88_29 : decode cJ13_bitCount_95d88 29 = .ok (.ldc2_w 318, 3) := by decide +kernel
theorem dJ13_bitCount_95d88_32 : decode cJ13_bitCount_95d88 32 = .ok (.land, 1) := by decide +kernel
theorem dJ13_bitCount_95d88_33 : decode cJ13_bitCount_95d88 33 = .ok (.lstore_n 0, 1) := by decide +kernel
theorem dJ13_bitCount_95d88_34 : decode cJ13_bitCount_95d88 34 = .ok (.lload_n 0, 1) := by decide +kernel
theorem dJ13_bitCount_95d88_35 : decode cJ13_bitCount_95d88 35 = .ok (.lload_n 0, 1) := by decide +kernel
theorem dJ13_bitCount_95d88_36 : decode cJ13_bitCount_95d88 36 = .ok (.bipush 8, 2) := by decide +kernel
theorem dJ13_bitCount_95d88_38 : decode cJ13_bitCount_95d88 38 = .ok (.lushr, 1) := by decide +kernel
theorem dJ13_bitCount_95d88_39 : decode cJ13_bitCount_95d88 39 = .ok (.ladd, 1) := by decide +kernel
theorem dJ13_bitCount_95d88_40 : decode cJ13_bitCount_95d88 40 = .ok (.lstore_n 0, 1) := by decide +kernel
theorem dJ13_bitCount_95d88_41 : decode cJ13_bitCount_95d88 41 = .ok (.lload_n 0, 1) := by decide +kernel
theorem dJ13_bitCount_95d88_42 : decode cJ13_bitCount_95d88 42 = .ok (.lload_n 0, 1) := by decide +kernel
theorem dJ13_bitCount_95d88_43 : decode cJ13_bitCount_95d88 43 = .ok (.bipush 16, 2) := by decide +kernel
theorem dJ13_bitCount_95d88_45 : decode cJ13_bitCount_95d88 45 = .ok (.lushr, 1) := by decide +kernel
theorem dJ13_bitCount_95d88_46 : decode cJ13_bitCount_95d88 46 = .ok (.ladd, 1) := by decide +kernel
theorem dJ13_bitCount_95d88_47 : decode cJ13_bitCount_95d88 47 = .ok (.lstore_n 0, 1) := by decide +kernel
theorem dJ13_bitCount_95d88_48 : decode cJ13_bitCount_95d88 48 = .ok (.lload_n 0, 1) := by decide +kernel
theorem dJ13_bitCount_95d88_49 : decode cJ13_bitCount_95d88 49 = .ok (.lload_n 0, 1) := by decide +kernel
theorem dJ13_bitCount_95d88_50 : decode cJ13_bitCount_95d88 50 = .ok (.bipush 32, 2) := by decide +kernel
theorem dJ13_bitCount_95d88_52 : decode cJ13_bitCount_95d88 52 = .ok (.lushr, 1) := by decide +kernel
theorem dJ13_bitCount_95d88_53 : decode cJ13_bitCount_95d88 53 = .ok (.ladd, 1) := by decide +kernel
theorem dJ13_bitCount_95d88_54 : decode cJ13_bitCount_95d88 54 = .ok (.lstore_n 0, 1) := by decide +kernel
theorem dJ13_bitCount_95d88_55 : decode cJ13_bitCount_95d88 55 = .ok (.lload_n 0, 1) := by decide +kernel
theorem dJ13_bitCount_95d88_56 : decode cJ13_bitCount_95d88 56 = .ok (.l2i, 1) := by decide +kernel
theorem dJ13_bitCount_95d88_57 : decode cJ13_bitCount_95d88 57 = .ok (.bipush 127, 2) := by decide +kernel
theorem dJ13_bitCount_95d88_59 : decode cJ13_bitCount_95d88 59 = .ok (.iand, 1) := by decide +kernel
theorem dJ13_bitCount_95d88_60 : decode cJ13_bitCount_95d88 60 = .ok (.ireturn, 1) := by decide +kernel
theorem dX9_codeFor_0 : decode cX9_codeFor 0 = .ok (.bipush 8, 2) := by decide +kernel
theorem dX9_codeFor_2 : decode cX9_codeFor 2 = .ok (.iload_n 0, 1) := by decide +kernel
theorem dX9_codeFor_3 : decode cX9_codeFor 3 = .ok (.iconst 1, 1) := by decide +kernel
theorem dX9_codeFor_4 : decode cX9_codeFor 4 = .ok (.iadd, 1) := by decide +kernel
theorem dX9_codeFor_5 : decode cX9_codeFor 5 = .ok (.imul, 1) := by decide +kernel
theorem dX9_codeFor_6 : decode cX9_codeFor 6 = .ok (.iload_n 1, 1) := by decide +kernel
theorem dX9_codeFor_7 : decode cX9_codeFor 7 = .ok (.iadd, 1) := by decide +kernel
theorem dX9_codeFor_8 : decode cX9_codeFor 8 = .ok (.ireturn, 1) := by decide +kernel
theorem dX9_operatorIn_0 : decode cX9_operatorIn 0 = .ok (.iload_n 0, 1) := by decide +kernel
theorem dX9_operatorIn_1 : decode cX9_operatorIn 1 = .ok (.bipush 8, 2) := by decide +kernel
theorem dX9_operatorIn_3 : decode cX9_operatorIn 3 = .ok (.if_icmp .ge 7, 3) := by decide +kernel
theorem dX9_operatorIn_6 : decode cX9_operatorIn 6 = .ok (.iconst (-1), 1) := by decide +kernel
theorem dX9_operatorIn_7 : decode cX9_operatorIn 7 = .ok (.goto 8, 3) := by decide +kernel
theorem dX9_operatorIn_10 : decode cX9_operatorIn 10 = .ok (.iload_n 0, 1) := by decide +kernel
theorem dX9_operatorIn_11 : decode cX9_operatorIn 11 = .ok (.iconst 3, 1) := by decide +kernel
theorem dX9_operatorIn_12 : decode cX9_operatorIn 12 = .ok (.ishr, 1) := by decide +kernel
theorem dX9_operatorIn_13 : decode cX9_operatorIn 13 = .ok (.iconst 1, 1) := by decide +kernel
theorem dX9_operatorIn_14 : decode cX9_operatorIn 14 = .ok (.isub, 1) := by decide +kernel
theorem dX9_operatorIn_15 : decode cX9_operatorIn 15 = .ok (.ireturn, 1) := by decide +kernel
theorem dX9_partsIn_0 : decode cX9_partsIn 0 = .ok (.iload_n 0, 1) := by decide +kernel
theorem dX9_partsIn_1 : decode cX9_partsIn 1 = .ok (.bipush 8, 2) := by decide +kernel
theorem dX9_partsIn_3 : decode cX9_partsIn 3 = .ok (.if_icmp .ge 7, 3) := by decide +kernel
theorem dX9_partsIn_6 : decode cX9_partsIn 6 = .ok (.iconst 0, 1) := by decide +kernel
theorem dX9_partsIn_7 : decode cX9_partsIn 7 = .ok (.goto 7, 3) := by decide +kernel
theorem dX9_partsIn_10 : decode cX9_partsIn 10 = .ok (.iload_n 0, 1) := by decide +kernel
theorem dX9_partsIn_11 : decode cX9_partsIn 11 = .ok (.bipush 7, 2) := by decide +kernel
theorem dX9_partsIn_13 : decode cX9_partsIn 13 = .ok (.iand, 1) := by decide +kernel
theorem dX9_partsIn_14 : decode cX9_partsIn 14 = .ok (.ireturn, 1) := by decide +kernel

theorem dX8_init_0 : decode cX8_init 0 = .ok (.aload_n 0, 1) := by decide +kernel
theorem dX8_init_1 : decode cX8_init 1 = .ok (.invokespecial 3, 3) := by decide +kernel
theorem dX8_init_4 : decode cX8_init 4 = .ok (.aload_n 0, 1) := by decide +kernel
theorem dX8_init_5 : decode cX8_init 5 = .ok (.sipush 1024, 3) := by decide +kernel
theorem dX8_init_8 : decode cX8_init 8 = .ok (.newarray .int, 2) := by decide +kernel
theorem dX8_init_10 : decode cX8_init 10 = .ok (.putfield 11, 3) := by decide +kernel
theorem dX8_init_13 : decode cX8_init 13 = .ok (.aload_n 0, 1) := by decide +kernel
theorem dX8_init_14 : decode cX8_init 14 = .ok (.sipush 1024, 3) := by decide +kernel
theorem dX8_init_17 : decode cX8_init 17 = .ok (.newarray .int, 2) := by decide +kernel
theorem dX8_init_19 : decode cX8_init 19 = .ok (.putfield 15, 3) := by decide +kernel
theorem dX8_init_22 : decode cX8_init 22 = .ok (.aload_n 0, 1) := by decide +kernel
theorem dX8_init_23 : decode cX8_init 23 = .ok (.sipush 1024, 3) := by decide +kernel
theorem dX8_init_26 : decode cX8_init 26 = .ok (.newarray .int, 2) := by decide +kernel
theorem dX8_init_28 : decode cX8_init 28 = .ok (.putfield 18, 3) := by decide +kernel
theorem dX8_init_31 : decode cX8_init 31 = .ok (.aload_n 0, 1) := by decide +kernel
theorem dX8_init_32 : decode cX8_init 32 = .ok (.sipush 6144, 3) := by decide +kernel
theorem dX8_init_35 : decode cX8_init 35 = .ok (.newarray .int, 2) := by decide +kernel
theorem dX8_init_37 : decode cX8_init 37 = .ok (.putfield 21, 3) := by decide +kernel
theorem dX8_init_40 : decode cX8_init 40 = .ok (.aload_n 0, 1) := by decide +kernel
theorem dX8_init_41 : decode cX8_init 41 = .ok (.sipush 1024, 3) := by decide +kernel
theorem dX8_init_44 : decode cX8_init 44 = .ok (.newarray .long, 2) := by decide +kernel
theorem dX8_init_46 : decode cX8_init 46 = .ok (.putfield 24, 3) := by decide +kernel
theorem dX8_init_49 : decode cX8_init 49 = .ok (.aload_n 0, 1) := by decide +kernel
theorem dX8_init_50 : decode cX8_init 50 = .ok (.sipush 1024, 3) := by decide +kernel
theorem dX8_init_53 : decode cX8_init 53 = .ok (.newarray .long, 2) := by decide +kernel
theorem dX8_init_55 : decode cX8_init 55 = .ok (.putfield 28, 3) := by decide +kernel
theorem dX8_init_58 : decode cX8_init 58 = .ok (.aload_n 0, 1) := by decide +kernel
theorem dX8_init_59 : decode cX8_init 59 = .ok (.sipush 1024, 3) := by decide +kernel
theorem dX8_init_62 : decode cX8_init 62 = .ok (.newarray .int, 2) := by decide +kernel
theorem dX8_init_64 : decode cX8_init 64 = .ok (.putfield 31, 3) := by decide +kernel
theorem dX8_init_67 : decode cX8_init 67 = .ok (.aload_n 0, 1) := by decide +kernel
theorem dX8_init_68 : decode cX8_init 68 = .ok (.sipush 1024, 3) := by decide +kernel
theorem dX8_init_71 : decode cX8_init 71 = .ok (.newarray .int, 2) := by decide +kernel
theorem dX8_init_73 : decode cX8_init 73 = .ok (.putfield 34, 3) := by decide +kernel
theorem dX8_init_76 : decode cX8_init 76 = .ok (.aload_n 0, 1) := by decide +kernel
theorem dX8_init_77 : decode cX8_init 77 = .ok (.sipush 256, 3) := by decide +kernel
theorem dX8_init_80 : decode cX8_init 80 = .ok (.newarray .int, 2) := by decide +kernel
theorem dX8_init_82 : decode cX8_init 82 = .ok (.putfield 37, 3) := by decide +kernel
theorem dX8_init_85 : decode cX8_init 85 = .ok (.aload_n 0, 1) := by decide +kernel
theorem dX8_init_86 : decode cX8_init 86 = .ok (.bipush 6, 2) := by decide +kernel
theorem dX8_init_88 : decode cX8_init 88 = .ok (.newarray .int, 2) := by decide +kernel
theorem dX8_init_90 : decode cX8_init 90 = .ok (.putfield 40, 3) := by decide +kernel
theorem dX8_init_93 : decode cX8_init 93 = .ok (.aload_n 0, 1) := by decide +kernel
theorem dX8_init_94 : decode cX8_init 94 = .ok (.bipush 120, 2) := by decide +kernel
theorem dX8_init_96 : decode cX8_init 96 = .ok (.newarray .int, 2) := by decide +kernel
theorem dX8_init_98 : decode cX8_init 98 = .ok (.putfield 43, 3) := by decide +kernel
theorem dX8_init_101 : decode cX8_init 101 = .ok (.aload_n 0, 1) := by decide +kernel
theorem dX8_init_102 : decode cX8_init 102 = .ok (.aload_n 1, 1) := by decide +kernel
theorem dX8_init_103 : decode cX8_init 103 = .ok (.putfield 46, 3) := by decide +kernel
theorem dX8_init_106 : decode cX8_init 106 = .ok (.iconst 0, 1) := by decide +kernel
theorem dX8_init_107 : decode cX8_init 107 = .ok (.istore_n 2, 1) := by decide +kernel
theorem dX8_init_108 : decode cX8_init 108 = .ok (.iload_n 2, 1) := by decide +kernel
theorem dX8_init_109 : decode cX8_init 109 = .ok (.sipush 256, 3) := by decide +kernel
theorem dX8_init_112 : decode cX8_init 112 = .ok (.if_icmp .ge 16, 3) := by decide +kernel
theorem dX8_init_115 : decode cX8_init 115 = .ok (.aload_n 0, 1) := by decide +kernel
theorem dX8_init_116 : decode cX8_init 116 = .ok (.getfield 37, 3) := by decide +kernel
theorem dX8_init_119 : decode cX8_init 119 = .ok (.iload_n 2, 1) := by decide +kernel
theorem dX8_init_120 : decode cX8_init 120 = .ok (.iconst (-1), 1) := by decide +kernel
theorem dX8_init_121 : decode cX8_init 121 = .ok (.iastore, 1) := by decide +kernel
theorem dX8_init_122 : decode cX8_init 122 = .ok (.iinc 2 1, 3) := by decide +kernel
theorem dX8_init_125 : decode cX8_init 125 = .ok (.goto (-17), 3) := by decide +kernel
theorem dX8_init_128 : decode cX8_init 128 = .ok (.return_, 1) := by decide +kernel
theorem dX8_clear_0 : decode cX8_clear 0 = .ok (.aload_n 0, 1) := by decide +kernel
theorem dX8_clear_1 : decode cX8_clear 1 = .ok (.iconst 0, 1) := by decide +kernel
theorem dX8_clear_2 : decode cX8_clear 2 = .ok (.invokevirtual 50, 3) := by decide +kernel
theorem dX8_clear_5 : decode cX8_clear 5 = .ok (.aload_n 0, 1) := by decide +kernel
theorem dX8_clear_6 : decode cX8_clear 6 = .ok (.iconst 0, 1) := by decide +kernel
theorem dX8_clear_7 : decode cX8_clear 7 = .ok (.putfield 54, 3) := by decide +kernel
theorem dX8_clear_10 : decode cX8_clear 10 = .ok (.return_, 1) := by decide +kernel
theorem dX8_giveBack_0 : decode cX8_giveBack 0 = .ok (.aload_n 0, 1) := by decide +kernel
theorem dX8_giveBack_1 : decode cX8_giveBack 1 = .ok (.getfield 58, 3) := by decide +kernel
theorem dX8_giveBack_4 : decode cX8_giveBack 4 = .ok (.iconst 1, 1) := by decide +kernel
theorem dX8_giveBack_5 : decode cX8_giveBack 5 = .ok (.isub, 1) := by decide +kernel
theorem dX8_giveBack_6 : decode cX8_giveBack 6 = .ok (.istore_n 2, 1) := by decide +kernel
theorem dX8_giveBack_7 : decode cX8_giveBack 7 = .ok (.iload_n 2, 1) := by decide +kernel
theorem dX8_giveBack_8 : decode cX8_giveBack 8 = .ok (.iload_n 1, 1) := by decide +kernel
theorem dX8_giveBack_9 : decode cX8_giveBack 9 = .ok (.if_icmp .lt 50, 3) := by decide +kernel
theorem dX8_giveBack_12 : decode cX8_giveBack 12 = .ok (.iload_n 2, 1) := by decide +kernel
theorem dX8_giveBack_13 : decode cX8_giveBack 13 = .ok (.ifCond .lt 46, 3) := by decide +kernel
theorem dX8_giveBack_16 : decode cX8_giveBack 16 = .ok (.iload_n 2, 1) := by decide +kernel
theorem dX8_giveBack_17 : decode cX8_giveBack 17 = .ok (.sipush 1024, 3) := by decide +kernel
theorem dX8_giveBack_20 : decode cX8_giveBack 20 = .ok (.if_icmp .ge 39, 3) := by decide +kernel
theorem dX8_giveBack_23 : decode cX8_giveBack 23 = .ok (.aload_n 0, 1) := by decide +kernel
theorem dX8_giveBack_24 : decode cX8_giveBack 24 = .ok (.getfield 31, 3) := by decide +kernel
theorem dX8_giveBack_27 : decode cX8_giveBack 27 = .ok (.iload_n 2, 1) := by decide +kernel
theorem dX8_giveBack_28 : decode cX8_giveBack 28 = .ok (.iaload, 1) := by decide +kernel
theorem dX8_giveBack_29 : decode cX8_giveBack 29 = .ok (.istore_n 3, 1) := by decide +kernel
theorem dX8_giveBack_30 : decode cX8_giveBack 30 = .ok (.iload_n 3, 1) := by decide +kernel
theorem dX8_giveBack_31 : decode cX8_giveBack 31 = .ok (.ifCond .lt 22, 3) := by decide +kernel
theorem dX8_giveBack_34 : decode cX8_giveBack 34 = .ok (.iload_n 3, 1) := by decide +kernel
theorem dX8_giveBack_35 : decode cX8_giveBack 35 = .ok (.sipush 256, 3) := by decide +kernel
theorem dX8_giveBack_38 : decode cX8_giveBack 38 = .ok (.if_icmp .ge 15, 3) := by decide +kernel
theorem dX8_giveBack_41 : decode cX8_giveBack 41 = .ok (.aload_n 0, 1) := by decide +kernel
theorem dX8_giveBack_42 : decode cX8_giveBack 42 = .ok (.getfield 37, 3) := by decide +kernel
theorem dX8_giveBack_45 : decode cX8_giveBack 45 = .ok (.iload_n 3, 1) := by decide +kernel
theorem dX8_giveBack_46 : decode cX8_giveBack 46 = .ok (.aload_n 0, 1) := by decide +kernel
theorem dX8_giveBack_47 : decode cX8_giveBack 47 = .ok (.getfield 34, 3) := by decide +kernel
theorem dX8_giveBack_50 : decode cX8_giveBack 50 = .ok (.iload_n 2, 1) := by decide +kernel
theorem dX8_giveBack_51 : decode cX8_giveBack 51 = .ok (.iaload, 1) := by decide +kernel
theorem dX8_giveBack_52 : decode cX8_giveBack 52 = .ok (.iastore, 1) := by decide +kernel
theorem dX8_giveBack_53 : decode cX8_giveBack 53 = .ok (.iinc 2 (-1), 3) := by decide +kernel
theorem dX8_giveBack_56 : decode cX8_giveBack 56 = .ok (.goto (-49), 3) := by decide +kernel
theorem dX8_giveBack_59 : decode cX8_giveBack 59 = .ok (.aload_n 0, 1) := by decide +kernel
theorem dX8_giveBack_60 : decode cX8_giveBack 60 = .ok (.iconst 0, 1) := by decide +kernel
theorem dX8_giveBack_61 : decode cX8_giveBack 61 = .ok (.aload_n 0, 1) := by decide +kernel
theorem dX8_giveBack_62 : decode cX8_giveBack 62 = .ok (.getfield 58, 3) := by decide +kernel
theorem dX8_giveBack_65 : decode cX8_giveBack 65 = .ok (.iload_n 1, 1) := by decide +kernel
theorem dX8_giveBack_66 : decode cX8_giveBack 66 = .ok (.invokestatic 61, 3) := by decide +kernel
theorem dX8_giveBack_69 : decode cX8_giveBack 69 = .ok (.invokestatic 67, 3) := by decide +kernel
theorem dX8_giveBack_72 : decode cX8_giveBack 72 = .ok (.putfield 58, 3) := by decide +kernel
theorem dX8_giveBack_75 : decode cX8_giveBack 75 = .ok (.return_, 1) := by decide +kernel
theorem dX8_codeOf_0 : decode cX8_codeOf 0 = .ok (.iload_n 1, 1) := by decide +kernel
theorem dX8_codeOf_1 : decode cX8_codeOf 1 = .ok (.ifCond .lt 27, 3) := by decide +kernel
theorem dX8_codeOf_4 : decode cX8_codeOf 4 = .ok (.iload_n 1, 1) := by decide +kernel
theorem dX8_codeOf_5 : decode cX8_codeOf 5 = .ok (.aload_n 0, 1) := by decide +kernel
theorem dX8_codeOf_6 : decode cX8_codeOf 6 = .ok (.getfield 58, 3) := by decide +kernel
theorem dX8_codeOf_9 : decode cX8_codeOf 9 = .ok (.if_icmp .ge 19, 3) := by decide +kernel
theorem dX8_codeOf_12 : decode cX8_codeOf 12 = .ok (.iload_n 1, 1) := by decide +kernel
theorem dX8_codeOf_13 : decode cX8_codeOf 13 = .ok (.sipush 1024, 3) := by decide +kernel
theorem dX8_codeOf_16 : decode cX8_codeOf 16 = .ok (.if_icmp .ge 12, 3) := by decide +kernel
theorem dX8_codeOf_19 : decode cX8_codeOf 19 = .ok (.aload_n 0, 1) := by decide +kernel
theorem dX8_codeOf_20 : decode cX8_codeOf 20 = .ok (.getfield 11, 3) := by decide +kernel
theorem dX8_codeOf_23 : decode cX8_codeOf 23 = .ok (.iload_n 1, 1) := by decide +kernel
theorem dX8_codeOf_24 : decode cX8_codeOf 24 = .ok (.iaload, 1) := by decide +kernel
theorem dX8_codeOf_25 : decode cX8_codeOf 25 = .ok (.goto 4, 3) := by decide +kernel
theorem dX8_codeOf_28 : decode cX8_codeOf 28 = .ok (.iconst 0, 1) := by decide +kernel
theorem dX8_codeOf_29 : decode cX8_codeOf 29 = .ok (.ireturn, 1) := by decide +kernel
theorem dX8_maskOf_0 : decode cX8_maskOf 0 = .ok (.iload_n 1, 1) := by decide +kernel
theorem dX8_maskOf_1 : decode cX8_maskOf 1 = .ok (.ifCond .lt 27, 3) := by decide +kernel
theorem dX8_maskOf_4 : decode cX8_maskOf 4 = .ok (.iload_n 1, 1) := by decide +kernel
theorem dX8_maskOf_5 : decode cX8_maskOf 5 = .ok (.aload_n 0, 1) := by decide +kernel
theorem dX8_maskOf_6 : decode cX8_maskOf 6 = .ok (.getfield 58, 3) := by decide +kernel
theorem dX8_maskOf_9 : decode cX8_maskOf 9 = .ok (.if_icmp .ge 19, 3) := by decide +kernel
theorem dX8_maskOf_12 : decode cX8_maskOf 12 = .ok (.iload_n 1, 1) := by decide +kernel
theorem dX8_maskOf_13 : decode cX8_maskOf 13 = .ok (.sipush 1024, 3) := by decide +kernel
theorem dX8_maskOf_16 : decode cX8_maskOf 16 = .ok (.if_icmp .ge 12, 3) := by decide +kernel
theorem dX8_maskOf_19 : decode cX8_maskOf 19 = .ok (.aload_n 0, 1) := by decide +kernel
theorem dX8_maskOf_20 : decode cX8_maskOf 20 = .ok (.getfield 18, 3) := by decide +kernel
theorem dX8_maskOf_23 : decode cX8_maskOf 23 = .ok (.iload_n 1, 1) := by decide +kernel
theorem dX8_maskOf_24 : decode cX8_maskOf 24 = .ok (.iaload, 1) := by decide +kernel
theorem dX8_maskOf_25 : decode cX8_maskOf 25 = .ok (.goto 4, 3) := by decide +kernel
theorem dX8_maskOf_28 : decode cX8_maskOf 28 = .ok (.iconst 0, 1) := by decide +kernel
theorem dX8_maskOf_29 : decode cX8_maskOf 29 = .ok (.ireturn, 1) := by decide +kernel
theorem dX8_lowOf_0 : decode cX8_lowOf 0 = .ok (.iload_n 1, 1) := by decide +kernel
theorem dX8_lowOf_1 : decode cX8_lowOf 1 = .ok (.ifCond .lt 27, 3) := by decide +kernel
theorem dX8_lowOf_4 : decode cX8_lowOf 4 = .ok (.iload_n 1, 1) := by decide +kernel
theorem dX8_lowOf_5 : decode cX8_lowOf 5 = .ok (.aload_n 0, 1) := by decide +kernel
theorem dX8_lowOf_6 : decode cX8_lowOf 6 = .ok (.getfield 58, 3) := by decide +kernel
theorem dX8_lowOf_9 : decode cX8_lowOf 9 = .ok (.if_icmp .ge 19, 3) := by decide +kernel
theorem dX8_lowOf_12 : decode cX8_lowOf 12 = .ok (.iload_n 1, 1) := by decide +kernel
theorem dX8_lowOf_13 : decode cX8_lowOf 13 = .ok (.sipush 1024, 3) := by decide +kernel
theorem dX8_lowOf_16 : decode cX8_lowOf 16 = .ok (.if_icmp .ge 12, 3) := by decide +kernel
theorem dX8_lowOf_19 : decode cX8_lowOf 19 = .ok (.aload_n 0, 1) := by decide +kernel
theorem dX8_lowOf_20 : decode cX8_lowOf 20 = .ok (.getfield 24, 3) := by decide +kernel
theorem dX8_lowOf_23 : decode cX8_lowOf 23 = .ok (.iload_n 1, 1) := by decide +kernel
theorem dX8_lowOf_24 : decode cX8_lowOf 24 = .ok (.laload, 1) := by decide +kernel
theorem dX8_lowOf_25 : decode cX8_lowOf 25 = .ok (.goto 4, 3) := by decide +kernel
theorem dX8_lowOf_28 : decode cX8_lowOf 28 = .ok (.lconst 0, 1) := by decide +kernel
theorem dX8_lowOf_29 : decode cX8_lowOf 29 = .ok (.lreturn, 1) := by decide +kernel
theorem dX8_highOf_0 : decode cX8_highOf 0 = .ok (.iload_n 1, 1) := by decide +kernel
theorem dX8_highOf_1 : decode cX8_highOf 1 = .ok (.ifCond .lt 27, 3) := by decide +kernel
theorem dX8_highOf_4 : decode cX8_highOf 4 = .ok (.iload_n 1, 1) := by decide +kernel
theorem dX8_highOf_5 : decode cX8_highOf 5 = .ok (.aload_n 0, 1) := by decide +kernel
theorem dX8_highOf_6 : decode cX8_highOf 6 = .ok (.getfield 58, 3) := by decide +kernel
theorem dX8_highOf_9 : decode cX8_highOf 9 = .ok (.if_icmp .ge 19, 3) := by decide +kernel
theorem dX8_highOf_12 : decode cX8_highOf 12 = .ok (.iload_n 1, 1) := by decide +kernel
theorem dX8_highOf_13 : decode cX8_highOf 13 = .ok (.sipush 1024, 3) := by decide +kernel
theorem dX8_highOf_16 : decode cX8_highOf 16 = .ok (.if_icmp .ge 12, 3) := by decide +kernel
theorem dX8_highOf_19 : decode cX8_highOf 19 = .ok (.aload_n 0, 1) := by decide +kernel
theorem dX8_highOf_20 : decode cX8_highOf 20 = .ok (.getfield 28, 3) := by decide +kernel
theorem dX8_highOf_23 : decode cX8_highOf 23 = .ok (.iload_n 1, 1) := by decide +kernel
theorem dX8_highOf_24 : decode cX8_highOf 24 = .ok (.laload, 1) := by decide +kernel
theorem dX8_highOf_25 : decode cX8_highOf 25 = .ok (.goto 4, 3) := by decide +kernel
theorem dX8_highOf_28 : decode cX8_highOf 28 = .ok (.lconst 0, 1) := by decide +kernel
theorem dX8_highOf_29 : decode cX8_highOf 29 = .ok (.lreturn, 1) := by decide +kernel
theorem dX8_partOf_0 : decode cX8_partOf 0 = .ok (.iload_n 1, 1) := by decide +kernel
theorem dX8_partOf_1 : decode cX8_partOf 1 = .ok (.ifCond .lt 42, 3) := by decide +kernel
theorem dX8_partOf_4 : decode cX8_partOf 4 = .ok (.iload_n 1, 1) := by decide +kernel
theorem dX8_partOf_5 : decode cX8_partOf 5 = .ok (.aload_n 0, 1) := by decide +kernel
theorem dX8_partOf_6 : decode cX8_partOf 6 = .ok (.getfield 58, 3) := by decide +kernel
theorem dX8_partOf_9 : decode cX8_partOf 9 = .ok (.if_icmp .ge 34, 3) := by decide +kernel
theorem dX8_partOf_12 : decode cX8_partOf 12 = .ok (.iload_n 1, 1) := by decide +kernel
theorem dX8_partOf_13 : decode cX8_partOf 13 = .ok (.sipush 1024, 3) := by decide +kernel
theorem dX8_partOf_16 : decode cX8_partOf 16 = .ok (.if_icmp .ge 27, 3) := by decide +kernel
theorem dX8_partOf_19 : decode cX8_partOf 19 = .ok (.iload_n 2, 1) := by decide +kernel
theorem dX8_partOf_20 : decode cX8_partOf 20 = .ok (.ifCond .lt 23, 3) := by decide +kernel
theorem dX8_partOf_23 : decode cX8_partOf 23 = .ok (.iload_n 2, 1) := by decide +kernel
theorem dX8_partOf_24 : decode cX8_partOf 24 = .ok (.bipush 6, 2) := by decide +kernel
theorem dX8_partOf_26 : decode cX8_partOf 26 = .ok (.if_icmp .ge 17, 3) := by decide +kernel
theorem dX8_partOf_29 : decode cX8_partOf 29 = .ok (.aload_n 0, 1) := by decide +kernel
theorem dX8_partOf_30 : decode cX8_partOf 30 = .ok (.getfield 21, 3) := by decide +kernel
theorem dX8_partOf_33 : decode cX8_partOf 33 = .ok (.iload_n 1, 1) := by decide +kernel
theorem dX8_partOf_34 : decode cX8_partOf 34 = .ok (.bipush 6, 2) := by decide +kernel
theorem dX8_partOf_36 : decode cX8_partOf 36 = .ok (.imul, 1) := by decide +kernel
theorem dX8_partOf_37 : decode cX8_partOf 37 = .ok (.iload_n 2, 1) := by decide +kernel
theorem dX8_partOf_38 : decode cX8_partOf 38 = .ok (.iadd, 1) := by decide +kernel
theorem dX8_partOf_39 : decode cX8_partOf 39 = .ok (.iaload, 1) := by decide +kernel
theorem dX8_partOf_40 : decode cX8_partOf 40 = .ok (.goto 4, 3) := by decide +kernel
theorem dX8_partOf_43 : decode cX8_partOf 43 = .ok (.iconst (-1), 1) := by decide +kernel
theorem dX8_partOf_44 : decode cX8_partOf 44 = .ok (.ireturn, 1) := by decide +kernel
theorem dX8_kindAt_0 : decode cX8_kindAt 0 = .ok (.aload_n 0, 1) := by decide +kernel
theorem dX8_kindAt_1 : decode cX8_kindAt 1 = .ok (.iload_n 1, 1) := by decide +kernel
theorem dX8_kindAt_2 : decode cX8_kindAt 2 = .ok (.invokevirtual 70, 3) := by decide +kernel
theorem dX8_kindAt_5 : decode cX8_kindAt 5 = .ok (.istore_n 2, 1) := by decide +kernel
theorem dX8_kindAt_6 : decode cX8_kindAt 6 = .ok (.iload_n 2, 1) := by decide +kernel
theorem dX8_kindAt_7 : decode cX8_kindAt 7 = .ok (.bipush 8, 2) := by decide +kernel
theorem dX8_kindAt_9 : decode cX8_kindAt 9 = .ok (.if_icmp .ge 7, 3) := by decide +kernel
theorem dX8_kindAt_12 : decode cX8_kindAt 12 = .ok (.iconst 0, 1) := by decide +kernel
theorem dX8_kindAt_13 : decode cX8_kindAt 13 = .ok (.goto 14, 3) := by decide +kernel
theorem dX8_kindAt_16 : decode cX8_kindAt 16 = .ok (.aload_n 0, 1) := by decide +kernel
theorem dX8_kindAt_17 : decode cX8_kindAt 17 = .ok (.getfield 46, 3) := by decide +kernel
theorem dX8_kindAt_20 : decode cX8_kindAt 20 = .ok (.iload_n 2, 1) := by decide +kernel
theorem dX8_kindAt_21 : decode cX8_kindAt 21 = .ok (.invokestatic 74, 3) := by decide +kernel
theorem dX8_kindAt_24 : decode cX8_kindAt 24 = .ok (.invokevirtual 77, 3) := by decide +kernel
theorem dX8_kindAt_27 : decode cX8_kindAt 27 = .ok (.ireturn, 1) := by decide +kernel
theorem dX8_hasUnit_0 : decode cX8_hasUnit 0 = .ok (.aload_n 0, 1) := by decide +kernel
theorem dX8_hasUnit_1 : decode cX8_hasUnit 1 = .ok (.getfield 46, 3) := by decide +kernel
theorem dX8_hasUnit_4 : decode cX8_hasUnit 4 = .ok (.iload_n 1, 1) := by decide +kernel
theorem dX8_hasUnit_5 : decode cX8_hasUnit 5 = .ok (.invokevirtual 82, 3) := by decide +kernel
theorem dX8_hasUnit_8 : decode cX8_hasUnit 8 = .ok (.ifCond .lt 7, 3) := by decide +kernel
theorem dX8_hasUnit_11 : decode cX8_hasUnit 11 = .ok (.iconst 1, 1) := by decide +kernel
theorem dX8_hasUnit_12 : decode cX8_hasUnit 12 = .ok (.goto 4, 3) := by decide +kernel
theorem dX8_hasUnit_15 : decode cX8_hasUnit 15 = .ok (.iconst 0, 1) := by decide +kernel
theorem dX8_hasUnit_16 : decode cX8_hasUnit 16 = .ok (.ireturn, 1) := by decide +kernel
theorem dX8_partsAsSum_0 : decode cX8_partsAsSum 0 = .ok (.aload_n 0, 1) := by decide +kernel
theorem dX8_partsAsSum_1 : decode cX8_partsAsSum 1 = .ok (.iload_n 1, 1) := by decide +kernel
theorem dX8_partsAsSum_2 : decode cX8_partsAsSum 2 = .ok (.invokevirtual 70, 3) := by decide +kernel
theorem dX8_partsAsSum_5 : decode cX8_partsAsSum 5 = .ok (.istore_n 3, 1) := by decide +kernel
theorem dX8_partsAsSum_6 : decode cX8_partsAsSum 6 = .ok (.iload_n 3, 1) := by decide +kernel
theorem dX8_partsAsSum_7 : decode cX8_partsAsSum 7 = .ok (.invokestatic 74, 3) := by decide +kernel
theorem dX8_partsAsSum_10 : decode cX8_partsAsSum 10 = .ok (.iload_n 2, 1) := by decide +kernel
theorem dX8_partsAsSum_11 : decode cX8_partsAsSum 11 = .ok (.if_icmp .ne 8, 3) := by decide +kernel
theorem dX8_partsAsSum_14 : decode cX8_partsAsSum 14 = .ok (.iload_n 3, 1) := by decide +kernel
theorem dX8_partsAsSum_15 : decode cX8_partsAsSum 15 = .ok (.invokestatic 85, 3) := by decide +kernel
theorem dX8_partsAsSum_18 : decode cX8_partsAsSum 18 = .ok (.ireturn, 1) := by decide +kernel
theorem dX8_partsAsSum_19 : decode cX8_partsAsSum 19 = .ok (.iload_n 3, 1) := by decide +kernel
theorem dX8_partsAsSum_20 : decode cX8_partsAsSum 20 = .ok (.aload_n 0, 1) := by decide +kernel
theorem dX8_partsAsSum_21 : decode cX8_partsAsSum 21 = .ok (.getfield 46, 3) := by decide +kernel
theorem dX8_partsAsSum_24 : decode cX8_partsAsSum 24 = .ok (.iload_n 2, 1) := by decide +kernel
theorem dX8_partsAsSum_25 : decode cX8_partsAsSum 25 = .ok (.invokevirtual 88, 3) := by decide +kernel
theorem dX8_partsAsSum_28 : decode cX8_partsAsSum 28 = .ok (.if_icmp .ne 7, 3) := by decide +kernel
theorem dX8_partsAsSum_31 : decode cX8_partsAsSum 31 = .ok (.iconst 0, 1) := by decide +kernel
theorem dX8_partsAsSum_32 : decode cX8_partsAsSum 32 = .ok (.goto 4, 3) := by decide +kernel
theorem dX8_partsAsSum_35 : decode cX8_partsAsSum 35 = .ok (.iconst 1, 1) := by decide +kernel
theorem dX8_partsAsSum_36 : decode cX8_partsAsSum 36 = .ok (.ireturn, 1) := by decide +kernel
theorem dX8_partAsSum_0 : decode cX8_partAsSum 0 = .ok (.iload_n 1, 1) := by decide +kernel
theorem dX8_partAsSum_1 : decode cX8_partAsSum 1 = .ok (.ifCond .lt 28, 3) := by decide +kernel
theorem dX8_partAsSum_4 : decode cX8_partAsSum 4 = .ok (.iload_n 1, 1) := by decide +kernel
theorem dX8_partAsSum_5 : decode cX8_partAsSum 5 = .ok (.aload_n 0, 1) := by decide +kernel
theorem dX8_partAsSum_6 : decode cX8_partAsSum 6 = .ok (.getfield 58, 3) := by decide +kernel
theorem dX8_partAsSum_9 : decode cX8_partAsSum 9 = .ok (.if_icmp .ge 20, 3) := by decide +kernel
theorem dX8_partAsSum_12 : decode cX8_partAsSum 12 = .ok (.iload_n 1, 1) := by decide +kernel
theorem dX8_partAsSum_13 : decode cX8_partAsSum 13 = .ok (.sipush 1024, 3) := by decide +kernel
theorem dX8_partAsSum_16 : decode cX8_partAsSum 16 = .ok (.if_icmp .ge 13, 3) := by decide +kernel
theorem dX8_partAsSum_19 : decode cX8_partAsSum 19 = .ok (.iload_n 3, 1) := by decide +kernel
theorem dX8_partAsSum_20 : decode cX8_partAsSum 20 = .ok (.ifCond .lt 9, 3) := by decide +kernel
theorem dX8_partAsSum_23 : decode cX8_partAsSum 23 = .ok (.iload_n 3, 1) := by decide +kernel
theorem dX8_partAsSum_24 : decode cX8_partAsSum 24 = .ok (.bipush 6, 2) := by decide +kernel
theorem dX8_partAsSum_26 : decode cX8_partAsSum 26 = .ok (.if_icmp .lt 5, 3) := by decide +kernel
theorem dX8_partAsSum_29 : decode cX8_partAsSum 29 = .ok (.iconst (-1), 1) := by decide +kernel
theorem dX8_partAsSum_30 : decode cX8_partAsSum 30 = .ok (.ireturn, 1) := by decide +kernel
theorem dX8_partAsSum_31 : decode cX8_partAsSum 31 = .ok (.aload_n 0, 1) := by decide +kernel
theorem dX8_partAsSum_32 : decode cX8_partAsSum 32 = .ok (.getfield 11, 3) := by decide +kernel
theorem dX8_partAsSum_35 : decode cX8_partAsSum 35 = .ok (.iload_n 1, 1) := by decide +kernel
theorem dX8_partAsSum_36 : decode cX8_partAsSum 36 = .ok (.iaload, 1) := by decide +kernel
theorem dX8_partAsSum_37 : decode cX8_partAsSum 37 = .ok (.iconst 3, 1) := by decide +kernel
theorem dX8_partAsSum_38 : decode cX8_partAsSum 38 = .ok (.ishr, 1) := by decide +kernel
theorem dX8_partAsSum_39 : decode cX8_partAsSum 39 = .ok (.iload_n 2, 1) := by decide +kernel
theorem dX8_partAsSum_40 : decode cX8_partAsSum 40 = .ok (.iconst 1, 1) := by decide +kernel
theorem dX8_partAsSum_41 : decode cX8_partAsSum 41 = .ok (.iadd, 1) := by decide +kernel
theorem dX8_partAsSum_42 : decode cX8_partAsSum 42 = .ok (.if_icmp .ne 17, 3) := by decide +kernel
theorem dX8_partAsSum_45 : decode cX8_partAsSum 45 = .ok (.aload_n 0, 1) := by decide +kernel
theorem dX8_partAsSum_46 : decode cX8_partAsSum 46 = .ok (.getfield 21, 3) := by decide +kernel
theorem dX8_partAsSum_49 : decode cX8_partAsSum 49 = .ok (.iload_n 1, 1) := by decide +kernel
theorem dX8_partAsSum_50 : decode cX8_partAsSum 50 = .ok (.bipush 6, 2) := by decide +kernel
theorem dX8_partAsSum_52 : decode cX8_partAsSum 52 = .ok (.imul, 1) := by decide +kernel
theorem dX8_partAsSum_53 : decode cX8_partAsSum 53 = .ok (.iload_n 3, 1) := by decide +kernel
theorem dX8_partAsSum_54 : decode cX8_partAsSum 54 = .ok (.iadd, 1) := by decide +kernel
theorem dX8_partAsSum_55 : decode cX8_partAsSum 55 = .ok (.iaload, 1) := by decide +kernel
theorem dX8_partAsSum_56 : decode cX8_partAsSum 56 = .ok (.goto 4, 3) := by decide +kernel
theorem dX8_partAsSum_59 : decode cX8_partAsSum 59 = .ok (.iload_n 1, 1) := by decide +kernel
theorem dX8_partAsSum_60 : decode cX8_partAsSum 60 = .ok (.ireturn, 1) := by decide +kernel
theorem dX8_sortOf_0 : decode cX8_sortOf 0 = .ok (.iload_n 1, 1) := by decide +kernel
theorem dX8_sortOf_1 : decode cX8_sortOf 1 = .ok (.ifCond .lt 31, 3) := by decide +kernel
theorem dX8_sortOf_4 : decode cX8_sortOf 4 = .ok (.iload_n 1, 1) := by decide +kernel
theorem dX8_sortOf_5 : decode cX8_sortOf 5 = .ok (.aload_n 0, 1) := by decide +kernel
theorem dX8_sortOf_6 : decode cX8_sortOf 6 = .ok (.getfield 58, 3) := by decide +kernel
theorem dX8_sortOf_9 : decode cX8_sortOf 9 = .ok (.if_icmp .ge 23, 3) := by decide +kernel
theorem dX8_sortOf_12 : decode cX8_sortOf 12 = .ok (.iload_n 1, 1) := by decide +kernel
theorem dX8_sortOf_13 : decode cX8_sortOf 13 = .ok (.sipush 1024, 3) := by decide +kernel
theorem dX8_sortOf_16 : decode cX8_sortOf 16 = .ok (.if_icmp .ge 16, 3) := by decide +kernel
theorem dX8_sortOf_19 : decode cX8_sortOf 19 = .ok (.aload_n 0, 1) := by decide +kernel
theorem dX8_sortOf_20 : decode cX8_sortOf 20 = .ok (.getfield 11, 3) := by decide +kernel
theorem dX8_sortOf_23 : decode cX8_sortOf 23 = .ok (.iload_n 1, 1) := by decide +kernel
theorem dX8_sortOf_24 : decode cX8_sortOf 24 = .ok (.iaload, 1) := by decide +kernel
theorem dX8_sortOf_25 : decode cX8_sortOf 25 = .ok (.iconst 3, 1) := by decide +kernel
theorem dX8_sortOf_26 : decode cX8_sortOf 26 = .ok (.ishr, 1) := by decide +kernel
theorem dX8_sortOf_27 : decode cX8_sortOf 27 = .ok (.iconst 1, 1) := by decide +kernel
theorem dX8_sortOf_28 : decode cX8_sortOf 28 = .ok (.isub, 1) := by decide +kernel
theorem dX8_sortOf_29 : decode cX8_sortOf 29 = .ok (.goto 4, 3) := by decide +kernel
theorem dX8_sortOf_32 : decode cX8_sortOf 32 = .ok (.iconst (-1), 1) := by decide +kernel
theorem dX8_sortOf_33 : decode cX8_sortOf 33 = .ok (.istore_n 2, 1) := by decide +kernel
theorem dX8_sortOf_34 : decode cX8_sortOf 34 = .ok (.iload_n 2, 1) := by decide +kernel
theorem dX8_sortOf_35 : decode cX8_sortOf 35 = .ok (.ifCond .lt 9, 3) := by decide +kernel
theorem dX8_sortOf_38 : decode cX8_sortOf 38 = .ok (.iload_n 2, 1) := by decide +kernel
theorem dX8_sortOf_39 : decode cX8_sortOf 39 = .ok (.bipush 10, 2) := by decide +kernel
theorem dX8_sortOf_41 : decode cX8_sortOf 41 = .ok (.if_icmp .lt 5, 3) := by decide +kernel
theorem dX8_sortOf_44 : decode cX8_sortOf 44 = .ok (.iconst 0, 1) := by decide +kernel
theorem dX8_sortOf_45 : decode cX8_sortOf 45 = .ok (.ireturn, 1) := by decide +kernel
theorem dX8_sortOf_46 : decode cX8_sortOf 46 = .ok (.aload_n 0, 1) := by decide +kernel
theorem dX8_sortOf_47 : decode cX8_sortOf 47 = .ok (.getfield 46, 3) := by decide +kernel
theorem dX8_sortOf_50 : decode cX8_sortOf 50 = .ok (.getfield 91, 3) := by decide +kernel
theorem dX8_sortOf_53 : decode cX8_sortOf 53 = .ok (.iload_n 2, 1) := by decide +kernel
theorem dX8_sortOf_54 : decode cX8_sortOf 54 = .ok (.iaload, 1) := by decide +kernel
theorem dX8_sortOf_55 : decode cX8_sortOf 55 = .ok (.iconst 2, 1) := by decide +kernel
theorem dX8_sortOf_56 : decode cX8_sortOf 56 = .ok (.if_icmp .ne 19, 3) := by decide +kernel
theorem dX8_sortOf_59 : decode cX8_sortOf 59 = .ok (.aload_n 0, 1) := by decide +kernel
theorem dX8_sortOf_60 : decode cX8_sortOf 60 = .ok (.getfield 46, 3) := by decide +kernel
theorem dX8_sortOf_63 : decode cX8_sortOf 63 = .ok (.getfield 93, 3) := by decide +kernel
theorem dX8_sortOf_66 : decode cX8_sortOf 66 = .ok (.iload_n 2, 1) := by decide +kernel
theorem dX8_sortOf_67 : decode cX8_sortOf 67 = .ok (.iaload, 1) := by decide +kernel
theorem dX8_sortOf_68 : decode cX8_sortOf 68 = .ok (.ifCond .lt 7, 3) := by decide +kernel
theorem dX8_sortOf_71 : decode cX8_sortOf 71 = .ok (.iconst 1, 1) := by decide +kernel
theorem dX8_sortOf_72 : decode cX8_sortOf 72 = .ok (.goto 4, 3) := by decide +kernel
theorem dX8_sortOf_75 : decode cX8_sortOf 75 = .ok (.iconst 2, 1) := by decide +kernel
theorem dX8_sortOf_76 : decode cX8_sortOf 76 = .ok (.ireturn, 1) := by decide +kernel
theorem dX8_subSum_0 : decode cX8_subSum 0 = .ok (.iconst 0, 1) := by decide +kernel
theorem dX8_subSum_1 : decode cX8_subSum 1 = .ok (.istore 4, 2) := by decide +kernel
theorem dX8_subSum_3 : decode cX8_subSum 3 = .ok (.iconst 0, 1) := by decide +kernel
theorem dX8_subSum_4 : decode cX8_subSum 4 = .ok (.istore 5, 2) := by decide +kernel
theorem dX8_subSum_6 : decode cX8_subSum 6 = .ok (.iload 5, 2) := by decide +kernel
theorem dX8_subSum_8 : decode cX8_subSum 8 = .ok (.bipush 6, 2) := by decide +kernel
theorem dX8_subSum_10 : decode cX8_subSum 10 = .ok (.if_icmp .ge 43, 3) := by decide +kernel
theorem dX8_subSum_13 : decode cX8_subSum 13 = .ok (.iload_n 3, 1) := by decide +kernel
theorem dX8_subSum_14 : decode cX8_subSum 14 = .ok (.iload 5, 2) := by decide +kernel
theorem dX8_subSum_16 : decode cX8_subSum 16 = .ok (.ishr, 1) := by decide +kernel
theorem dX8_subSum_17 : decode cX8_subSum 17 = .ok (.iconst 1, 1) := by decide +kernel
theorem dX8_subSum_18 : decode cX8_subSum 18 = .ok (.iand, 1) := by decide +kernel
theorem dX8_subSum_19 : decode cX8_subSum 19 = .ok (.ifCond .eq 28, 3) := by decide +kernel
theorem dX8_subSum_22 : decode cX8_subSum 22 = .ok (.iload 4, 2) := by decide +kernel
theorem dX8_subSum_24 : decode cX8_subSum 24 = .ok (.bipush 6, 2) := by decide +kernel
theorem dX8_subSum_26 : decode cX8_subSum 26 = .ok (.if_icmp .ge 21, 3) := by decide +kernel
theorem dX8_subSum_29 : decode cX8_subSum 29 = .ok (.aload_n 0, 1) := by decide +kernel
theorem dX8_subSum_30 : decode cX8_subSum 30 = .ok (.getfield 40, 3) := by decide +kernel
theorem dX8_subSum_33 : decode cX8_subSum 33 = .ok (.iload 4, 2) := by decide +kernel
theorem dX8_subSum_35 : decode cX8_subSum 35 = .ok (.aload_n 0, 1) := by decide +kernel
theorem dX8_subSum_36 : decode cX8_subSum 36 = .ok (.iload_n 1, 1) := by decide +kernel
theorem dX8_subSum_37 : decode cX8_subSum 37 = .ok (.iload_n 2, 1) := by decide +kernel
theorem dX8_subSum_38 : decode cX8_subSum 38 = .ok (.iload 5, 2) := by decide +kernel
theorem dX8_subSum_40 : decode cX8_subSum 40 = .ok (.invokevirtual 96, 3) := by decide +kernel
theorem dX8_subSum_43 : decode cX8_subSum 43 = .ok (.iastore, 1) := by decide +kernel
theorem dX8_subSum_44 : decode cX8_subSum 44 = .ok (.iinc 4 1, 3) := by decide +kernel
theorem dX8_subSum_47 : decode cX8_subSum 47 = .ok (.iinc 5 1, 3) := by decide +kernel
theorem dX8_subSum_50 : decode cX8_subSum 50 = .ok (.goto (-44), 3) := by decide +kernel
theorem dX8_subSum_53 : decode cX8_subSum 53 = .ok (.iload 4, 2) := by decide +kernel
theorem dX8_subSum_55 : decode cX8_subSum 55 = .ok (.iconst 1, 1) := by decide +kernel
theorem dX8_subSum_56 : decode cX8_subSum 56 = .ok (.if_icmp .ne 10, 3) := by decide +kernel
theorem dX8_subSum_59 : decode cX8_subSum 59 = .ok (.aload_n 0, 1) := by decide +kernel
theorem dX8_subSum_60 : decode cX8_subSum 60 = .ok (.getfield 40, 3) := by decide +kernel
theorem dX8_subSum_63 : decode cX8_subSum 63 = .ok (.iconst 0, 1) := by decide +kernel
theorem dX8_subSum_64 : decode cX8_subSum 64 = .ok (.iaload, 1) := by decide +kernel
theorem dX8_subSum_65 : decode cX8_subSum 65 = .ok (.ireturn, 1) := by decide +kernel
theorem dX8_subSum_66 : decode cX8_subSum 66 = .ok (.iload 4, 2) := by decide +kernel
theorem dX8_subSum_68 : decode cX8_subSum 68 = .ok (.ifCond .ne 30, 3) := by decide +kernel
theorem dX8_subSum_71 : decode cX8_subSum 71 = .ok (.aload_n 0, 1) := by decide +kernel
theorem dX8_subSum_72 : decode cX8_subSum 72 = .ok (.getfield 46, 3) := by decide +kernel
theorem dX8_subSum_75 : decode cX8_subSum 75 = .ok (.iload_n 2, 1) := by decide +kernel
theorem dX8_subSum_76 : decode cX8_subSum 76 = .ok (.invokevirtual 88, 3) := by decide +kernel
theorem dX8_subSum_79 : decode cX8_subSum 79 = .ok (.istore 5, 2) := by decide +kernel
theorem dX8_subSum_81 : decode cX8_subSum 81 = .ok (.iload 5, 2) := by decide +kernel
theorem dX8_subSum_83 : decode cX8_subSum 83 = .ok (.ifCond .ge 7, 3) := by decide +kernel
theorem dX8_subSum_86 : decode cX8_subSum 86 = .ok (.iconst (-1), 1) := by decide +kernel
theorem dX8_subSum_87 : decode cX8_subSum 87 = .ok (.goto 10, 3) := by decide +kernel
theorem dX8_subSum_90 : decode cX8_subSum 90 = .ok (.aload_n 0, 1) := by decide +kernel
theorem dX8_subSum_91 : decode cX8_subSum 91 = .ok (.iload 5, 2) := by decide +kernel
theorem dX8_subSum_93 : decode cX8_subSum 93 = .ok (.iconst 0, 1) := by decide +kernel
theorem dX8_subSum_94 : decode cX8_subSum 94 = .ok (.invokevirtual 100, 3) := by decide +kernel
theorem dX8_subSum_97 : decode cX8_subSum 97 = .ok (.ireturn, 1) := by decide +kernel
theorem dX8_subSum_98 : decode cX8_subSum 98 = .ok (.aload_n 0, 1) := by decide +kernel
theorem dX8_subSum_99 : decode cX8_subSum 99 = .ok (.iload_n 2, 1) := by decide +kernel
theorem dX8_subSum_100 : decode cX8_subSum 100 = .ok (.iload 4, 2) := by decide +kernel
theorem dX8_subSum_102 : decode cX8_subSum 102 = .ok (.invokestatic 103, 3) := by decide +kernel
theorem dX8_subSum_105 : decode cX8_subSum 105 = .ok (.iload 4, 2) := by decide +kernel
theorem dX8_subSum_107 : decode cX8_subSum 107 = .ok (.invokevirtual 100, 3) := by decide +kernel
theorem dX8_subSum_110 : decode cX8_subSum 110 = .ok (.ireturn, 1) := by decide +kernel
theorem dX8_isFirstChoice_0 : decode cX8_isFirstChoice 0 = .ok (.iconst 1, 1) := by decide +kernel
theorem dX8_isFirstChoice_1 : decode cX8_isFirstChoice 1 = .ok (.istore 4, 2) := by decide +kernel
theorem dX8_isFirstChoice_3 : decode cX8_isFirstChoice 3 = .ok (.iload 4, 2) := by decide +kernel
theorem dX8_isFirstChoice_5 : decode cX8_isFirstChoice 5 = .ok (.bipush 6, 2) := by decide +kernel
theorem dX8_isFirstChoice_7 : decode cX8_isFirstChoice 7 = .ok (.if_icmp .ge 44, 3) := by decide +kernel
theorem dX8_isFirstChoice_10 : decode cX8_isFirstChoice 10 = .ok (.iload_n 3, 1) := by decide +kernel
theorem dX8_isFirstChoice_11 : decode cX8_isFirstChoice 11 = .ok (.iload 4, 2) := by decide +kernel
theorem dX8_isFirstChoice_13 : decode cX8_isFirstChoice 13 = .ok (.iconst 1, 1) := by decide +kernel
theorem dX8_isFirstChoice_14 : decode cX8_isFirstChoice 14 = .ok (.isub, 1) := by decide +kernel
theorem dX8_isFirstChoice_15 : decode cX8_isFirstChoice 15 = .ok (.ishr, 1) := by decide +kernel
theorem dX8_isFirstChoice_16 : decode cX8_isFirstChoice 16 = .ok (.iconst 3, 1) := by decide +kernel
theorem dX8_isFirstChoice_17 : decode cX8_isFirstChoice 17 = .ok (.iand, 1) := by decide +kernel
theorem dX8_isFirstChoice_18 : decode cX8_isFirstChoice 18 = .ok (.iconst 2, 1) := by decide +kernel
theorem dX8_isFirstChoice_19 : decode cX8_isFirstChoice 19 = .ok (.if_icmp .ne 26, 3) := by decide +kernel
theorem dX8_isFirstChoice_22 : decode cX8_isFirstChoice 22 = .ok (.aload_n 0, 1) := by decide +kernel
theorem dX8_isFirstChoice_23 : decode cX8_isFirstChoice 23 = .ok (.iload_n 1, 1) := by decide +kernel
theorem dX8_isFirstChoice_24 : decode cX8_isFirstChoice 24 = .ok (.iload_n 2, 1) := by decide +kernel
theorem dX8_isFirstChoice_25 : decode cX8_isFirstChoice 25 = .ok (.iload 4, 2) := by decide +kernel
theorem dX8_isFirstChoice_27 : decode cX8_isFirstChoice 27 = .ok (.invokevirtual 96, 3) := by decide +kernel
theorem dX8_isFirstChoice_30 : decode cX8_isFirstChoice 30 = .ok (.aload_n 0, 1) := by decide +kernel
theorem dX8_isFirstChoice_31 : decode cX8_isFirstChoice 31 = .ok (.iload_n 1, 1) := by decide +kernel
theorem dX8_isFirstChoice_32 : decode cX8_isFirstChoice 32 = .ok (.iload_n 2, 1) := by decide +kernel
theorem dX8_isFirstChoice_33 : decode cX8_isFirstChoice 33 = .ok (.iload 4, 2) := by decide +kernel
theorem dX8_isFirstChoice_35 : decode cX8_isFirstChoice 35 = .ok (.iconst 1, 1) := by decide +kernel
theorem dX8_isFirstChoice_36 : decode cX8_isFirstChoice 36 = .ok (.isub, 1) := by decide +kernel
theorem dX8_isFirstChoice_37 : decode cX8_isFirstChoice 37 = .ok (.invokevirtual 96, 3) := by decide +kernel
theorem dX8_isFirstChoice_40 : decode cX8_isFirstChoice 40 = .ok (.if_icmp .ne 5, 3) := by decide +kernel
theorem dX8_isFirstChoice_43 : decode cX8_isFirstChoice 43 = .ok (.iconst 0, 1) := by decide +kernel
theorem dX8_isFirstChoice_44 : decode cX8_isFirstChoice 44 = .ok (.ireturn, 1) := by decide +kernel
theorem dX8_isFirstChoice_45 : decode cX8_isFirstChoice 45 = .ok (.iinc 4 1, 3) := by decide +kernel
theorem dX8_isFirstChoice_48 : decode cX8_isFirstChoice 48 = .ok (.goto (-45), 3) := by decide +kernel
theorem dX8_isFirstChoice_51 : decode cX8_isFirstChoice 51 = .ok (.iconst 1, 1) := by decide +kernel
theorem dX8_isFirstChoice_52 : decode cX8_isFirstChoice 52 = .ok (.ireturn, 1) := by decide +kernel
theorem dX8_without_0 : decode cX8_without 0 = .ok (.iload_n 3, 1) := by decide +kernel
theorem dX8_without_1 : decode cX8_without 1 = .ok (.istore 5, 2) := by decide +kernel
theorem dX8_without_3 : decode cX8_without 3 = .ok (.aload_n 0, 1) := by decide +kernel
theorem dX8_without_4 : decode cX8_without 4 = .ok (.iload 4, 2) := by decide +kernel
theorem dX8_without_6 : decode cX8_without 6 = .ok (.iload_n 2, 1) := by decide +kernel
theorem dX8_without_7 : decode cX8_without 7 = .ok (.invokevirtual 106, 3) := by decide +kernel
theorem dX8_without_10 : decode cX8_without 10 = .ok (.istore 6, 2) := by decide +kernel
theorem dX8_without_12 : decode cX8_without 12 = .ok (.iconst 0, 1) := by decide +kernel
theorem dX8_without_13 : decode cX8_without 13 = .ok (.istore 7, 2) := by decide +kernel
theorem dX8_without_15 : decode cX8_without 15 = .ok (.iload 7, 2) := by decide +kernel
theorem dX8_without_17 : decode cX8_without 17 = .ok (.iload 6, 2) := by decide +kernel
theorem dX8_without_19 : decode cX8_without 19 = .ok (.if_icmp .ge 79, 3) := by decide +kernel
theorem dX8_without_22 : decode cX8_without 22 = .ok (.aload_n 0, 1) := by decide +kernel
theorem dX8_without_23 : decode cX8_without 23 = .ok (.iload 4, 2) := by decide +kernel
theorem dX8_without_25 : decode cX8_without 25 = .ok (.iload_n 2, 1) := by decide +kernel
theorem dX8_without_26 : decode cX8_without 26 = .ok (.iload 7, 2) := by decide +kernel
theorem dX8_without_28 : decode cX8_without 28 = .ok (.invokevirtual 96, 3) := by decide +kernel
theorem dX8_without_31 : decode cX8_without 31 = .ok (.istore 8, 2) := by decide +kernel
theorem dX8_without_33 : decode cX8_without 33 = .ok (.iconst 0, 1) := by decide +kernel
theorem dX8_without_34 : decode cX8_without 34 = .ok (.istore 9, 2) := by decide +kernel
theorem dX8_without_36 : decode cX8_without 36 = .ok (.iload 9, 2) := by decide +kernel
theorem dX8_without_38 : decode cX8_without 38 = .ok (.bipush 6, 2) := by decide +kernel
theorem dX8_without_40 : decode cX8_without 40 = .ok (.if_icmp .ge 32, 3) := by decide +kernel
theorem dX8_without_43 : decode cX8_without 43 = .ok (.iload 5, 2) := by decide +kernel
theorem dX8_without_45 : decode cX8_without 45 = .ok (.iload 9, 2) := by decide +kernel
theorem dX8_without_47 : decode cX8_without 47 = .ok (.ishr, 1) := by decide +kernel
theorem dX8_without_48 : decode cX8_without 48 = .ok (.iconst 1, 1) := by decide +kernel
theorem dX8_without_49 : decode cX8_without 49 = .ok (.iand, 1) := by decide +kernel
theorem dX8_without_50 : decode cX8_without 50 = .ok (.ifCond .eq 16, 3) := by decide +kernel
theorem dX8_without_53 : decode cX8_without 53 = .ok (.aload_n 0, 1) := by decide +kernel
theorem dX8_without_54 : decode cX8_without 54 = .ok (.iload_n 1, 1) := by decide +kernel
theorem dX8_without_55 : decode cX8_without 55 = .ok (.iload_n 2, 1) := by decide +kernel
theorem dX8_without_56 : decode cX8_without 56 = .ok (.iload 9, 2) := by decide +kernel
theorem dX8_without_58 : decode cX8_without 58 = .ok (.invokevirtual 96, 3) := by decide +kernel
theorem dX8_without_61 : decode cX8_without 61 = .ok (.iload 8, 2) := by decide +kernel
theorem dX8_without_63 : decode cX8_without 63 = .ok (.if_icmp .eq 9, 3) := by decide +kernel
theorem dX8_without_66 : decode cX8_without 66 = .ok (.iinc 9 1, 3) := by decide +kernel
theorem dX8_without_69 : decode cX8_without 69 = .ok (.goto (-33), 3) := by decide +kernel
theorem dX8_without_72 : decode cX8_without 72 = .ok (.iload 9, 2) := by decide +kernel
theorem dX8_without_74 : decode cX8_without 74 = .ok (.bipush 6, 2) := by decide +kernel
theorem dX8_without_76 : decode cX8_without 76 = .ok (.if_icmp .lt 5, 3) := by decide +kernel
theorem dX8_without_79 : decode cX8_without 79 = .ok (.iconst (-1), 1) := by decide +kernel
theorem dX8_without_80 : decode cX8_without 80 = .ok (.ireturn, 1) := by decide +kernel
theorem dX8_without_81 : decode cX8_without 81 = .ok (.iload 5, 2) := by decide +kernel
theorem dX8_without_83 : decode cX8_without 83 = .ok (.iconst 1, 1) := by decide +kernel
theorem dX8_without_84 : decode cX8_without 84 = .ok (.iload 9, 2) := by decide +kernel
theorem dX8_without_86 : decode cX8_without 86 = .ok (.ishl, 1) := by decide +kernel
theorem dX8_without_87 : decode cX8_without 87 = .ok (.iconst (-1), 1) := by decide +kernel
theorem dX8_without_88 : decode cX8_without 88 = .ok (.ixor, 1) := by decide +kernel
theorem dX8_without_89 : decode cX8_without 89 = .ok (.iand, 1) := by decide +kernel
theorem dX8_without_90 : decode cX8_without 90 = .ok (.istore 5, 2) := by decide +kernel
theorem dX8_without_92 : decode cX8_without 92 = .ok (.iinc 7 1, 3) := by decide +kernel
theorem dX8_without_95 : decode cX8_without 95 = .ok (.goto (-80), 3) := by decide +kernel
theorem dX8_without_98 : decode cX8_without 98 = .ok (.iload 5, 2) := by decide +kernel
theorem dX8_without_100 : decode cX8_without 100 = .ok (.ireturn, 1) := by decide +kernel
theorem dX8_compare_0 : decode cX8_compare 0 = .ok (.iload_n 1, 1) := by decide +kernel
theorem dX8_compare_1 : decode cX8_compare 1 = .ok (.istore_n 3, 1) := by decide +kernel
theorem dX8_compare_2 : decode cX8_compare 2 = .ok (.iload_n 2, 1) := by decide +kernel
theorem dX8_compare_3 : decode cX8_compare 3 = .ok (.istore 4, 2) := by decide +kernel
theorem dX8_compare_5 : decode cX8_compare 5 = .ok (.iconst 0, 1) := by decide +kernel
theorem dX8_compare_6 : decode cX8_compare 6 = .ok (.istore 5, 2) := by decide +kernel
theorem dX8_compare_8 : decode cX8_compare 8 = .ok (.iload 5, 2) := by decide +kernel
theorem dX8_compare_10 : decode cX8_compare 10 = .ok (.bipush 20, 2) := by decide +kernel
theorem dX8_compare_12 : decode cX8_compare 12 = .ok (.if_icmp .gt 155, 3) := by decide +kernel
theorem dX8_compare_15 : decode cX8_compare 15 = .ok (.iload_n 3, 1) := by decide +kernel
theorem dX8_compare_16 : decode cX8_compare 16 = .ok (.iload 4, 2) := by decide +kernel
theorem dX8_compare_18 : decode cX8_compare 18 = .ok (.if_icmp .eq 149, 3) := by decide +kernel
theorem dX8_compare_21 : decode cX8_compare 21 = .ok (.iload_n 3, 1) := by decide +kernel
theorem dX8_compare_22 : decode cX8_compare 22 = .ok (.ifCond .lt 23, 3) := by decide +kernel
theorem dX8_compare_25 : decode cX8_compare 25 = .ok (.iload 4, 2) := by decide +kernel
theorem dX8_compare_27 : decode cX8_compare 27 = .ok (.ifCond .lt 18, 3) := by decide +kernel
theorem dX8_compare_30 : decode cX8_compare 30 = .ok (.iload_n 3, 1) := by decide +kernel
theorem dX8_compare_31 : decode cX8_compare 31 = .ok (.sipush 1024, 3) := by decide +kernel
theorem dX8_compare_34 : decode cX8_compare 34 = .ok (.if_icmp .ge 11, 3) := by decide +kernel
theorem dX8_compare_37 : decode cX8_compare 37 = .ok (.iload 4, 2) := by decide +kernel
