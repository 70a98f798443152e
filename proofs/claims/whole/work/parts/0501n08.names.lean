theorem dX0_worthOf_41 : decode cX0_worthOf 41 = .ok (.iload_n 1, 1) := by decide +kernel
theorem dX0_worthOf_42 : decode cX0_worthOf 42 = .ok (.invokevirtual 125, 3) := by decide +kernel
theorem dX0_worthOf_45 : decode cX0_worthOf 45 = .ok (.imul, 1) := by decide +kernel
theorem dX0_worthOf_46 : decode cX0_worthOf 46 = .ok (.lshr, 1) := by decide +kernel
theorem dX0_worthOf_47 : decode cX0_worthOf 47 = .ok (.l2i, 1) := by decide +kernel
theorem dX0_worthOf_48 : decode cX0_worthOf 48 = .ok (.bipush 31, 2) := by decide +kernel
theorem dX0_worthOf_50 : decode cX0_worthOf 50 = .ok (.iand, 1) := by decide +kernel
theorem dX0_worthOf_51 : decode cX0_worthOf 51 = .ok (.istore_n 3, 1) := by decide +kernel
theorem dX0_worthOf_52 : decode cX0_worthOf 52 = .ok (.iload_n 3, 1) := by decide +kernel
theorem dX0_worthOf_53 : decode cX0_worthOf 53 = .ok (.iconst 1, 1) := by decide +kernel
theorem dX0_worthOf_54 : decode cX0_worthOf 54 = .ok (.if_icmp .le 9, 3) := by decide +kernel
theorem dX0_worthOf_57 : decode cX0_worthOf 57 = .ok (.iload_n 3, 1) := by decide +kernel
theorem dX0_worthOf_58 : decode cX0_worthOf 58 = .ok (.iconst 1, 1) := by decide +kernel
theorem dX0_worthOf_59 : decode cX0_worthOf 59 = .ok (.iadd, 1) := by decide +kernel
theorem dX0_worthOf_60 : decode cX0_worthOf 60 = .ok (.goto 4, 3) := by decide +kernel
theorem dX0_worthOf_63 : decode cX0_worthOf 63 = .ok (.iconst 1, 1) := by decide +kernel
theorem dX0_worthOf_64 : decode cX0_worthOf 64 = .ok (.ireturn, 1) := by decide +kernel
theorem dX0_addBranch_0 : decode cX0_addBranch 0 = .ok (.aload_n 0, 1) := by decide +kernel
theorem dX0_addBranch_1 : decode cX0_addBranch 1 = .ok (.getfield 64, 3) := by decide +kernel
theorem dX0_addBranch_4 : decode cX0_addBranch 4 = .ok (.ifCond .lt 12, 3) := by decide +kernel
theorem dX0_addBranch_7 : decode cX0_addBranch 7 = .ok (.aload_n 0, 1) := by decide +kernel
theorem dX0_addBranch_8 : decode cX0_addBranch 8 = .ok (.getfield 64, 3) := by decide +kernel
theorem dX0_addBranch_11 : decode cX0_addBranch 11 = .ok (.bipush 64, 2) := by decide +kernel
theorem dX0_addBranch_13 : decode cX0_addBranch 13 = .ok (.if_icmp .lt 11, 3) := by decide +kernel
theorem dX0_addBranch_16 : decode cX0_addBranch 16 = .ok (.aload_n 0, 1) := by decide +kernel
theorem dX0_addBranch_17 : decode cX0_addBranch 17 = .ok (.sipush 301, 3) := by decide +kernel
theorem dX0_addBranch_20 : decode cX0_addBranch 20 = .ok (.putfield 57, 3) := by decide +kernel
theorem dX0_addBranch_23 : decode cX0_addBranch 23 = .ok (.return_, 1) := by decide +kernel
theorem dX0_addBranch_24 : decode cX0_addBranch 24 = .ok (.aload_n 0, 1) := by decide +kernel
theorem dX0_addBranch_25 : decode cX0_addBranch 25 = .ok (.getfield 29, 3) := by decide +kernel
theorem dX0_addBranch_28 : decode cX0_addBranch 28 = .ok (.aload_n 0, 1) := by decide +kernel
theorem dX0_addBranch_29 : decode cX0_addBranch 29 = .ok (.getfield 64, 3) := by decide +kernel
theorem dX0_addBranch_32 : decode cX0_addBranch 32 = .ok (.iload_n 1, 1) := by decide +kernel
theorem dX0_addBranch_33 : decode cX0_addBranch 33 = .ok (.iastore, 1) := by decide +kernel
theorem dX0_addBranch_34 : decode cX0_addBranch 34 = .ok (.aload_n 0, 1) := by decide +kernel
theorem dX0_addBranch_35 : decode cX0_addBranch 35 = .ok (.getfield 32, 3) := by decide +kernel
theorem dX0_addBranch_38 : decode cX0_addBranch 38 = .ok (.aload_n 0, 1) := by decide +kernel
theorem dX0_addBranch_39 : decode cX0_addBranch 39 = .ok (.getfield 64, 3) := by decide +kernel
theorem dX0_addBranch_42 : decode cX0_addBranch 42 = .ok (.iload_n 2, 1) := by decide +kernel
theorem dX0_addBranch_43 : decode cX0_addBranch 43 = .ok (.iastore, 1) := by decide +kernel
theorem dX0_addBranch_44 : decode cX0_addBranch 44 = .ok (.aload_n 0, 1) := by decide +kernel
theorem dX0_addBranch_45 : decode cX0_addBranch 45 = .ok (.getfield 35, 3) := by decide +kernel
theorem dX0_addBranch_48 : decode cX0_addBranch 48 = .ok (.aload_n 0, 1) := by decide +kernel
theorem dX0_addBranch_49 : decode cX0_addBranch 49 = .ok (.getfield 64, 3) := by decide +kernel
theorem dX0_addBranch_52 : decode cX0_addBranch 52 = .ok (.iconst (-1), 1) := by decide +kernel
theorem dX0_addBranch_53 : decode cX0_addBranch 53 = .ok (.iastore, 1) := by decide +kernel
theorem dX0_addBranch_54 : decode cX0_addBranch 54 = .ok (.aload_n 0, 1) := by decide +kernel
theorem dX0_addBranch_55 : decode cX0_addBranch 55 = .ok (.getfield 38, 3) := by decide +kernel
theorem dX0_addBranch_58 : decode cX0_addBranch 58 = .ok (.aload_n 0, 1) := by decide +kernel
theorem dX0_addBranch_59 : decode cX0_addBranch 59 = .ok (.getfield 64, 3) := by decide +kernel
theorem dX0_addBranch_62 : decode cX0_addBranch 62 = .ok (.iload_n 3, 1) := by decide +kernel
theorem dX0_addBranch_63 : decode cX0_addBranch 63 = .ok (.iastore, 1) := by decide +kernel
theorem dX0_addBranch_64 : decode cX0_addBranch 64 = .ok (.aload_n 0, 1) := by decide +kernel
theorem dX0_addBranch_65 : decode cX0_addBranch 65 = .ok (.getfield 41, 3) := by decide +kernel
theorem dX0_addBranch_68 : decode cX0_addBranch 68 = .ok (.aload_n 0, 1) := by decide +kernel
theorem dX0_addBranch_69 : decode cX0_addBranch 69 = .ok (.getfield 64, 3) := by decide +kernel
theorem dX0_addBranch_72 : decode cX0_addBranch 72 = .ok (.aload_n 0, 1) := by decide +kernel
theorem dX0_addBranch_73 : decode cX0_addBranch 73 = .ok (.getfield 67, 3) := by decide +kernel
theorem dX0_addBranch_76 : decode cX0_addBranch 76 = .ok (.iastore, 1) := by decide +kernel
theorem dX0_addBranch_77 : decode cX0_addBranch 77 = .ok (.aload_n 0, 1) := by decide +kernel
theorem dX0_addBranch_78 : decode cX0_addBranch 78 = .ok (.getfield 44, 3) := by decide +kernel
theorem dX0_addBranch_81 : decode cX0_addBranch 81 = .ok (.aload_n 0, 1) := by decide +kernel
theorem dX0_addBranch_82 : decode cX0_addBranch 82 = .ok (.getfield 64, 3) := by decide +kernel
theorem dX0_addBranch_85 : decode cX0_addBranch 85 = .ok (.aload_n 0, 1) := by decide +kernel
theorem dX0_addBranch_86 : decode cX0_addBranch 86 = .ok (.getfield 61, 3) := by decide +kernel
theorem dX0_addBranch_89 : decode cX0_addBranch 89 = .ok (.iastore, 1) := by decide +kernel
theorem dX0_addBranch_90 : decode cX0_addBranch 90 = .ok (.aload_n 0, 1) := by decide +kernel
theorem dX0_addBranch_91 : decode cX0_addBranch 91 = .ok (.dup, 1) := by decide +kernel
theorem dX0_addBranch_92 : decode cX0_addBranch 92 = .ok (.getfield 64, 3) := by decide +kernel
theorem dX0_addBranch_95 : decode cX0_addBranch 95 = .ok (.iconst 1, 1) := by decide +kernel
theorem dX0_addBranch_96 : decode cX0_addBranch 96 = .ok (.iadd, 1) := by decide +kernel
theorem dX0_addBranch_97 : decode cX0_addBranch 97 = .ok (.putfield 64, 3) := by decide +kernel
theorem dX0_addBranch_100 : decode cX0_addBranch 100 = .ok (.return_, 1) := by decide +kernel
theorem dX0_hasWay_0 : decode cX0_hasWay 0 = .ok (.aload_n 0, 1) := by decide +kernel
theorem dX0_hasWay_1 : decode cX0_hasWay 1 = .ok (.getfield 64, 3) := by decide +kernel
theorem dX0_hasWay_4 : decode cX0_hasWay 4 = .ok (.iconst 1, 1) := by decide +kernel
theorem dX0_hasWay_5 : decode cX0_hasWay 5 = .ok (.isub, 1) := by decide +kernel
theorem dX0_hasWay_6 : decode cX0_hasWay 6 = .ok (.istore_n 1, 1) := by decide +kernel
theorem dX0_hasWay_7 : decode cX0_hasWay 7 = .ok (.iload_n 1, 1) := by decide +kernel
theorem dX0_hasWay_8 : decode cX0_hasWay 8 = .ok (.ifCond .lt 9, 3) := by decide +kernel
theorem dX0_hasWay_11 : decode cX0_hasWay 11 = .ok (.iload_n 1, 1) := by decide +kernel
theorem dX0_hasWay_12 : decode cX0_hasWay 12 = .ok (.bipush 64, 2) := by decide +kernel
theorem dX0_hasWay_14 : decode cX0_hasWay 14 = .ok (.if_icmp .lt 5, 3) := by decide +kernel
theorem dX0_hasWay_17 : decode cX0_hasWay 17 = .ok (.iconst 0, 1) := by decide +kernel
theorem dX0_hasWay_18 : decode cX0_hasWay 18 = .ok (.ireturn, 1) := by decide +kernel
theorem dX0_hasWay_19 : decode cX0_hasWay 19 = .ok (.aload_n 0, 1) := by decide +kernel
theorem dX0_hasWay_20 : decode cX0_hasWay 20 = .ok (.aload_n 0, 1) := by decide +kernel
theorem dX0_hasWay_21 : decode cX0_hasWay 21 = .ok (.getfield 41, 3) := by decide +kernel
theorem dX0_hasWay_24 : decode cX0_hasWay 24 = .ok (.iload_n 1, 1) := by decide +kernel
theorem dX0_hasWay_25 : decode cX0_hasWay 25 = .ok (.iaload, 1) := by decide +kernel
theorem dX0_hasWay_26 : decode cX0_hasWay 26 = .ok (.putfield 67, 3) := by decide +kernel
theorem dX0_hasWay_29 : decode cX0_hasWay 29 = .ok (.aload_n 0, 1) := by decide +kernel
theorem dX0_hasWay_30 : decode cX0_hasWay 30 = .ok (.aload_n 0, 1) := by decide +kernel
theorem dX0_hasWay_31 : decode cX0_hasWay 31 = .ok (.getfield 44, 3) := by decide +kernel
theorem dX0_hasWay_34 : decode cX0_hasWay 34 = .ok (.iload_n 1, 1) := by decide +kernel
theorem dX0_hasWay_35 : decode cX0_hasWay 35 = .ok (.iaload, 1) := by decide +kernel
theorem dX0_hasWay_36 : decode cX0_hasWay 36 = .ok (.putfield 61, 3) := by decide +kernel
theorem dX0_hasWay_39 : decode cX0_hasWay 39 = .ok (.aload_n 0, 1) := by decide +kernel
theorem dX0_hasWay_40 : decode cX0_hasWay 40 = .ok (.getfield 35, 3) := by decide +kernel
theorem dX0_hasWay_43 : decode cX0_hasWay 43 = .ok (.iload_n 1, 1) := by decide +kernel
theorem dX0_hasWay_44 : decode cX0_hasWay 44 = .ok (.dup2, 1) := by decide +kernel
theorem dX0_hasWay_45 : decode cX0_hasWay 45 = .ok (.iaload, 1) := by decide +kernel
theorem dX0_hasWay_46 : decode cX0_hasWay 46 = .ok (.iconst 1, 1) := by decide +kernel
theorem dX0_hasWay_47 : decode cX0_hasWay 47 = .ok (.iadd, 1) := by decide +kernel
theorem dX0_hasWay_48 : decode cX0_hasWay 48 = .ok (.iastore, 1) := by decide +kernel
theorem dX0_hasWay_49 : decode cX0_hasWay 49 = .ok (.aload_n 0, 1) := by decide +kernel
theorem dX0_hasWay_50 : decode cX0_hasWay 50 = .ok (.getfield 35, 3) := by decide +kernel
theorem dX0_hasWay_53 : decode cX0_hasWay 53 = .ok (.iload_n 1, 1) := by decide +kernel
theorem dX0_hasWay_54 : decode cX0_hasWay 54 = .ok (.iaload, 1) := by decide +kernel
theorem dX0_hasWay_55 : decode cX0_hasWay 55 = .ok (.aload_n 0, 1) := by decide +kernel
theorem dX0_hasWay_56 : decode cX0_hasWay 56 = .ok (.getfield 38, 3) := by decide +kernel
theorem dX0_hasWay_59 : decode cX0_hasWay 59 = .ok (.iload_n 1, 1) := by decide +kernel
theorem dX0_hasWay_60 : decode cX0_hasWay 60 = .ok (.iaload, 1) := by decide +kernel
theorem dX0_hasWay_61 : decode cX0_hasWay 61 = .ok (.if_icmp .ge 5, 3) := by decide +kernel
theorem dX0_hasWay_64 : decode cX0_hasWay 64 = .ok (.iconst 1, 1) := by decide +kernel
theorem dX0_hasWay_65 : decode cX0_hasWay 65 = .ok (.ireturn, 1) := by decide +kernel
theorem dX0_hasWay_66 : decode cX0_hasWay 66 = .ok (.aload_n 0, 1) := by decide +kernel
theorem dX0_hasWay_67 : decode cX0_hasWay 67 = .ok (.dup, 1) := by decide +kernel
theorem dX0_hasWay_68 : decode cX0_hasWay 68 = .ok (.getfield 64, 3) := by decide +kernel
theorem dX0_hasWay_71 : decode cX0_hasWay 71 = .ok (.iconst 1, 1) := by decide +kernel
theorem dX0_hasWay_72 : decode cX0_hasWay 72 = .ok (.isub, 1) := by decide +kernel
theorem dX0_hasWay_73 : decode cX0_hasWay 73 = .ok (.putfield 64, 3) := by decide +kernel
theorem dX0_hasWay_76 : decode cX0_hasWay 76 = .ok (.iconst 0, 1) := by decide +kernel
theorem dX0_hasWay_77 : decode cX0_hasWay 77 = .ok (.ireturn, 1) := by decide +kernel
theorem dX0_lastIsPair_0 : decode cX0_lastIsPair 0 = .ok (.aload_n 0, 1) := by decide +kernel
theorem dX0_lastIsPair_1 : decode cX0_lastIsPair 1 = .ok (.getfield 64, 3) := by decide +kernel
theorem dX0_lastIsPair_4 : decode cX0_lastIsPair 4 = .ok (.iconst 1, 1) := by decide +kernel
theorem dX0_lastIsPair_5 : decode cX0_lastIsPair 5 = .ok (.isub, 1) := by decide +kernel
theorem dX0_lastIsPair_6 : decode cX0_lastIsPair 6 = .ok (.istore_n 1, 1) := by decide +kernel
theorem dX0_lastIsPair_7 : decode cX0_lastIsPair 7 = .ok (.iload_n 1, 1) := by decide +kernel
theorem dX0_lastIsPair_8 : decode cX0_lastIsPair 8 = .ok (.ifCond .lt 18, 3) := by decide +kernel
theorem dX0_lastIsPair_11 : decode cX0_lastIsPair 11 = .ok (.iload_n 1, 1) := by decide +kernel
theorem dX0_lastIsPair_12 : decode cX0_lastIsPair 12 = .ok (.bipush 64, 2) := by decide +kernel
theorem dX0_lastIsPair_14 : decode cX0_lastIsPair 14 = .ok (.if_icmp .ge 12, 3) := by decide +kernel
theorem dX0_lastIsPair_17 : decode cX0_lastIsPair 17 = .ok (.aload_n 0, 1) := by decide +kernel
theorem dX0_lastIsPair_18 : decode cX0_lastIsPair 18 = .ok (.getfield 29, 3) := by decide +kernel
theorem dX0_lastIsPair_21 : decode cX0_lastIsPair 21 = .ok (.iload_n 1, 1) := by decide +kernel
theorem dX0_lastIsPair_22 : decode cX0_lastIsPair 22 = .ok (.iaload, 1) := by decide +kernel
theorem dX0_lastIsPair_23 : decode cX0_lastIsPair 23 = .ok (.goto 4, 3) := by decide +kernel
theorem dX0_lastIsPair_26 : decode cX0_lastIsPair 26 = .ok (.iconst (-1), 1) := by decide +kernel
theorem dX0_lastIsPair_27 : decode cX0_lastIsPair 27 = .ok (.istore_n 2, 1) := by decide +kernel
theorem dX0_lastIsPair_28 : decode cX0_lastIsPair 28 = .ok (.iload_n 2, 1) := by decide +kernel
theorem dX0_lastIsPair_29 : decode cX0_lastIsPair 29 = .ok (.ifCond .lt 31, 3) := by decide +kernel
theorem dX0_lastIsPair_32 : decode cX0_lastIsPair 32 = .ok (.iload_n 2, 1) := by decide +kernel
theorem dX0_lastIsPair_33 : decode cX0_lastIsPair 33 = .ok (.sipush 256, 3) := by decide +kernel
theorem dX0_lastIsPair_36 : decode cX0_lastIsPair 36 = .ok (.if_icmp .ge 24, 3) := by decide +kernel
theorem dX0_lastIsPair_39 : decode cX0_lastIsPair 39 = .ok (.aload_n 0, 1) := by decide +kernel
theorem dX0_lastIsPair_40 : decode cX0_lastIsPair 40 = .ok (.getfield 53, 3) := by decide +kernel
theorem dX0_lastIsPair_43 : decode cX0_lastIsPair 43 = .ok (.aload_n 0, 1) := by decide +kernel
theorem dX0_lastIsPair_44 : decode cX0_lastIsPair 44 = .ok (.getfield 13, 3) := by decide +kernel
theorem dX0_lastIsPair_47 : decode cX0_lastIsPair 47 = .ok (.iload_n 2, 1) := by decide +kernel
theorem dX0_lastIsPair_48 : decode cX0_lastIsPair 48 = .ok (.iaload, 1) := by decide +kernel
theorem dX0_lastIsPair_49 : decode cX0_lastIsPair 49 = .ok (.invokevirtual 85, 3) := by decide +kernel
theorem dX0_lastIsPair_52 : decode cX0_lastIsPair 52 = .ok (.iconst 1, 1) := by decide +kernel
theorem dX0_lastIsPair_53 : decode cX0_lastIsPair 53 = .ok (.if_icmp .ne 7, 3) := by decide +kernel
theorem dX0_lastIsPair_56 : decode cX0_lastIsPair 56 = .ok (.iconst 1, 1) := by decide +kernel
theorem dX0_lastIsPair_57 : decode cX0_lastIsPair 57 = .ok (.goto 4, 3) := by decide +kernel
theorem dX0_lastIsPair_60 : decode cX0_lastIsPair 60 = .ok (.iconst 0, 1) := by decide +kernel
theorem dX0_lastIsPair_61 : decode cX0_lastIsPair 61 = .ok (.ireturn, 1) := by decide +kernel
theorem dX0_meetPair_0 : decode cX0_meetPair 0 = .ok (.iload_n 1, 1) := by decide +kernel
theorem dX0_meetPair_1 : decode cX0_meetPair 1 = .ok (.ifCond .lt 18, 3) := by decide +kernel
theorem dX0_meetPair_4 : decode cX0_meetPair 4 = .ok (.iload_n 1, 1) := by decide +kernel
theorem dX0_meetPair_5 : decode cX0_meetPair 5 = .ok (.bipush 64, 2) := by decide +kernel
theorem dX0_meetPair_7 : decode cX0_meetPair 7 = .ok (.if_icmp .ge 12, 3) := by decide +kernel
theorem dX0_meetPair_10 : decode cX0_meetPair 10 = .ok (.aload_n 0, 1) := by decide +kernel
theorem dX0_meetPair_11 : decode cX0_meetPair 11 = .ok (.getfield 29, 3) := by decide +kernel
theorem dX0_meetPair_14 : decode cX0_meetPair 14 = .ok (.iload_n 1, 1) := by decide +kernel
theorem dX0_meetPair_15 : decode cX0_meetPair 15 = .ok (.iaload, 1) := by decide +kernel
theorem dX0_meetPair_16 : decode cX0_meetPair 16 = .ok (.goto 4, 3) := by decide +kernel
theorem dX0_meetPair_19 : decode cX0_meetPair 19 = .ok (.iconst (-1), 1) := by decide +kernel
theorem dX0_meetPair_20 : decode cX0_meetPair 20 = .ok (.istore_n 2, 1) := by decide +kernel
theorem dX0_meetPair_21 : decode cX0_meetPair 21 = .ok (.iload_n 2, 1) := by decide +kernel
theorem dX0_meetPair_22 : decode cX0_meetPair 22 = .ok (.ifCond .lt 10, 3) := by decide +kernel
theorem dX0_meetPair_25 : decode cX0_meetPair 25 = .ok (.iload_n 2, 1) := by decide +kernel
theorem dX0_meetPair_26 : decode cX0_meetPair 26 = .ok (.sipush 256, 3) := by decide +kernel
theorem dX0_meetPair_29 : decode cX0_meetPair 29 = .ok (.if_icmp .lt 6, 3) := by decide +kernel
theorem dX0_meetPair_32 : decode cX0_meetPair 32 = .ok (.bipush (-2), 2) := by decide +kernel
theorem dX0_meetPair_34 : decode cX0_meetPair 34 = .ok (.ireturn, 1) := by decide +kernel
theorem dX0_meetPair_35 : decode cX0_meetPair 35 = .ok (.aload_n 0, 1) := by decide +kernel
theorem dX0_meetPair_36 : decode cX0_meetPair 36 = .ok (.getfield 35, 3) := by decide +kernel
theorem dX0_meetPair_39 : decode cX0_meetPair 39 = .ok (.iload_n 1, 1) := by decide +kernel
theorem dX0_meetPair_40 : decode cX0_meetPair 40 = .ok (.iaload, 1) := by decide +kernel
theorem dX0_meetPair_41 : decode cX0_meetPair 41 = .ok (.istore_n 3, 1) := by decide +kernel
theorem dX0_meetPair_42 : decode cX0_meetPair 42 = .ok (.aload_n 0, 1) := by decide +kernel
theorem dX0_meetPair_43 : decode cX0_meetPair 43 = .ok (.getfield 13, 3) := by decide +kernel
theorem dX0_meetPair_46 : decode cX0_meetPair 46 = .ok (.iload_n 2, 1) := by decide +kernel
theorem dX0_meetPair_47 : decode cX0_meetPair 47 = .ok (.iaload, 1) := by decide +kernel
theorem dX0_meetPair_48 : decode cX0_meetPair 48 = .ok (.istore 4, 2) := by decide +kernel
theorem dX0_meetPair_50 : decode cX0_meetPair 50 = .ok (.aload_n 0, 1) := by decide +kernel
theorem dX0_meetPair_51 : decode cX0_meetPair 51 = .ok (.getfield 53, 3) := by decide +kernel
theorem dX0_meetPair_54 : decode cX0_meetPair 54 = .ok (.aload_n 0, 1) := by decide +kernel
theorem dX0_meetPair_55 : decode cX0_meetPair 55 = .ok (.getfield 20, 3) := by decide +kernel
theorem dX0_meetPair_58 : decode cX0_meetPair 58 = .ok (.iload_n 2, 1) := by decide +kernel
theorem dX0_meetPair_59 : decode cX0_meetPair 59 = .ok (.iaload, 1) := by decide +kernel
theorem dX0_meetPair_60 : decode cX0_meetPair 60 = .ok (.iload_n 3, 1) := by decide +kernel
theorem dX0_meetPair_61 : decode cX0_meetPair 61 = .ok (.invokevirtual 154, 3) := by decide +kernel
theorem dX0_meetPair_64 : decode cX0_meetPair 64 = .ok (.istore 5, 2) := by decide +kernel
theorem dX0_meetPair_66 : decode cX0_meetPair 66 = .ok (.aload_n 0, 1) := by decide +kernel
theorem dX0_meetPair_67 : decode cX0_meetPair 67 = .ok (.getfield 53, 3) := by decide +kernel
theorem dX0_meetPair_70 : decode cX0_meetPair 70 = .ok (.aload_n 0, 1) := by decide +kernel
theorem dX0_meetPair_71 : decode cX0_meetPair 71 = .ok (.getfield 20, 3) := by decide +kernel
theorem dX0_meetPair_74 : decode cX0_meetPair 74 = .ok (.iload_n 2, 1) := by decide +kernel
theorem dX0_meetPair_75 : decode cX0_meetPair 75 = .ok (.iaload, 1) := by decide +kernel
theorem dX0_meetPair_76 : decode cX0_meetPair 76 = .ok (.iconst 1, 1) := by decide +kernel
theorem dX0_meetPair_77 : decode cX0_meetPair 77 = .ok (.iload_n 3, 1) := by decide +kernel
theorem dX0_meetPair_78 : decode cX0_meetPair 78 = .ok (.isub, 1) := by decide +kernel
theorem dX0_meetPair_79 : decode cX0_meetPair 79 = .ok (.invokevirtual 154, 3) := by decide +kernel
theorem dX0_meetPair_82 : decode cX0_meetPair 82 = .ok (.istore 6, 2) := by decide +kernel
theorem dX0_meetPair_84 : decode cX0_meetPair 84 = .ok (.iload_n 3, 1) := by decide +kernel
theorem dX0_meetPair_85 : decode cX0_meetPair 85 = .ok (.iconst 1, 1) := by decide +kernel
theorem dX0_meetPair_86 : decode cX0_meetPair 86 = .ok (.if_icmp .ne 13, 3) := by decide +kernel
theorem dX0_meetPair_89 : decode cX0_meetPair 89 = .ok (.iload 5, 2) := by decide +kernel
theorem dX0_meetPair_91 : decode cX0_meetPair 91 = .ok (.iload 6, 2) := by decide +kernel
theorem dX0_meetPair_93 : decode cX0_meetPair 93 = .ok (.if_icmp .ne 6, 3) := by decide +kernel
theorem dX0_meetPair_96 : decode cX0_meetPair 96 = .ok (.bipush (-2), 2) := by decide +kernel
theorem dX0_meetPair_98 : decode cX0_meetPair 98 = .ok (.ireturn, 1) := by decide +kernel
theorem dX0_meetPair_99 : decode cX0_meetPair 99 = .ok (.aload_n 0, 1) := by decide +kernel
theorem dX0_meetPair_100 : decode cX0_meetPair 100 = .ok (.aload_n 0, 1) := by decide +kernel
theorem dX0_meetPair_101 : decode cX0_meetPair 101 = .ok (.getfield 53, 3) := by decide +kernel
theorem dX0_meetPair_104 : decode cX0_meetPair 104 = .ok (.iload 4, 2) := by decide +kernel
theorem dX0_meetPair_106 : decode cX0_meetPair 106 = .ok (.iconst 1, 1) := by decide +kernel
theorem dX0_meetPair_107 : decode cX0_meetPair 107 = .ok (.invokevirtual 154, 3) := by decide +kernel
theorem dX0_meetPair_110 : decode cX0_meetPair 110 = .ok (.bipush 63, 2) := by decide +kernel
theorem dX0_meetPair_112 : decode cX0_meetPair 112 = .ok (.iload 6, 2) := by decide +kernel
theorem dX0_meetPair_114 : decode cX0_meetPair 114 = .ok (.aload_n 0, 1) := by decide +kernel
theorem dX0_meetPair_115 : decode cX0_meetPair 115 = .ok (.getfield 23, 3) := by decide +kernel
theorem dX0_meetPair_118 : decode cX0_meetPair 118 = .ok (.iload_n 2, 1) := by decide +kernel
theorem dX0_meetPair_119 : decode cX0_meetPair 119 = .ok (.iaload, 1) := by decide +kernel
theorem dX0_meetPair_120 : decode cX0_meetPair 120 = .ok (.invokevirtual 80, 3) := by decide +kernel
theorem dX0_meetPair_123 : decode cX0_meetPair 123 = .ok (.istore 7, 2) := by decide +kernel
theorem dX0_meetPair_125 : decode cX0_meetPair 125 = .ok (.aload_n 0, 1) := by decide +kernel
theorem dX0_meetPair_126 : decode cX0_meetPair 126 = .ok (.aload_n 0, 1) := by decide +kernel
theorem dX0_meetPair_127 : decode cX0_meetPair 127 = .ok (.getfield 53, 3) := by decide +kernel
theorem dX0_meetPair_130 : decode cX0_meetPair 130 = .ok (.iload 4, 2) := by decide +kernel
theorem dX0_meetPair_132 : decode cX0_meetPair 132 = .ok (.iconst 0, 1) := by decide +kernel
theorem dX0_meetPair_133 : decode cX0_meetPair 133 = .ok (.invokevirtual 154, 3) := by decide +kernel
theorem dX0_meetPair_136 : decode cX0_meetPair 136 = .ok (.bipush 63, 2) := by decide +kernel
theorem dX0_meetPair_138 : decode cX0_meetPair 138 = .ok (.iload 5, 2) := by decide +kernel
theorem dX0_meetPair_140 : decode cX0_meetPair 140 = .ok (.iload 7, 2) := by decide +kernel
theorem dX0_meetPair_142 : decode cX0_meetPair 142 = .ok (.invokevirtual 80, 3) := by decide +kernel
theorem dX0_meetPair_145 : decode cX0_meetPair 145 = .ok (.ireturn, 1) := by decide +kernel
theorem dX0_share_0 : decode cX0_share 0 = .ok (.iload_n 1, 1) := by decide +kernel
theorem dX0_share_1 : decode cX0_share 1 = .ok (.ifCond .lt 18, 3) := by decide +kernel
theorem dX0_share_4 : decode cX0_share 4 = .ok (.iload_n 1, 1) := by decide +kernel
theorem dX0_share_5 : decode cX0_share 5 = .ok (.bipush 64, 2) := by decide +kernel
theorem dX0_share_7 : decode cX0_share 7 = .ok (.if_icmp .ge 12, 3) := by decide +kernel
theorem dX0_share_10 : decode cX0_share 10 = .ok (.aload_n 0, 1) := by decide +kernel
theorem dX0_share_11 : decode cX0_share 11 = .ok (.getfield 29, 3) := by decide +kernel
theorem dX0_share_14 : decode cX0_share 14 = .ok (.iload_n 1, 1) := by decide +kernel
theorem dX0_share_15 : decode cX0_share 15 = .ok (.iaload, 1) := by decide +kernel
theorem dX0_share_16 : decode cX0_share 16 = .ok (.goto 4, 3) := by decide +kernel
theorem dX0_share_19 : decode cX0_share 19 = .ok (.iconst (-1), 1) := by decide +kernel
theorem dX0_share_20 : decode cX0_share 20 = .ok (.istore_n 2, 1) := by decide +kernel
theorem dX0_share_21 : decode cX0_share 21 = .ok (.iload_n 2, 1) := by decide +kernel
theorem dX0_share_22 : decode cX0_share 22 = .ok (.ifCond .lt 10, 3) := by decide +kernel
theorem dX0_share_25 : decode cX0_share 25 = .ok (.iload_n 2, 1) := by decide +kernel
theorem dX0_share_26 : decode cX0_share 26 = .ok (.sipush 256, 3) := by decide +kernel
theorem dX0_share_29 : decode cX0_share 29 = .ok (.if_icmp .lt 6, 3) := by decide +kernel
theorem dX0_share_32 : decode cX0_share 32 = .ok (.bipush (-2), 2) := by decide +kernel
theorem dX0_share_34 : decode cX0_share 34 = .ok (.ireturn, 1) := by decide +kernel
theorem dX0_share_35 : decode cX0_share 35 = .ok (.aload_n 0, 1) := by decide +kernel
theorem dX0_share_36 : decode cX0_share 36 = .ok (.getfield 13, 3) := by decide +kernel
theorem dX0_share_39 : decode cX0_share 39 = .ok (.iload_n 2, 1) := by decide +kernel
theorem dX0_share_40 : decode cX0_share 40 = .ok (.iaload, 1) := by decide +kernel
theorem dX0_share_41 : decode cX0_share 41 = .ok (.istore_n 3, 1) := by decide +kernel
theorem dX0_share_42 : decode cX0_share 42 = .ok (.aload_n 0, 1) := by decide +kernel
theorem dX0_share_43 : decode cX0_share 43 = .ok (.getfield 20, 3) := by decide +kernel
theorem dX0_share_46 : decode cX0_share 46 = .ok (.iload_n 2, 1) := by decide +kernel
theorem dX0_share_47 : decode cX0_share 47 = .ok (.iaload, 1) := by decide +kernel
theorem dX0_share_48 : decode cX0_share 48 = .ok (.istore 4, 2) := by decide +kernel
theorem dX0_share_50 : decode cX0_share 50 = .ok (.aload_n 0, 1) := by decide +kernel
theorem dX0_share_51 : decode cX0_share 51 = .ok (.getfield 53, 3) := by decide +kernel
theorem dX0_share_54 : decode cX0_share 54 = .ok (.iload_n 3, 1) := by decide +kernel
theorem dX0_share_55 : decode cX0_share 55 = .ok (.invokevirtual 125, 3) := by decide +kernel
theorem dX0_share_58 : decode cX0_share 58 = .ok (.invokestatic 158, 3) := by decide +kernel
theorem dX0_share_61 : decode cX0_share 61 = .ok (.istore 5, 2) := by decide +kernel
theorem dX0_share_63 : decode cX0_share 63 = .ok (.aload_n 0, 1) := by decide +kernel
theorem dX0_share_64 : decode cX0_share 64 = .ok (.getfield 53, 3) := by decide +kernel
theorem dX0_share_67 : decode cX0_share 67 = .ok (.iload_n 3, 1) := by decide +kernel
theorem dX0_share_68 : decode cX0_share 68 = .ok (.aload_n 0, 1) := by decide +kernel
theorem dX0_share_69 : decode cX0_share 69 = .ok (.getfield 32, 3) := by decide +kernel
theorem dX0_share_72 : decode cX0_share 72 = .ok (.iload_n 1, 1) := by decide +kernel
theorem dX0_share_73 : decode cX0_share 73 = .ok (.iaload, 1) := by decide +kernel
theorem dX0_share_74 : decode cX0_share 74 = .ok (.invokevirtual 154, 3) := by decide +kernel
theorem dX0_share_77 : decode cX0_share 77 = .ok (.istore 6, 2) := by decide +kernel
theorem dX0_share_79 : decode cX0_share 79 = .ok (.aload_n 0, 1) := by decide +kernel
theorem dX0_share_80 : decode cX0_share 80 = .ok (.getfield 53, 3) := by decide +kernel
theorem dX0_share_83 : decode cX0_share 83 = .ok (.iload 6, 2) := by decide +kernel
theorem dX0_share_85 : decode cX0_share 85 = .ok (.invokevirtual 192, 3) := by decide +kernel
theorem dX0_share_88 : decode cX0_share 88 = .ok (.istore 7, 2) := by decide +kernel
theorem dX0_share_90 : decode cX0_share 90 = .ok (.aload_n 0, 1) := by decide +kernel
theorem dX0_share_91 : decode cX0_share 91 = .ok (.getfield 35, 3) := by decide +kernel
theorem dX0_share_94 : decode cX0_share 94 = .ok (.iload_n 1, 1) := by decide +kernel
theorem dX0_share_95 : decode cX0_share 95 = .ok (.iaload, 1) := by decide +kernel
theorem dX0_share_96 : decode cX0_share 96 = .ok (.istore 8, 2) := by decide +kernel
theorem dX0_share_98 : decode cX0_share 98 = .ok (.iload 7, 2) := by decide +kernel
theorem dX0_share_100 : decode cX0_share 100 = .ok (.iconst 2, 1) := by decide +kernel
theorem dX0_share_101 : decode cX0_share 101 = .ok (.if_icmp .ne 10, 3) := by decide +kernel
theorem dX0_share_104 : decode cX0_share 104 = .ok (.iconst 1, 1) := by decide +kernel
theorem dX0_share_105 : decode cX0_share 105 = .ok (.iload 8, 2) := by decide +kernel
theorem dX0_share_107 : decode cX0_share 107 = .ok (.ishl, 1) := by decide +kernel
theorem dX0_share_108 : decode cX0_share 108 = .ok (.goto 5, 3) := by decide +kernel
theorem dX0_share_111 : decode cX0_share 111 = .ok (.iload 8, 2) := by decide +kernel
theorem dX0_share_113 : decode cX0_share 113 = .ok (.istore 9, 2) := by decide +kernel
theorem dX0_share_115 : decode cX0_share 115 = .ok (.aload_n 0, 1) := by decide +kernel
theorem dX0_share_116 : decode cX0_share 116 = .ok (.getfield 53, 3) := by decide +kernel
theorem dX0_share_119 : decode cX0_share 119 = .ok (.iload 4, 2) := by decide +kernel
theorem dX0_share_121 : decode cX0_share 121 = .ok (.iload 5, 2) := by decide +kernel
theorem dX0_share_123 : decode cX0_share 123 = .ok (.iload 9, 2) := by decide +kernel
theorem dX0_share_125 : decode cX0_share 125 = .ok (.invokevirtual 195, 3) := by decide +kernel
theorem dX0_share_128 : decode cX0_share 128 = .ok (.ifCond .eq 20, 3) := by decide +kernel
theorem dX0_share_131 : decode cX0_share 131 = .ok (.iload 9, 2) := by decide +kernel
theorem dX0_share_133 : decode cX0_share 133 = .ok (.ifCond .ne 18, 3) := by decide +kernel
theorem dX0_share_136 : decode cX0_share 136 = .ok (.aload_n 0, 1) := by decide +kernel
theorem dX0_share_137 : decode cX0_share 137 = .ok (.getfield 53, 3) := by decide +kernel
theorem dX0_share_140 : decode cX0_share 140 = .ok (.iload 5, 2) := by decide +kernel
theorem dX0_share_142 : decode cX0_share 142 = .ok (.invokevirtual 179, 3) := by decide +kernel
theorem dX0_share_145 : decode cX0_share 145 = .ok (.ifCond .ne 6, 3) := by decide +kernel
theorem dX0_share_148 : decode cX0_share 148 = .ok (.bipush (-2), 2) := by decide +kernel
theorem dX0_share_150 : decode cX0_share 150 = .ok (.ireturn, 1) := by decide +kernel
theorem dX0_share_151 : decode cX0_share 151 = .ok (.aload_n 0, 1) := by decide +kernel
theorem dX0_share_152 : decode cX0_share 152 = .ok (.getfield 53, 3) := by decide +kernel
theorem dX0_share_155 : decode cX0_share 155 = .ok (.iload 6, 2) := by decide +kernel
theorem dX0_share_157 : decode cX0_share 157 = .ok (.invokevirtual 125, 3) := by decide +kernel
theorem dX0_share_160 : decode cX0_share 160 = .ok (.istore 10, 2) := by decide +kernel
theorem dX0_share_162 : decode cX0_share 162 = .ok (.aload_n 0, 1) := by decide +kernel
theorem dX0_share_163 : decode cX0_share 163 = .ok (.getfield 53, 3) := by decide +kernel
theorem dX0_share_166 : decode cX0_share 166 = .ok (.iload 4, 2) := by decide +kernel
theorem dX0_share_168 : decode cX0_share 168 = .ok (.iload 5, 2) := by decide +kernel
theorem dX0_share_170 : decode cX0_share 170 = .ok (.iload 9, 2) := by decide +kernel
theorem dX0_share_172 : decode cX0_share 172 = .ok (.invokevirtual 183, 3) := by decide +kernel
theorem dX0_share_175 : decode cX0_share 175 = .ok (.istore 11, 2) := by decide +kernel
theorem dX0_share_177 : decode cX0_share 177 = .ok (.iload 7, 2) := by decide +kernel
theorem dX0_share_179 : decode cX0_share 179 = .ok (.iconst 2, 1) := by decide +kernel
theorem dX0_share_180 : decode cX0_share 180 = .ok (.if_icmp .ne 26, 3) := by decide +kernel
theorem dX0_share_183 : decode cX0_share 183 = .ok (.aload_n 0, 1) := by decide +kernel
theorem dX0_share_184 : decode cX0_share 184 = .ok (.getfield 53, 3) := by decide +kernel
theorem dX0_share_187 : decode cX0_share 187 = .ok (.iload 11, 2) := by decide +kernel
theorem dX0_share_189 : decode cX0_share 189 = .ok (.invokevirtual 125, 3) := by decide +kernel
theorem dX0_share_192 : decode cX0_share 192 = .ok (.invokestatic 158, 3) := by decide +kernel
theorem dX0_share_195 : decode cX0_share 195 = .ok (.iload 10, 2) := by decide +kernel
theorem dX0_share_197 : decode cX0_share 197 = .ok (.invokestatic 158, 3) := by decide +kernel
theorem dX0_share_200 : decode cX0_share 200 = .ok (.if_icmp .eq 6, 3) := by decide +kernel
theorem dX0_share_203 : decode cX0_share 203 = .ok (.bipush (-2), 2) := by decide +kernel
theorem dX0_share_205 : decode cX0_share 205 = .ok (.ireturn, 1) := by decide +kernel
theorem dX0_share_206 : decode cX0_share 206 = .ok (.aload_n 0, 1) := by decide +kernel
theorem dX0_share_207 : decode cX0_share 207 = .ok (.getfield 17, 3) := by decide +kernel
theorem dX0_share_210 : decode cX0_share 210 = .ok (.iload_n 2, 1) := by decide +kernel
theorem dX0_share_211 : decode cX0_share 211 = .ok (.iaload, 1) := by decide +kernel
theorem dX0_share_212 : decode cX0_share 212 = .ok (.istore 12, 2) := by decide +kernel
theorem dX0_share_214 : decode cX0_share 214 = .ok (.iconst 1, 1) := by decide +kernel
theorem dX0_share_215 : decode cX0_share 215 = .ok (.aload_n 0, 1) := by decide +kernel
theorem dX0_share_216 : decode cX0_share 216 = .ok (.getfield 53, 3) := by decide +kernel
theorem dX0_share_219 : decode cX0_share 219 = .ok (.iload 4, 2) := by decide +kernel
theorem dX0_share_221 : decode cX0_share 221 = .ok (.iload 5, 2) := by decide +kernel
theorem dX0_share_223 : decode cX0_share 223 = .ok (.invokevirtual 161, 3) := by decide +kernel
theorem dX0_share_226 : decode cX0_share 226 = .ok (.ishl, 1) := by decide +kernel
theorem dX0_share_227 : decode cX0_share 227 = .ok (.iconst 1, 1) := by decide +kernel
theorem dX0_share_228 : decode cX0_share 228 = .ok (.isub, 1) := by decide +kernel
theorem dX0_share_229 : decode cX0_share 229 = .ok (.istore 13, 2) := by decide +kernel
theorem dX0_share_231 : decode cX0_share 231 = .ok (.iconst 0, 1) := by decide +kernel
theorem dX0_share_232 : decode cX0_share 232 = .ok (.istore 14, 2) := by decide +kernel
theorem dX0_share_234 : decode cX0_share 234 = .ok (.iload 14, 2) := by decide +kernel
theorem dX0_share_236 : decode cX0_share 236 = .ok (.bipush 6, 2) := by decide +kernel
theorem dX0_share_238 : decode cX0_share 238 = .ok (.if_icmp .ge 95, 3) := by decide +kernel
theorem dX0_share_241 : decode cX0_share 241 = .ok (.iload 13, 2) := by decide +kernel
theorem dX0_share_243 : decode cX0_share 243 = .ok (.ifCond .lt 90, 3) := by decide +kernel
theorem dX0_share_246 : decode cX0_share 246 = .ok (.iload 14, 2) := by decide +kernel
theorem dX0_share_248 : decode cX0_share 248 = .ok (.aload_n 0, 1) := by decide +kernel
theorem dX0_share_249 : decode cX0_share 249 = .ok (.getfield 32, 3) := by decide +kernel
theorem dX0_share_252 : decode cX0_share 252 = .ok (.iload_n 1, 1) := by decide +kernel
theorem dX0_share_253 : decode cX0_share 253 = .ok (.iaload, 1) := by decide +kernel
theorem dX0_share_254 : decode cX0_share 254 = .ok (.if_icmp .eq 23, 3) := by decide +kernel
theorem dX0_share_257 : decode cX0_share 257 = .ok (.iload 7, 2) := by decide +kernel
theorem dX0_share_259 : decode cX0_share 259 = .ok (.ifCond .ne 22, 3) := by decide +kernel
theorem dX0_share_262 : decode cX0_share 262 = .ok (.aload_n 0, 1) := by decide +kernel
theorem dX0_share_263 : decode cX0_share 263 = .ok (.getfield 53, 3) := by decide +kernel
theorem dX0_share_266 : decode cX0_share 266 = .ok (.iload_n 3, 1) := by decide +kernel
theorem dX0_share_267 : decode cX0_share 267 = .ok (.iload 14, 2) := by decide +kernel
theorem dX0_share_269 : decode cX0_share 269 = .ok (.invokevirtual 154, 3) := by decide +kernel
theorem dX0_share_272 : decode cX0_share 272 = .ok (.iload 6, 2) := by decide +kernel
theorem dX0_share_274 : decode cX0_share 274 = .ok (.if_icmp .ne 7, 3) := by decide +kernel
theorem dX0_share_277 : decode cX0_share 277 = .ok (.iconst 1, 1) := by decide +kernel
theorem dX0_share_278 : decode cX0_share 278 = .ok (.goto 4, 3) := by decide +kernel
theorem dX0_share_281 : decode cX0_share 281 = .ok (.iconst 0, 1) := by decide +kernel
theorem dX0_share_282 : decode cX0_share 282 = .ok (.istore 15, 2) := by decide +kernel
theorem dX0_share_284 : decode cX0_share 284 = .ok (.iload 12, 2) := by decide +kernel
theorem dX0_share_286 : decode cX0_share 286 = .ok (.iload 14, 2) := by decide +kernel
theorem dX0_share_288 : decode cX0_share 288 = .ok (.ishr, 1) := by decide +kernel
theorem dX0_share_289 : decode cX0_share 289 = .ok (.iconst 1, 1) := by decide +kernel
theorem dX0_share_290 : decode cX0_share 290 = .ok (.iand, 1) := by decide +kernel
theorem dX0_share_291 : decode cX0_share 291 = .ok (.ifCond .eq 36, 3) := by decide +kernel
theorem dX0_share_294 : decode cX0_share 294 = .ok (.iload 15, 2) := by decide +kernel
theorem dX0_share_296 : decode cX0_share 296 = .ok (.ifCond .eq 31, 3) := by decide +kernel
theorem dX0_share_299 : decode cX0_share 299 = .ok (.iload 12, 2) := by decide +kernel
theorem dX0_share_301 : decode cX0_share 301 = .ok (.iconst 1, 1) := by decide +kernel
theorem dX0_share_302 : decode cX0_share 302 = .ok (.iload 14, 2) := by decide +kernel
theorem dX0_share_304 : decode cX0_share 304 = .ok (.ishl, 1) := by decide +kernel
theorem dX0_share_305 : decode cX0_share 305 = .ok (.iconst (-1), 1) := by decide +kernel
theorem dX0_share_306 : decode cX0_share 306 = .ok (.ixor, 1) := by decide +kernel
theorem dX0_share_307 : decode cX0_share 307 = .ok (.iand, 1) := by decide +kernel
theorem dX0_share_308 : decode cX0_share 308 = .ok (.istore 12, 2) := by decide +kernel
theorem dX0_share_310 : decode cX0_share 310 = .ok (.aload_n 0, 1) := by decide +kernel
theorem dX0_share_311 : decode cX0_share 311 = .ok (.getfield 53, 3) := by decide +kernel
theorem dX0_share_314 : decode cX0_share 314 = .ok (.iload 4, 2) := by decide +kernel
theorem dX0_share_316 : decode cX0_share 316 = .ok (.iload 5, 2) := by decide +kernel
theorem dX0_share_318 : decode cX0_share 318 = .ok (.iload 13, 2) := by decide +kernel
theorem dX0_share_320 : decode cX0_share 320 = .ok (.iload 11, 2) := by decide +kernel
theorem dX0_share_322 : decode cX0_share 322 = .ok (.invokevirtual 164, 3) := by decide +kernel
theorem dX0_share_325 : decode cX0_share 325 = .ok (.istore 13, 2) := by decide +kernel
theorem dX0_share_327 : decode cX0_share 327 = .ok (.iinc 14 1, 3) := by decide +kernel
theorem dX0_share_330 : decode cX0_share 330 = .ok (.goto (-96), 3) := by decide +kernel
theorem dX0_share_333 : decode cX0_share 333 = .ok (.iload 13, 2) := by decide +kernel
theorem dX0_share_335 : decode cX0_share 335 = .ok (.ifCond .lt 19, 3) := by decide +kernel
theorem dX0_share_338 : decode cX0_share 338 = .ok (.iload 7, 2) := by decide +kernel
theorem dX0_share_340 : decode cX0_share 340 = .ok (.ifCond .eq 17, 3) := by decide +kernel
theorem dX0_share_343 : decode cX0_share 343 = .ok (.aload_n 0, 1) := by decide +kernel
theorem dX0_share_344 : decode cX0_share 344 = .ok (.iload 6, 2) := by decide +kernel
theorem dX0_share_346 : decode cX0_share 346 = .ok (.iload 11, 2) := by decide +kernel
theorem dX0_share_348 : decode cX0_share 348 = .ok (.invokevirtual 76, 3) := by decide +kernel
theorem dX0_share_351 : decode cX0_share 351 = .ok (.ifCond .ne 6, 3) := by decide +kernel
theorem dX0_share_354 : decode cX0_share 354 = .ok (.bipush (-2), 2) := by decide +kernel
theorem dX0_share_356 : decode cX0_share 356 = .ok (.ireturn, 1) := by decide +kernel
theorem dX0_share_357 : decode cX0_share 357 = .ok (.iload 7, 2) := by decide +kernel
theorem dX0_share_359 : decode cX0_share 359 = .ok (.ifCond .ne 41, 3) := by decide +kernel
theorem dX0_share_362 : decode cX0_share 362 = .ok (.aload_n 0, 1) := by decide +kernel
theorem dX0_share_363 : decode cX0_share 363 = .ok (.iload 10, 2) := by decide +kernel
theorem dX0_share_365 : decode cX0_share 365 = .ok (.iload 11, 2) := by decide +kernel
theorem dX0_share_367 : decode cX0_share 367 = .ok (.invokevirtual 140, 3) := by decide +kernel
theorem dX0_share_370 : decode cX0_share 370 = .ok (.aload_n 0, 1) := by decide +kernel
theorem dX0_share_371 : decode cX0_share 371 = .ok (.aload_n 0, 1) := by decide +kernel
theorem dX0_share_372 : decode cX0_share 372 = .ok (.getfield 70, 3) := by decide +kernel
theorem dX0_share_375 : decode cX0_share 375 = .ok (.aload_n 0, 1) := by decide +kernel
theorem dX0_share_376 : decode cX0_share 376 = .ok (.getfield 73, 3) := by decide +kernel
theorem dX0_share_379 : decode cX0_share 379 = .ok (.invokevirtual 76, 3) := by decide +kernel
theorem dX0_share_382 : decode cX0_share 382 = .ok (.ifCond .eq 15, 3) := by decide +kernel
theorem dX0_share_385 : decode cX0_share 385 = .ok (.aload_n 0, 1) := by decide +kernel
theorem dX0_share_386 : decode cX0_share 386 = .ok (.iload_n 2, 1) := by decide +kernel
theorem dX0_share_387 : decode cX0_share 387 = .ok (.iload 12, 2) := by decide +kernel
theorem dX0_share_389 : decode cX0_share 389 = .ok (.iload 13, 2) := by decide +kernel
theorem dX0_share_391 : decode cX0_share 391 = .ok (.invokevirtual 167, 3) := by decide +kernel
theorem dX0_share_394 : decode cX0_share 394 = .ok (.goto 5, 3) := by decide +kernel
theorem dX0_share_397 : decode cX0_share 397 = .ok (.bipush (-2), 2) := by decide +kernel
theorem dX0_share_399 : decode cX0_share 399 = .ok (.ireturn, 1) := by decide +kernel
theorem dX0_share_400 : decode cX0_share 400 = .ok (.aload_n 0, 1) := by decide +kernel
theorem dX0_share_401 : decode cX0_share 401 = .ok (.iload_n 2, 1) := by decide +kernel
theorem dX0_share_402 : decode cX0_share 402 = .ok (.iload 12, 2) := by decide +kernel
theorem dX0_share_404 : decode cX0_share 404 = .ok (.iload 13, 2) := by decide +kernel
theorem dX0_share_406 : decode cX0_share 406 = .ok (.invokevirtual 167, 3) := by decide +kernel
theorem dX0_share_409 : decode cX0_share 409 = .ok (.istore 14, 2) := by decide +kernel
theorem dX0_share_411 : decode cX0_share 411 = .ok (.iload 14, 2) := by decide +kernel
theorem dX0_share_413 : decode cX0_share 413 = .ok (.bipush (-2), 2) := by decide +kernel
theorem dX0_share_415 : decode cX0_share 415 = .ok (.if_icmp .ne 8, 3) := by decide +kernel
theorem dX0_share_418 : decode cX0_share 418 = .ok (.bipush (-2), 2) := by decide +kernel
theorem dX0_share_420 : decode cX0_share 420 = .ok (.goto 15, 3) := by decide +kernel
theorem dX0_share_423 : decode cX0_share 423 = .ok (.aload_n 0, 1) := by decide +kernel
theorem dX0_share_424 : decode cX0_share 424 = .ok (.iload 6, 2) := by decide +kernel
theorem dX0_share_426 : decode cX0_share 426 = .ok (.bipush 63, 2) := by decide +kernel
theorem dX0_share_428 : decode cX0_share 428 = .ok (.iload 11, 2) := by decide +kernel
theorem dX0_share_430 : decode cX0_share 430 = .ok (.iload 14, 2) := by decide +kernel
theorem dX0_share_432 : decode cX0_share 432 = .ok (.invokevirtual 80, 3) := by decide +kernel
theorem dX0_share_435 : decode cX0_share 435 = .ok (.ireturn, 1) := by decide +kernel
theorem dX0_record_0 : decode cX0_record 0 = .ok (.aload_n 0, 1) := by decide +kernel
theorem dX0_record_1 : decode cX0_record 1 = .ok (.getfield 57, 3) := by decide +kernel
theorem dX0_record_4 : decode cX0_record 4 = .ok (.istore_n 1, 1) := by decide +kernel
theorem dX0_record_5 : decode cX0_record 5 = .ok (.iload_n 1, 1) := by decide +kernel
theorem dX0_record_6 : decode cX0_record 6 = .ok (.ifCond .lt 10, 3) := by decide +kernel
theorem dX0_record_9 : decode cX0_record 9 = .ok (.iload_n 1, 1) := by decide +kernel
theorem dX0_record_10 : decode cX0_record 10 = .ok (.sipush 300, 3) := by decide +kernel
theorem dX0_record_13 : decode cX0_record 13 = .ok (.if_icmp .le 4, 3) := by decide +kernel
theorem dX0_record_16 : decode cX0_record 16 = .ok (.return_, 1) := by decide +kernel
theorem dX0_record_17 : decode cX0_record 17 = .ok (.iconst 0, 1) := by decide +kernel
theorem dX0_record_18 : decode cX0_record 18 = .ok (.istore_n 2, 1) := by decide +kernel
theorem dX0_record_19 : decode cX0_record 19 = .ok (.iload_n 2, 1) := by decide +kernel
theorem dX0_record_20 : decode cX0_record 20 = .ok (.iconst 5, 1) := by decide +kernel
theorem dX0_record_21 : decode cX0_record 21 = .ok (.if_icmp .ge 40, 3) := by decide +kernel
theorem dX0_record_24 : decode cX0_record 24 = .ok (.aload_n 0, 1) := by decide +kernel
theorem dX0_record_25 : decode cX0_record 25 = .ok (.getfield 47, 3) := by decide +kernel
theorem dX0_record_28 : decode cX0_record 28 = .ok (.iload_n 1, 1) := by decide +kernel
theorem dX0_record_29 : decode cX0_record 29 = .ok (.iconst 5, 1) := by decide +kernel
theorem dX0_record_30 : decode cX0_record 30 = .ok (.imul, 1) := by decide +kernel
theorem dX0_record_31 : decode cX0_record 31 = .ok (.iload_n 2, 1) := by decide +kernel
theorem dX0_record_32 : decode cX0_record 32 = .ok (.iadd, 1) := by decide +kernel
theorem dX0_record_33 : decode cX0_record 33 = .ok (.aload_n 0, 1) := by decide +kernel
theorem dX0_record_34 : decode cX0_record 34 = .ok (.getfield 67, 3) := by decide +kernel
theorem dX0_record_37 : decode cX0_record 37 = .ok (.iload_n 2, 1) := by decide +kernel
theorem dX0_record_38 : decode cX0_record 38 = .ok (.ishr, 1) := by decide +kernel
theorem dX0_record_39 : decode cX0_record 39 = .ok (.iconst 1, 1) := by decide +kernel
theorem dX0_record_40 : decode cX0_record 40 = .ok (.iand, 1) := by decide +kernel
theorem dX0_record_41 : decode cX0_record 41 = .ok (.ifCond .eq 12, 3) := by decide +kernel
theorem dX0_record_44 : decode cX0_record 44 = .ok (.aload_n 0, 1) := by decide +kernel
theorem dX0_record_45 : decode cX0_record 45 = .ok (.getfield 26, 3) := by decide +kernel
theorem dX0_record_48 : decode cX0_record 48 = .ok (.iload_n 2, 1) := by decide +kernel
theorem dX0_record_49 : decode cX0_record 49 = .ok (.iaload, 1) := by decide +kernel
theorem dX0_record_50 : decode cX0_record 50 = .ok (.goto 4, 3) := by decide +kernel
theorem dX0_record_53 : decode cX0_record 53 = .ok (.iconst (-1), 1) := by decide +kernel
theorem dX0_record_54 : decode cX0_record 54 = .ok (.iastore, 1) := by decide +kernel
theorem dX0_record_55 : decode cX0_record 55 = .ok (.iinc 2 1, 3) := by decide +kernel
theorem dX0_record_58 : decode cX0_record 58 = .ok (.goto (-39), 3) := by decide +kernel
theorem dX0_record_61 : decode cX0_record 61 = .ok (.iconst 0, 1) := by decide +kernel
theorem dX0_record_62 : decode cX0_record 62 = .ok (.istore_n 2, 1) := by decide +kernel
theorem dX0_record_63 : decode cX0_record 63 = .ok (.aload_n 0, 1) := by decide +kernel
theorem dX0_record_64 : decode cX0_record 64 = .ok (.getfield 57, 3) := by decide +kernel
theorem dX0_record_67 : decode cX0_record 67 = .ok (.istore_n 3, 1) := by decide +kernel
theorem dX0_record_68 : decode cX0_record 68 = .ok (.iload_n 2, 1) := by decide +kernel
theorem dX0_record_69 : decode cX0_record 69 = .ok (.iload_n 3, 1) := by decide +kernel
theorem dX0_record_70 : decode cX0_record 70 = .ok (.if_icmp .ge 49, 3) := by decide +kernel
theorem dX0_record_73 : decode cX0_record 73 = .ok (.iload_n 2, 1) := by decide +kernel
theorem dX0_record_74 : decode cX0_record 74 = .ok (.iload_n 3, 1) := by decide +kernel
theorem dX0_record_75 : decode cX0_record 75 = .ok (.iadd, 1) := by decide +kernel
theorem dX0_record_76 : decode cX0_record 76 = .ok (.iconst 1, 1) := by decide +kernel
theorem dX0_record_77 : decode cX0_record 77 = .ok (.iushr, 1) := by decide +kernel
theorem dX0_record_78 : decode cX0_record 78 = .ok (.istore 4, 2) := by decide +kernel
theorem dX0_record_80 : decode cX0_record 80 = .ok (.aload_n 0, 1) := by decide +kernel
theorem dX0_record_81 : decode cX0_record 81 = .ok (.iload_n 1, 1) := by decide +kernel
theorem dX0_record_82 : decode cX0_record 82 = .ok (.aload_n 0, 1) := by decide +kernel
theorem dX0_record_83 : decode cX0_record 83 = .ok (.getfield 50, 3) := by decide +kernel
theorem dX0_record_86 : decode cX0_record 86 = .ok (.iload 4, 2) := by decide +kernel
theorem dX0_record_88 : decode cX0_record 88 = .ok (.iaload, 1) := by decide +kernel
theorem dX0_record_89 : decode cX0_record 89 = .ok (.invokevirtual 199, 3) := by decide +kernel
theorem dX0_record_92 : decode cX0_record 92 = .ok (.istore 5, 2) := by decide +kernel
theorem dX0_record_94 : decode cX0_record 94 = .ok (.iload 5, 2) := by decide +kernel
theorem dX0_record_96 : decode cX0_record 96 = .ok (.ifCond .ne 4, 3) := by decide +kernel
theorem dX0_record_99 : decode cX0_record 99 = .ok (.return_, 1) := by decide +kernel
theorem dX0_record_100 : decode cX0_record 100 = .ok (.iload 5, 2) := by decide +kernel
theorem dX0_record_102 : decode cX0_record 102 = .ok (.ifCond .ge 9, 3) := by decide +kernel
theorem dX0_record_105 : decode cX0_record 105 = .ok (.iload 4, 2) := by decide +kernel
theorem dX0_record_107 : decode cX0_record 107 = .ok (.istore_n 3, 1) := by decide +kernel
theorem dX0_record_108 : decode cX0_record 108 = .ok (.goto 8, 3) := by decide +kernel
theorem dX0_record_111 : decode cX0_record 111 = .ok (.iload 4, 2) := by decide +kernel
theorem dX0_record_113 : decode cX0_record 113 = .ok (.iconst 1, 1) := by decide +kernel
theorem dX0_record_114 : decode cX0_record 114 = .ok (.iadd, 1) := by decide +kernel
theorem dX0_record_115 : decode cX0_record 115 = .ok (.istore_n 2, 1) := by decide +kernel
theorem dX0_record_116 : decode cX0_record 116 = .ok (.goto (-48), 3) := by decide +kernel
theorem dX0_record_119 : decode cX0_record 119 = .ok (.aload_n 0, 1) := by decide +kernel
theorem dX0_record_120 : decode cX0_record 120 = .ok (.getfield 57, 3) := by decide +kernel
theorem dX0_record_123 : decode cX0_record 123 = .ok (.sipush 300, 3) := by decide +kernel
theorem dX0_record_126 : decode cX0_record 126 = .ok (.if_icmp .lt 11, 3) := by decide +kernel
theorem dX0_record_129 : decode cX0_record 129 = .ok (.aload_n 0, 1) := by decide +kernel
theorem dX0_record_130 : decode cX0_record 130 = .ok (.sipush 301, 3) := by decide +kernel
theorem dX0_record_133 : decode cX0_record 133 = .ok (.putfield 57, 3) := by decide +kernel
theorem dX0_record_136 : decode cX0_record 136 = .ok (.return_, 1) := by decide +kernel
theorem dX0_record_137 : decode cX0_record 137 = .ok (.aload_n 0, 1) := by decide +kernel
theorem dX0_record_138 : decode cX0_record 138 = .ok (.getfield 50, 3) := by decide +kernel
theorem dX0_record_141 : decode cX0_record 141 = .ok (.iload_n 2, 1) := by decide +kernel
theorem dX0_record_142 : decode cX0_record 142 = .ok (.aload_n 0, 1) := by decide +kernel
theorem dX0_record_143 : decode cX0_record 143 = .ok (.getfield 50, 3) := by decide +kernel
theorem dX0_record_146 : decode cX0_record 146 = .ok (.iload_n 2, 1) := by decide +kernel
theorem dX0_record_147 : decode cX0_record 147 = .ok (.iconst 1, 1) := by decide +kernel
theorem dX0_record_148 : decode cX0_record 148 = .ok (.iadd, 1) := by decide +kernel
theorem dX0_record_149 : decode cX0_record 149 = .ok (.aload_n 0, 1) := by decide +kernel
theorem dX0_record_150 : decode cX0_record 150 = .ok (.getfield 57, 3) := by decide +kernel
theorem dX0_record_153 : decode cX0_record 153 = .ok (.iload_n 2, 1) := by decide +kernel
theorem dX0_record_154 : decode cX0_record 154 = .ok (.isub, 1) := by decide +kernel
theorem dX0_record_155 : decode cX0_record 155 = .ok (.invokestatic 202, 3) := by decide +kernel
theorem dX0_record_158 : decode cX0_record 158 = .ok (.aload_n 0, 1) := by decide +kernel
theorem dX0_record_159 : decode cX0_record 159 = .ok (.getfield 50, 3) := by decide +kernel
theorem dX0_record_162 : decode cX0_record 162 = .ok (.iload_n 2, 1) := by decide +kernel
theorem dX0_record_163 : decode cX0_record 163 = .ok (.iload_n 1, 1) := by decide +kernel
theorem dX0_record_164 : decode cX0_record 164 = .ok (.iastore, 1) := by decide +kernel
theorem dX0_record_165 : decode cX0_record 165 = .ok (.aload_n 0, 1) := by decide +kernel
theorem dX0_record_166 : decode cX0_record 166 = .ok (.dup, 1) := by decide +kernel
theorem dX0_record_167 : decode cX0_record 167 = .ok (.getfield 57, 3) := by decide +kernel
theorem dX0_record_170 : decode cX0_record 170 = .ok (.iconst 1, 1) := by decide +kernel
theorem dX0_record_171 : decode cX0_record 171 = .ok (.iadd, 1) := by decide +kernel
theorem dX0_record_172 : decode cX0_record 172 = .ok (.putfield 57, 3) := by decide +kernel
theorem dX0_record_175 : decode cX0_record 175 = .ok (.return_, 1) := by decide +kernel
theorem dX0_compareFound_0 : decode cX0_compareFound 0 = .ok (.iconst 0, 1) := by decide +kernel
theorem dX0_compareFound_1 : decode cX0_compareFound 1 = .ok (.istore_n 3, 1) := by decide +kernel
theorem dX0_compareFound_2 : decode cX0_compareFound 2 = .ok (.iload_n 3, 1) := by decide +kernel
theorem dX0_compareFound_3 : decode cX0_compareFound 3 = .ok (.iconst 5, 1) := by decide +kernel
theorem dX0_compareFound_4 : decode cX0_compareFound 4 = .ok (.if_icmp .ge 92, 3) := by decide +kernel
theorem dX0_compareFound_7 : decode cX0_compareFound 7 = .ok (.iload_n 1, 1) := by decide +kernel
theorem dX0_compareFound_8 : decode cX0_compareFound 8 = .ok (.iconst 5, 1) := by decide +kernel
theorem dX0_compareFound_9 : decode cX0_compareFound 9 = .ok (.imul, 1) := by decide +kernel
theorem dX0_compareFound_10 : decode cX0_compareFound 10 = .ok (.iload_n 3, 1) := by decide +kernel
theorem dX0_compareFound_11 : decode cX0_compareFound 11 = .ok (.iadd, 1) := by decide +kernel
theorem dX0_compareFound_12 : decode cX0_compareFound 12 = .ok (.istore 4, 2) := by decide +kernel
theorem dX0_compareFound_14 : decode cX0_compareFound 14 = .ok (.iload_n 2, 1) := by decide +kernel
theorem dX0_compareFound_15 : decode cX0_compareFound 15 = .ok (.iconst 5, 1) := by decide +kernel
theorem dX0_compareFound_16 : decode cX0_compareFound 16 = .ok (.imul, 1) := by decide +kernel
theorem dX0_compareFound_17 : decode cX0_compareFound 17 = .ok (.iload_n 3, 1) := by decide +kernel
theorem dX0_compareFound_18 : decode cX0_compareFound 18 = .ok (.iadd, 1) := by decide +kernel
theorem dX0_compareFound_19 : decode cX0_compareFound 19 = .ok (.istore 5, 2) := by decide +kernel
theorem dX0_compareFound_21 : decode cX0_compareFound 21 = .ok (.iload 4, 2) := by decide +kernel
theorem dX0_compareFound_23 : decode cX0_compareFound 23 = .ok (.ifCond .lt 67, 3) := by decide +kernel
theorem dX0_compareFound_26 : decode cX0_compareFound 26 = .ok (.iload 5, 2) := by decide +kernel
theorem dX0_compareFound_28 : decode cX0_compareFound 28 = .ok (.ifCond .lt 62, 3) := by decide +kernel
theorem dX0_compareFound_31 : decode cX0_compareFound 31 = .ok (.iload 4, 2) := by decide +kernel
theorem dX0_compareFound_33 : decode cX0_compareFound 33 = .ok (.aload_n 0, 1) := by decide +kernel
theorem dX0_compareFound_34 : decode cX0_compareFound 34 = .ok (.getfield 47, 3) := by decide +kernel
theorem dX0_compareFound_37 : decode cX0_compareFound 37 = .ok (.arraylength, 1) := by decide +kernel
theorem dX0_compareFound_38 : decode cX0_compareFound 38 = .ok (.if_icmp .ge 52, 3) := by decide +kernel
theorem dX0_compareFound_41 : decode cX0_compareFound 41 = .ok (.iload 5, 2) := by decide +kernel
theorem dX0_compareFound_43 : decode cX0_compareFound 43 = .ok (.aload_n 0, 1) := by decide +kernel
theorem dX0_compareFound_44 : decode cX0_compareFound 44 = .ok (.getfield 47, 3) := by decide +kernel
theorem dX0_compareFound_47 : decode cX0_compareFound 47 = .ok (.arraylength, 1) := by decide +kernel
theorem dX0_compareFound_48 : decode cX0_compareFound 48 = .ok (.if_icmp .ge 42, 3) := by decide +kernel
theorem dX0_compareFound_51 : decode cX0_compareFound 51 = .ok (.aload_n 0, 1) := by decide +kernel
theorem dX0_compareFound_52 : decode cX0_compareFound 52 = .ok (.getfield 47, 3) := by decide +kernel
theorem dX0_compareFound_55 : decode cX0_compareFound 55 = .ok (.iload 4, 2) := by decide +kernel
theorem dX0_compareFound_57 : decode cX0_compareFound 57 = .ok (.iaload, 1) := by decide +kernel
theorem dX0_compareFound_58 : decode cX0_compareFound 58 = .ok (.aload_n 0, 1) := by decide +kernel
theorem dX0_compareFound_59 : decode cX0_compareFound 59 = .ok (.getfield 47, 3) := by decide +kernel
theorem dX0_compareFound_62 : decode cX0_compareFound 62 = .ok (.iload 5, 2) := by decide +kernel
theorem dX0_compareFound_64 : decode cX0_compareFound 64 = .ok (.iaload, 1) := by decide +kernel
theorem dX0_compareFound_65 : decode cX0_compareFound 65 = .ok (.if_icmp .eq 25, 3) := by decide +kernel
theorem dX0_compareFound_68 : decode cX0_compareFound 68 = .ok (.aload_n 0, 1) := by decide +kernel
theorem dX0_compareFound_69 : decode cX0_compareFound 69 = .ok (.getfield 53, 3) := by decide +kernel
theorem dX0_compareFound_72 : decode cX0_compareFound 72 = .ok (.aload_n 0, 1) := by decide +kernel
theorem dX0_compareFound_73 : decode cX0_compareFound 73 = .ok (.getfield 47, 3) := by decide +kernel
theorem dX0_compareFound_76 : decode cX0_compareFound 76 = .ok (.iload 4, 2) := by decide +kernel
theorem dX0_compareFound_78 : decode cX0_compareFound 78 = .ok (.iaload, 1) := by decide +kernel
theorem dX0_compareFound_79 : decode cX0_compareFound 79 = .ok (.aload_n 0, 1) := by decide +kernel
theorem dX0_compareFound_80 : decode cX0_compareFound 80 = .ok (.getfield 47, 3) := by decide +kernel
theorem dX0_compareFound_83 : decode cX0_compareFound 83 = .ok (.iload 5, 2) := by decide +kernel
theorem dX0_compareFound_85 : decode cX0_compareFound 85 = .ok (.iaload, 1) := by decide +kernel
theorem dX0_compareFound_86 : decode cX0_compareFound 86 = .ok (.invokevirtual 208, 3) := by decide +kernel
theorem dX0_compareFound_89 : decode cX0_compareFound 89 = .ok (.ireturn, 1) := by decide +kernel
theorem dX0_compareFound_90 : decode cX0_compareFound 90 = .ok (.iinc 3 1, 3) := by decide +kernel
theorem dX0_compareFound_93 : decode cX0_compareFound 93 = .ok (.goto (-91), 3) := by decide +kernel
theorem dX0_compareFound_96 : decode cX0_compareFound 96 = .ok (.iconst 0, 1) := by decide +kernel
theorem dX0_compareFound_97 : decode cX0_compareFound 97 = .ok (.ireturn, 1) := by decide +kernel

theorem dX7_init_0 : decode cX7_init 0 = .ok (.aload_n 0, 1) := by decide +kernel
theorem dX7_init_1 : decode cX7_init 1 = .ok (.invokespecial 3, 3) := by decide +kernel
theorem dX7_init_4 : decode cX7_init 4 = .ok (.aload_n 0, 1) := by decide +kernel
theorem dX7_init_5 : decode cX7_init 5 = .ok (.new 9, 3) := by decide +kernel
theorem dX7_init_8 : decode cX7_init 8 = .ok (.dup, 1) := by decide +kernel
theorem dX7_init_9 : decode cX7_init 9 = .ok (.sipush 201, 3) := by decide +kernel
theorem dX7_init_12 : decode cX7_init 12 = .ok (.invokespecial 11, 3) := by decide +kernel
theorem dX7_init_15 : decode cX7_init 15 = .ok (.putfield 14, 3) := by decide +kernel
theorem dX7_init_18 : decode cX7_init 18 = .ok (.aload_n 0, 1) := by decide +kernel
theorem dX7_init_19 : decode cX7_init 19 = .ok (.sipush 201, 3) := by decide +kernel
theorem dX7_init_22 : decode cX7_init 22 = .ok (.newarray .int, 2) := by decide +kernel
theorem dX7_init_24 : decode cX7_init 24 = .ok (.putfield 20, 3) := by decide +kernel
theorem dX7_init_27 : decode cX7_init 27 = .ok (.aload_n 0, 1) := by decide +kernel
theorem dX7_init_28 : decode cX7_init 28 = .ok (.sipush 201, 3) := by decide +kernel
theorem dX7_init_31 : decode cX7_init 31 = .ok (.newarray .int, 2) := by decide +kernel
theorem dX7_init_33 : decode cX7_init 33 = .ok (.putfield 24, 3) := by decide +kernel
theorem dX7_init_36 : decode cX7_init 36 = .ok (.aload_n 0, 1) := by decide +kernel
theorem dX7_init_37 : decode cX7_init 37 = .ok (.sipush 201, 3) := by decide +kernel
theorem dX7_init_40 : decode cX7_init 40 = .ok (.newarray .int, 2) := by decide +kernel
theorem dX7_init_42 : decode cX7_init 42 = .ok (.putfield 27, 3) := by decide +kernel
theorem dX7_init_45 : decode cX7_init 45 = .ok (.aload_n 0, 1) := by decide +kernel
theorem dX7_init_46 : decode cX7_init 46 = .ok (.bipush 8, 2) := by decide +kernel
theorem dX7_init_48 : decode cX7_init 48 = .ok (.newarray .int, 2) := by decide +kernel
theorem dX7_init_50 : decode cX7_init 50 = .ok (.putfield 30, 3) := by decide +kernel
theorem dX7_init_53 : decode cX7_init 53 = .ok (.aload_n 0, 1) := by decide +kernel
theorem dX7_init_54 : decode cX7_init 54 = .ok (.bipush 8, 2) := by decide +kernel
theorem dX7_init_56 : decode cX7_init 56 = .ok (.newarray .int, 2) := by decide +kernel
theorem dX7_init_58 : decode cX7_init 58 = .ok (.putfield 33, 3) := by decide +kernel
theorem dX7_init_61 : decode cX7_init 61 = .ok (.aload_n 0, 1) := by decide +kernel
theorem dX7_init_62 : decode cX7_init 62 = .ok (.bipush 20, 2) := by decide +kernel
theorem dX7_init_64 : decode cX7_init 64 = .ok (.newarray .int, 2) := by decide +kernel
theorem dX7_init_66 : decode cX7_init 66 = .ok (.putfield 36, 3) := by decide +kernel
theorem dX7_init_69 : decode cX7_init 69 = .ok (.aload_n 0, 1) := by decide +kernel
theorem dX7_init_70 : decode cX7_init 70 = .ok (.bipush 20, 2) := by decide +kernel
theorem dX7_init_72 : decode cX7_init 72 = .ok (.newarray .int, 2) := by decide +kernel
theorem dX7_init_74 : decode cX7_init 74 = .ok (.putfield 39, 3) := by decide +kernel
theorem dX7_init_77 : decode cX7_init 77 = .ok (.aload_n 0, 1) := by decide +kernel
theorem dX7_init_78 : decode cX7_init 78 = .ok (.bipush 20, 2) := by decide +kernel
theorem dX7_init_80 : decode cX7_init 80 = .ok (.newarray .int, 2) := by decide +kernel
theorem dX7_init_82 : decode cX7_init 82 = .ok (.putfield 42, 3) := by decide +kernel
theorem dX7_init_85 : decode cX7_init 85 = .ok (.aload_n 0, 1) := by decide +kernel
