theorem dX2_nth_26 : decode cX2_nth 26 = .ok (.lload_n 2, 1) := by decide +kernel
theorem dX2_nth_27 : decode cX2_nth 27 = .ok (.invokevirtual 61, 3) := by decide +kernel
theorem dX2_nth_30 : decode cX2_nth 30 = .ok (.iload_n 1, 1) := by decide +kernel
theorem dX2_nth_31 : decode cX2_nth 31 = .ok (.if_icmp .ne 6, 3) := by decide +kernel
theorem dX2_nth_34 : decode cX2_nth 34 = .ok (.iload 4, 2) := by decide +kernel
theorem dX2_nth_36 : decode cX2_nth 36 = .ok (.ireturn, 1) := by decide +kernel
theorem dX2_nth_37 : decode cX2_nth 37 = .ok (.iinc 4 1, 3) := by decide +kernel
theorem dX2_nth_40 : decode cX2_nth 40 = .ok (.goto (-37), 3) := by decide +kernel
theorem dX2_nth_43 : decode cX2_nth 43 = .ok (.iconst (-1), 1) := by decide +kernel
theorem dX2_nth_44 : decode cX2_nth 44 = .ok (.ireturn, 1) := by decide +kernel
theorem dX2_ahead_0 : decode cX2_ahead 0 = .ok (.iconst 0, 1) := by decide +kernel
theorem dX2_ahead_1 : decode cX2_ahead 1 = .ok (.istore 4, 2) := by decide +kernel
theorem dX2_ahead_3 : decode cX2_ahead 3 = .ok (.iconst 0, 1) := by decide +kernel
theorem dX2_ahead_4 : decode cX2_ahead 4 = .ok (.istore 5, 2) := by decide +kernel
theorem dX2_ahead_6 : decode cX2_ahead 6 = .ok (.iload 5, 2) := by decide +kernel
theorem dX2_ahead_8 : decode cX2_ahead 8 = .ok (.aload_n 0, 1) := by decide +kernel
theorem dX2_ahead_9 : decode cX2_ahead 9 = .ok (.getfield 30, 3) := by decide +kernel
theorem dX2_ahead_12 : decode cX2_ahead 12 = .ok (.if_icmp .ge 34, 3) := by decide +kernel
theorem dX2_ahead_15 : decode cX2_ahead 15 = .ok (.lload_n 2, 1) := by decide +kernel
theorem dX2_ahead_16 : decode cX2_ahead 16 = .ok (.iload 5, 2) := by decide +kernel
theorem dX2_ahead_18 : decode cX2_ahead 18 = .ok (.lshr, 1) := by decide +kernel
theorem dX2_ahead_19 : decode cX2_ahead 19 = .ok (.lconst 1, 1) := by decide +kernel
theorem dX2_ahead_20 : decode cX2_ahead 20 = .ok (.land, 1) := by decide +kernel
theorem dX2_ahead_21 : decode cX2_ahead 21 = .ok (.lconst 0, 1) := by decide +kernel
theorem dX2_ahead_22 : decode cX2_ahead 22 = .ok (.lcmp, 1) := by decide +kernel
theorem dX2_ahead_23 : decode cX2_ahead 23 = .ok (.ifCond .eq 17, 3) := by decide +kernel
theorem dX2_ahead_26 : decode cX2_ahead 26 = .ok (.aload_n 0, 1) := by decide +kernel
theorem dX2_ahead_27 : decode cX2_ahead 27 = .ok (.iload 5, 2) := by decide +kernel
theorem dX2_ahead_29 : decode cX2_ahead 29 = .ok (.aload_n 0, 1) := by decide +kernel
theorem dX2_ahead_30 : decode cX2_ahead 30 = .ok (.iload_n 1, 1) := by decide +kernel
theorem dX2_ahead_31 : decode cX2_ahead 31 = .ok (.invokevirtual 58, 3) := by decide +kernel
theorem dX2_ahead_34 : decode cX2_ahead 34 = .ok (.ifCond .ge 6, 3) := by decide +kernel
theorem dX2_ahead_37 : decode cX2_ahead 37 = .ok (.iinc 4 1, 3) := by decide +kernel
theorem dX2_ahead_40 : decode cX2_ahead 40 = .ok (.iinc 5 1, 3) := by decide +kernel
theorem dX2_ahead_43 : decode cX2_ahead 43 = .ok (.goto (-37), 3) := by decide +kernel
theorem dX2_ahead_46 : decode cX2_ahead 46 = .ok (.iload 4, 2) := by decide +kernel
theorem dX2_ahead_48 : decode cX2_ahead 48 = .ok (.ireturn, 1) := by decide +kernel
theorem dX2_spanAt_0 : decode cX2_spanAt 0 = .ok (.iconst 1, 1) := by decide +kernel
theorem dX2_spanAt_1 : decode cX2_spanAt 1 = .ok (.istore_n 3, 1) := by decide +kernel
theorem dX2_spanAt_2 : decode cX2_spanAt 2 = .ok (.iload_n 2, 1) := by decide +kernel
theorem dX2_spanAt_3 : decode cX2_spanAt 3 = .ok (.istore 4, 2) := by decide +kernel
theorem dX2_spanAt_5 : decode cX2_spanAt 5 = .ok (.aload_n 0, 1) := by decide +kernel
theorem dX2_spanAt_6 : decode cX2_spanAt 6 = .ok (.iload_n 1, 1) := by decide +kernel
theorem dX2_spanAt_7 : decode cX2_spanAt 7 = .ok (.invokevirtual 34, 3) := by decide +kernel
theorem dX2_spanAt_10 : decode cX2_spanAt 10 = .ok (.istore 5, 2) := by decide +kernel
theorem dX2_spanAt_12 : decode cX2_spanAt 12 = .ok (.iload_n 3, 1) := by decide +kernel
theorem dX2_spanAt_13 : decode cX2_spanAt 13 = .ok (.ifCond .le 31, 3) := by decide +kernel
theorem dX2_spanAt_16 : decode cX2_spanAt 16 = .ok (.iload 4, 2) := by decide +kernel
theorem dX2_spanAt_18 : decode cX2_spanAt 18 = .ok (.iload 5, 2) := by decide +kernel
theorem dX2_spanAt_20 : decode cX2_spanAt 20 = .ok (.if_icmp .ge 24, 3) := by decide +kernel
theorem dX2_spanAt_23 : decode cX2_spanAt 23 = .ok (.iload_n 3, 1) := by decide +kernel
theorem dX2_spanAt_24 : decode cX2_spanAt 24 = .ok (.aload_n 0, 1) := by decide +kernel
theorem dX2_spanAt_25 : decode cX2_spanAt 25 = .ok (.iload_n 1, 1) := by decide +kernel
theorem dX2_spanAt_26 : decode cX2_spanAt 26 = .ok (.iload 4, 2) := by decide +kernel
theorem dX2_spanAt_28 : decode cX2_spanAt 28 = .ok (.invokevirtual 46, 3) := by decide +kernel
theorem dX2_spanAt_31 : decode cX2_spanAt 31 = .ok (.invokestatic 65, 3) := by decide +kernel
theorem dX2_spanAt_34 : decode cX2_spanAt 34 = .ok (.iconst 1, 1) := by decide +kernel
theorem dX2_spanAt_35 : decode cX2_spanAt 35 = .ok (.isub, 1) := by decide +kernel
theorem dX2_spanAt_36 : decode cX2_spanAt 36 = .ok (.iadd, 1) := by decide +kernel
theorem dX2_spanAt_37 : decode cX2_spanAt 37 = .ok (.istore_n 3, 1) := by decide +kernel
theorem dX2_spanAt_38 : decode cX2_spanAt 38 = .ok (.iinc 4 1, 3) := by decide +kernel
theorem dX2_spanAt_41 : decode cX2_spanAt 41 = .ok (.goto (-29), 3) := by decide +kernel
theorem dX2_spanAt_44 : decode cX2_spanAt 44 = .ok (.iload 4, 2) := by decide +kernel
theorem dX2_spanAt_46 : decode cX2_spanAt 46 = .ok (.iload_n 2, 1) := by decide +kernel
theorem dX2_spanAt_47 : decode cX2_spanAt 47 = .ok (.isub, 1) := by decide +kernel
theorem dX2_spanAt_48 : decode cX2_spanAt 48 = .ok (.ireturn, 1) := by decide +kernel
theorem dX2_depthOf_0 : decode cX2_depthOf 0 = .ok (.iconst 0, 1) := by decide +kernel
theorem dX2_depthOf_1 : decode cX2_depthOf 1 = .ok (.istore_n 2, 1) := by decide +kernel
theorem dX2_depthOf_2 : decode cX2_depthOf 2 = .ok (.iconst 0, 1) := by decide +kernel
theorem dX2_depthOf_3 : decode cX2_depthOf 3 = .ok (.istore_n 3, 1) := by decide +kernel
theorem dX2_depthOf_4 : decode cX2_depthOf 4 = .ok (.aload_n 0, 1) := by decide +kernel
theorem dX2_depthOf_5 : decode cX2_depthOf 5 = .ok (.iload_n 1, 1) := by decide +kernel
theorem dX2_depthOf_6 : decode cX2_depthOf 6 = .ok (.invokevirtual 34, 3) := by decide +kernel
theorem dX2_depthOf_9 : decode cX2_depthOf 9 = .ok (.istore 4, 2) := by decide +kernel
theorem dX2_depthOf_11 : decode cX2_depthOf 11 = .ok (.iconst 0, 1) := by decide +kernel
theorem dX2_depthOf_12 : decode cX2_depthOf 12 = .ok (.istore 5, 2) := by decide +kernel
theorem dX2_depthOf_14 : decode cX2_depthOf 14 = .ok (.iload 5, 2) := by decide +kernel
theorem dX2_depthOf_16 : decode cX2_depthOf 16 = .ok (.iload 4, 2) := by decide +kernel
theorem dX2_depthOf_18 : decode cX2_depthOf 18 = .ok (.if_icmp .ge 58, 3) := by decide +kernel
theorem dX2_depthOf_21 : decode cX2_depthOf 21 = .ok (.iload_n 2, 1) := by decide +kernel
theorem dX2_depthOf_22 : decode cX2_depthOf 22 = .ok (.iload_n 3, 1) := by decide +kernel
theorem dX2_depthOf_23 : decode cX2_depthOf 23 = .ok (.invokestatic 15, 3) := by decide +kernel
theorem dX2_depthOf_26 : decode cX2_depthOf 26 = .ok (.istore_n 2, 1) := by decide +kernel
theorem dX2_depthOf_27 : decode cX2_depthOf 27 = .ok (.aload_n 0, 1) := by decide +kernel
theorem dX2_depthOf_28 : decode cX2_depthOf 28 = .ok (.iload_n 1, 1) := by decide +kernel
theorem dX2_depthOf_29 : decode cX2_depthOf 29 = .ok (.iload 5, 2) := by decide +kernel
theorem dX2_depthOf_31 : decode cX2_depthOf 31 = .ok (.invokevirtual 46, 3) := by decide +kernel
theorem dX2_depthOf_34 : decode cX2_depthOf 34 = .ok (.invokestatic 65, 3) := by decide +kernel
theorem dX2_depthOf_37 : decode cX2_depthOf 37 = .ok (.istore 6, 2) := by decide +kernel
theorem dX2_depthOf_39 : decode cX2_depthOf 39 = .ok (.iload 6, 2) := by decide +kernel
theorem dX2_depthOf_41 : decode cX2_depthOf 41 = .ok (.ifCond .le 23, 3) := by decide +kernel
theorem dX2_depthOf_44 : decode cX2_depthOf 44 = .ok (.iload_n 3, 1) := by decide +kernel
theorem dX2_depthOf_45 : decode cX2_depthOf 45 = .ok (.bipush 20, 2) := by decide +kernel
theorem dX2_depthOf_47 : decode cX2_depthOf 47 = .ok (.if_icmp .ge 17, 3) := by decide +kernel
theorem dX2_depthOf_50 : decode cX2_depthOf 50 = .ok (.iinc 3 1, 3) := by decide +kernel
theorem dX2_depthOf_53 : decode cX2_depthOf 53 = .ok (.aload_n 0, 1) := by decide +kernel
theorem dX2_depthOf_54 : decode cX2_depthOf 54 = .ok (.getfield 27, 3) := by decide +kernel
theorem dX2_depthOf_57 : decode cX2_depthOf 57 = .ok (.iload_n 3, 1) := by decide +kernel
theorem dX2_depthOf_58 : decode cX2_depthOf 58 = .ok (.iload 6, 2) := by decide +kernel
theorem dX2_depthOf_60 : decode cX2_depthOf 60 = .ok (.iastore, 1) := by decide +kernel
theorem dX2_depthOf_61 : decode cX2_depthOf 61 = .ok (.goto 9, 3) := by decide +kernel
theorem dX2_depthOf_64 : decode cX2_depthOf 64 = .ok (.aload_n 0, 1) := by decide +kernel
theorem dX2_depthOf_65 : decode cX2_depthOf 65 = .ok (.iload_n 3, 1) := by decide +kernel
theorem dX2_depthOf_66 : decode cX2_depthOf 66 = .ok (.invokevirtual 68, 3) := by decide +kernel
theorem dX2_depthOf_69 : decode cX2_depthOf 69 = .ok (.istore_n 3, 1) := by decide +kernel
theorem dX2_depthOf_70 : decode cX2_depthOf 70 = .ok (.iinc 5 1, 3) := by decide +kernel
theorem dX2_depthOf_73 : decode cX2_depthOf 73 = .ok (.goto (-59), 3) := by decide +kernel
theorem dX2_depthOf_76 : decode cX2_depthOf 76 = .ok (.iload_n 2, 1) := by decide +kernel
theorem dX2_depthOf_77 : decode cX2_depthOf 77 = .ok (.ireturn, 1) := by decide +kernel
theorem dX2_leave_0 : decode cX2_leave 0 = .ok (.iload_n 1, 1) := by decide +kernel
theorem dX2_leave_1 : decode cX2_leave 1 = .ok (.istore_n 2, 1) := by decide +kernel
theorem dX2_leave_2 : decode cX2_leave 2 = .ok (.iload_n 2, 1) := by decide +kernel
theorem dX2_leave_3 : decode cX2_leave 3 = .ok (.ifCond .le 37, 3) := by decide +kernel
theorem dX2_leave_6 : decode cX2_leave 6 = .ok (.iload_n 2, 1) := by decide +kernel
theorem dX2_leave_7 : decode cX2_leave 7 = .ok (.bipush 20, 2) := by decide +kernel
theorem dX2_leave_9 : decode cX2_leave 9 = .ok (.if_icmp .gt 31, 3) := by decide +kernel
theorem dX2_leave_12 : decode cX2_leave 12 = .ok (.aload_n 0, 1) := by decide +kernel
theorem dX2_leave_13 : decode cX2_leave 13 = .ok (.getfield 27, 3) := by decide +kernel
theorem dX2_leave_16 : decode cX2_leave 16 = .ok (.iload_n 2, 1) := by decide +kernel
theorem dX2_leave_17 : decode cX2_leave 17 = .ok (.dup2, 1) := by decide +kernel
theorem dX2_leave_18 : decode cX2_leave 18 = .ok (.iaload, 1) := by decide +kernel
theorem dX2_leave_19 : decode cX2_leave 19 = .ok (.iconst 1, 1) := by decide +kernel
theorem dX2_leave_20 : decode cX2_leave 20 = .ok (.isub, 1) := by decide +kernel
theorem dX2_leave_21 : decode cX2_leave 21 = .ok (.iastore, 1) := by decide +kernel
theorem dX2_leave_22 : decode cX2_leave 22 = .ok (.aload_n 0, 1) := by decide +kernel
theorem dX2_leave_23 : decode cX2_leave 23 = .ok (.getfield 27, 3) := by decide +kernel
theorem dX2_leave_26 : decode cX2_leave 26 = .ok (.iload_n 2, 1) := by decide +kernel
theorem dX2_leave_27 : decode cX2_leave 27 = .ok (.iaload, 1) := by decide +kernel
theorem dX2_leave_28 : decode cX2_leave 28 = .ok (.ifCond .le 6, 3) := by decide +kernel
theorem dX2_leave_31 : decode cX2_leave 31 = .ok (.goto 9, 3) := by decide +kernel
theorem dX2_leave_34 : decode cX2_leave 34 = .ok (.iinc 2 (-1), 3) := by decide +kernel
theorem dX2_leave_37 : decode cX2_leave 37 = .ok (.goto (-35), 3) := by decide +kernel
theorem dX2_leave_40 : decode cX2_leave 40 = .ok (.iload_n 2, 1) := by decide +kernel
theorem dX2_leave_41 : decode cX2_leave 41 = .ok (.ireturn, 1) := by decide +kernel
theorem dX2_variablesIn_0 : decode cX2_variablesIn 0 = .ok (.iconst 0, 1) := by decide +kernel
theorem dX2_variablesIn_1 : decode cX2_variablesIn 1 = .ok (.istore_n 2, 1) := by decide +kernel
theorem dX2_variablesIn_2 : decode cX2_variablesIn 2 = .ok (.iconst 0, 1) := by decide +kernel
theorem dX2_variablesIn_3 : decode cX2_variablesIn 3 = .ok (.istore_n 3, 1) := by decide +kernel
theorem dX2_variablesIn_4 : decode cX2_variablesIn 4 = .ok (.iload_n 3, 1) := by decide +kernel
theorem dX2_variablesIn_5 : decode cX2_variablesIn 5 = .ok (.aload_n 0, 1) := by decide +kernel
theorem dX2_variablesIn_6 : decode cX2_variablesIn 6 = .ok (.iload_n 1, 1) := by decide +kernel
theorem dX2_variablesIn_7 : decode cX2_variablesIn 7 = .ok (.invokevirtual 34, 3) := by decide +kernel
theorem dX2_variablesIn_10 : decode cX2_variablesIn 10 = .ok (.if_icmp .ge 35, 3) := by decide +kernel
theorem dX2_variablesIn_13 : decode cX2_variablesIn 13 = .ok (.aload_n 0, 1) := by decide +kernel
theorem dX2_variablesIn_14 : decode cX2_variablesIn 14 = .ok (.iload_n 1, 1) := by decide +kernel
theorem dX2_variablesIn_15 : decode cX2_variablesIn 15 = .ok (.iload_n 3, 1) := by decide +kernel
theorem dX2_variablesIn_16 : decode cX2_variablesIn 16 = .ok (.invokevirtual 46, 3) := by decide +kernel
theorem dX2_variablesIn_19 : decode cX2_variablesIn 19 = .ok (.istore 4, 2) := by decide +kernel
theorem dX2_variablesIn_21 : decode cX2_variablesIn 21 = .ok (.iload_n 2, 1) := by decide +kernel
theorem dX2_variablesIn_22 : decode cX2_variablesIn 22 = .ok (.iload 4, 2) := by decide +kernel
theorem dX2_variablesIn_24 : decode cX2_variablesIn 24 = .ok (.bipush 8, 2) := by decide +kernel
theorem dX2_variablesIn_26 : decode cX2_variablesIn 26 = .ok (.if_icmp .ge 10, 3) := by decide +kernel
theorem dX2_variablesIn_29 : decode cX2_variablesIn 29 = .ok (.iconst 1, 1) := by decide +kernel
theorem dX2_variablesIn_30 : decode cX2_variablesIn 30 = .ok (.iload 4, 2) := by decide +kernel
theorem dX2_variablesIn_32 : decode cX2_variablesIn 32 = .ok (.ishl, 1) := by decide +kernel
theorem dX2_variablesIn_33 : decode cX2_variablesIn 33 = .ok (.goto 4, 3) := by decide +kernel
theorem dX2_variablesIn_36 : decode cX2_variablesIn 36 = .ok (.iconst 0, 1) := by decide +kernel
theorem dX2_variablesIn_37 : decode cX2_variablesIn 37 = .ok (.ior, 1) := by decide +kernel
theorem dX2_variablesIn_38 : decode cX2_variablesIn 38 = .ok (.istore_n 2, 1) := by decide +kernel
theorem dX2_variablesIn_39 : decode cX2_variablesIn 39 = .ok (.iinc 3 1, 3) := by decide +kernel
theorem dX2_variablesIn_42 : decode cX2_variablesIn 42 = .ok (.goto (-38), 3) := by decide +kernel
theorem dX2_variablesIn_45 : decode cX2_variablesIn 45 = .ok (.iload_n 2, 1) := by decide +kernel
theorem dX2_variablesIn_46 : decode cX2_variablesIn 46 = .ok (.ireturn, 1) := by decide +kernel
theorem dX2_timesOfVariables_0 : decode cX2_timesOfVariables 0 = .ok (.iconst 0, 1) := by decide +kernel
theorem dX2_timesOfVariables_1 : decode cX2_timesOfVariables 1 = .ok (.istore_n 2, 1) := by decide +kernel
theorem dX2_timesOfVariables_2 : decode cX2_timesOfVariables 2 = .ok (.iconst 0, 1) := by decide +kernel
theorem dX2_timesOfVariables_3 : decode cX2_timesOfVariables 3 = .ok (.istore_n 3, 1) := by decide +kernel
theorem dX2_timesOfVariables_4 : decode cX2_timesOfVariables 4 = .ok (.iload_n 3, 1) := by decide +kernel
theorem dX2_timesOfVariables_5 : decode cX2_timesOfVariables 5 = .ok (.aload_n 0, 1) := by decide +kernel
theorem dX2_timesOfVariables_6 : decode cX2_timesOfVariables 6 = .ok (.iload_n 1, 1) := by decide +kernel
theorem dX2_timesOfVariables_7 : decode cX2_timesOfVariables 7 = .ok (.invokevirtual 34, 3) := by decide +kernel
theorem dX2_timesOfVariables_10 : decode cX2_timesOfVariables 10 = .ok (.if_icmp .ge 28, 3) := by decide +kernel
theorem dX2_timesOfVariables_13 : decode cX2_timesOfVariables 13 = .ok (.iload_n 2, 1) := by decide +kernel
theorem dX2_timesOfVariables_14 : decode cX2_timesOfVariables 14 = .ok (.aload_n 0, 1) := by decide +kernel
theorem dX2_timesOfVariables_15 : decode cX2_timesOfVariables 15 = .ok (.iload_n 1, 1) := by decide +kernel
theorem dX2_timesOfVariables_16 : decode cX2_timesOfVariables 16 = .ok (.iload_n 3, 1) := by decide +kernel
theorem dX2_timesOfVariables_17 : decode cX2_timesOfVariables 17 = .ok (.invokevirtual 46, 3) := by decide +kernel
theorem dX2_timesOfVariables_20 : decode cX2_timesOfVariables 20 = .ok (.bipush 8, 2) := by decide +kernel
theorem dX2_timesOfVariables_22 : decode cX2_timesOfVariables 22 = .ok (.if_icmp .ge 7, 3) := by decide +kernel
theorem dX2_timesOfVariables_25 : decode cX2_timesOfVariables 25 = .ok (.iconst 1, 1) := by decide +kernel
theorem dX2_timesOfVariables_26 : decode cX2_timesOfVariables 26 = .ok (.goto 4, 3) := by decide +kernel
theorem dX2_timesOfVariables_29 : decode cX2_timesOfVariables 29 = .ok (.iconst 0, 1) := by decide +kernel
theorem dX2_timesOfVariables_30 : decode cX2_timesOfVariables 30 = .ok (.iadd, 1) := by decide +kernel
theorem dX2_timesOfVariables_31 : decode cX2_timesOfVariables 31 = .ok (.istore_n 2, 1) := by decide +kernel
theorem dX2_timesOfVariables_32 : decode cX2_timesOfVariables 32 = .ok (.iinc 3 1, 3) := by decide +kernel
theorem dX2_timesOfVariables_35 : decode cX2_timesOfVariables 35 = .ok (.goto (-31), 3) := by decide +kernel
theorem dX2_timesOfVariables_38 : decode cX2_timesOfVariables 38 = .ok (.iload_n 2, 1) := by decide +kernel
theorem dX2_timesOfVariables_39 : decode cX2_timesOfVariables 39 = .ok (.ireturn, 1) := by decide +kernel
theorem dX2_operatorsIn_0 : decode cX2_operatorsIn 0 = .ok (.iconst 0, 1) := by decide +kernel
theorem dX2_operatorsIn_1 : decode cX2_operatorsIn 1 = .ok (.istore_n 2, 1) := by decide +kernel
theorem dX2_operatorsIn_2 : decode cX2_operatorsIn 2 = .ok (.iconst 0, 1) := by decide +kernel
theorem dX2_operatorsIn_3 : decode cX2_operatorsIn 3 = .ok (.istore_n 3, 1) := by decide +kernel
theorem dX2_operatorsIn_4 : decode cX2_operatorsIn 4 = .ok (.iload_n 3, 1) := by decide +kernel
theorem dX2_operatorsIn_5 : decode cX2_operatorsIn 5 = .ok (.aload_n 0, 1) := by decide +kernel
theorem dX2_operatorsIn_6 : decode cX2_operatorsIn 6 = .ok (.iload_n 1, 1) := by decide +kernel
theorem dX2_operatorsIn_7 : decode cX2_operatorsIn 7 = .ok (.invokevirtual 34, 3) := by decide +kernel
theorem dX2_operatorsIn_10 : decode cX2_operatorsIn 10 = .ok (.if_icmp .ge 38, 3) := by decide +kernel
theorem dX2_operatorsIn_13 : decode cX2_operatorsIn 13 = .ok (.aload_n 0, 1) := by decide +kernel
theorem dX2_operatorsIn_14 : decode cX2_operatorsIn 14 = .ok (.iload_n 1, 1) := by decide +kernel
theorem dX2_operatorsIn_15 : decode cX2_operatorsIn 15 = .ok (.iload_n 3, 1) := by decide +kernel
theorem dX2_operatorsIn_16 : decode cX2_operatorsIn 16 = .ok (.invokevirtual 46, 3) := by decide +kernel
theorem dX2_operatorsIn_19 : decode cX2_operatorsIn 19 = .ok (.istore 4, 2) := by decide +kernel
theorem dX2_operatorsIn_21 : decode cX2_operatorsIn 21 = .ok (.iload_n 2, 1) := by decide +kernel
theorem dX2_operatorsIn_22 : decode cX2_operatorsIn 22 = .ok (.iload 4, 2) := by decide +kernel
theorem dX2_operatorsIn_24 : decode cX2_operatorsIn 24 = .ok (.bipush 8, 2) := by decide +kernel
theorem dX2_operatorsIn_26 : decode cX2_operatorsIn 26 = .ok (.if_icmp .ge 7, 3) := by decide +kernel
theorem dX2_operatorsIn_29 : decode cX2_operatorsIn 29 = .ok (.iconst 0, 1) := by decide +kernel
theorem dX2_operatorsIn_30 : decode cX2_operatorsIn 30 = .ok (.goto 10, 3) := by decide +kernel
theorem dX2_operatorsIn_33 : decode cX2_operatorsIn 33 = .ok (.iconst 1, 1) := by decide +kernel
theorem dX2_operatorsIn_34 : decode cX2_operatorsIn 34 = .ok (.iload 4, 2) := by decide +kernel
theorem dX2_operatorsIn_36 : decode cX2_operatorsIn 36 = .ok (.invokestatic 71, 3) := by decide +kernel
theorem dX2_operatorsIn_39 : decode cX2_operatorsIn 39 = .ok (.ishl, 1) := by decide +kernel
theorem dX2_operatorsIn_40 : decode cX2_operatorsIn 40 = .ok (.ior, 1) := by decide +kernel
theorem dX2_operatorsIn_41 : decode cX2_operatorsIn 41 = .ok (.istore_n 2, 1) := by decide +kernel
theorem dX2_operatorsIn_42 : decode cX2_operatorsIn 42 = .ok (.iinc 3 1, 3) := by decide +kernel
theorem dX2_operatorsIn_45 : decode cX2_operatorsIn 45 = .ok (.goto (-41), 3) := by decide +kernel
theorem dX2_operatorsIn_48 : decode cX2_operatorsIn 48 = .ok (.iload_n 2, 1) := by decide +kernel
theorem dX2_operatorsIn_49 : decode cX2_operatorsIn 49 = .ok (.ireturn, 1) := by decide +kernel
theorem dX2_partsWith_0 : decode cX2_partsWith 0 = .ok (.iconst 0, 1) := by decide +kernel
theorem dX2_partsWith_1 : decode cX2_partsWith 1 = .ok (.istore_n 3, 1) := by decide +kernel
theorem dX2_partsWith_2 : decode cX2_partsWith 2 = .ok (.iconst 1, 1) := by decide +kernel
theorem dX2_partsWith_3 : decode cX2_partsWith 3 = .ok (.istore 4, 2) := by decide +kernel
theorem dX2_partsWith_5 : decode cX2_partsWith 5 = .ok (.aload_n 0, 1) := by decide +kernel
theorem dX2_partsWith_6 : decode cX2_partsWith 6 = .ok (.iload_n 1, 1) := by decide +kernel
theorem dX2_partsWith_7 : decode cX2_partsWith 7 = .ok (.iconst 0, 1) := by decide +kernel
theorem dX2_partsWith_8 : decode cX2_partsWith 8 = .ok (.invokevirtual 46, 3) := by decide +kernel
theorem dX2_partsWith_11 : decode cX2_partsWith 11 = .ok (.invokestatic 65, 3) := by decide +kernel
theorem dX2_partsWith_14 : decode cX2_partsWith 14 = .ok (.istore 5, 2) := by decide +kernel
theorem dX2_partsWith_16 : decode cX2_partsWith 16 = .ok (.iload 5, 2) := by decide +kernel
theorem dX2_partsWith_18 : decode cX2_partsWith 18 = .ok (.ifCond .le 43, 3) := by decide +kernel
theorem dX2_partsWith_21 : decode cX2_partsWith 21 = .ok (.iload_n 3, 1) := by decide +kernel
theorem dX2_partsWith_22 : decode cX2_partsWith 22 = .ok (.aload_n 0, 1) := by decide +kernel
theorem dX2_partsWith_23 : decode cX2_partsWith 23 = .ok (.iload_n 1, 1) := by decide +kernel
theorem dX2_partsWith_24 : decode cX2_partsWith 24 = .ok (.iload 4, 2) := by decide +kernel
theorem dX2_partsWith_26 : decode cX2_partsWith 26 = .ok (.invokevirtual 46, 3) := by decide +kernel
theorem dX2_partsWith_29 : decode cX2_partsWith 29 = .ok (.invokestatic 71, 3) := by decide +kernel
theorem dX2_partsWith_32 : decode cX2_partsWith 32 = .ok (.iload_n 2, 1) := by decide +kernel
theorem dX2_partsWith_33 : decode cX2_partsWith 33 = .ok (.if_icmp .ne 7, 3) := by decide +kernel
theorem dX2_partsWith_36 : decode cX2_partsWith 36 = .ok (.iconst 1, 1) := by decide +kernel
theorem dX2_partsWith_37 : decode cX2_partsWith 37 = .ok (.goto 4, 3) := by decide +kernel
theorem dX2_partsWith_40 : decode cX2_partsWith 40 = .ok (.iconst 0, 1) := by decide +kernel
theorem dX2_partsWith_41 : decode cX2_partsWith 41 = .ok (.iadd, 1) := by decide +kernel
theorem dX2_partsWith_42 : decode cX2_partsWith 42 = .ok (.istore_n 3, 1) := by decide +kernel
theorem dX2_partsWith_43 : decode cX2_partsWith 43 = .ok (.iload 4, 2) := by decide +kernel
theorem dX2_partsWith_45 : decode cX2_partsWith 45 = .ok (.aload_n 0, 1) := by decide +kernel
theorem dX2_partsWith_46 : decode cX2_partsWith 46 = .ok (.iload_n 1, 1) := by decide +kernel
theorem dX2_partsWith_47 : decode cX2_partsWith 47 = .ok (.iload 4, 2) := by decide +kernel
theorem dX2_partsWith_49 : decode cX2_partsWith 49 = .ok (.invokevirtual 74, 3) := by decide +kernel
theorem dX2_partsWith_52 : decode cX2_partsWith 52 = .ok (.iadd, 1) := by decide +kernel
theorem dX2_partsWith_53 : decode cX2_partsWith 53 = .ok (.istore 4, 2) := by decide +kernel
theorem dX2_partsWith_55 : decode cX2_partsWith 55 = .ok (.iinc 5 (-1), 3) := by decide +kernel
theorem dX2_partsWith_58 : decode cX2_partsWith 58 = .ok (.goto (-42), 3) := by decide +kernel
theorem dX2_partsWith_61 : decode cX2_partsWith 61 = .ok (.iload_n 3, 1) := by decide +kernel
theorem dX2_partsWith_62 : decode cX2_partsWith 62 = .ok (.ireturn, 1) := by decide +kernel

theorem dX3_init_0 : decode cX3_init 0 = .ok (.aload_n 0, 1) := by decide +kernel
theorem dX3_init_1 : decode cX3_init 1 = .ok (.invokespecial 3, 3) := by decide +kernel
theorem dX3_init_4 : decode cX3_init 4 = .ok (.aload_n 0, 1) := by decide +kernel
theorem dX3_init_5 : decode cX3_init 5 = .ok (.sipush 400, 3) := by decide +kernel
theorem dX3_init_8 : decode cX3_init 8 = .ok (.newarray .int, 2) := by decide +kernel
theorem dX3_init_10 : decode cX3_init 10 = .ok (.putfield 9, 3) := by decide +kernel
theorem dX3_init_13 : decode cX3_init 13 = .ok (.return_, 1) := by decide +kernel
theorem dX3_append_0 : decode cX3_append 0 = .ok (.aload_n 0, 1) := by decide +kernel
theorem dX3_append_1 : decode cX3_append 1 = .ok (.getfield 15, 3) := by decide +kernel
theorem dX3_append_4 : decode cX3_append 4 = .ok (.sipush 380, 3) := by decide +kernel
theorem dX3_append_7 : decode cX3_append 7 = .ok (.if_icmp .le 5, 3) := by decide +kernel
theorem dX3_append_10 : decode cX3_append 10 = .ok (.iconst (-1), 1) := by decide +kernel
theorem dX3_append_11 : decode cX3_append 11 = .ok (.ireturn, 1) := by decide +kernel
theorem dX3_append_12 : decode cX3_append 12 = .ok (.aload_n 0, 1) := by decide +kernel
theorem dX3_append_13 : decode cX3_append 13 = .ok (.iload_n 1, 1) := by decide +kernel
theorem dX3_append_14 : decode cX3_append 14 = .ok (.invokevirtual 19, 3) := by decide +kernel
theorem dX3_append_17 : decode cX3_append 17 = .ok (.aload_n 0, 1) := by decide +kernel
theorem dX3_append_18 : decode cX3_append 18 = .ok (.iload_n 2, 1) := by decide +kernel
theorem dX3_append_19 : decode cX3_append 19 = .ok (.invokevirtual 19, 3) := by decide +kernel
theorem dX3_append_22 : decode cX3_append 22 = .ok (.aload_n 0, 1) := by decide +kernel
theorem dX3_append_23 : decode cX3_append 23 = .ok (.iload_n 3, 1) := by decide +kernel
theorem dX3_append_24 : decode cX3_append 24 = .ok (.invokevirtual 19, 3) := by decide +kernel
theorem dX3_append_27 : decode cX3_append 27 = .ok (.aload_n 0, 1) := by decide +kernel
theorem dX3_append_28 : decode cX3_append 28 = .ok (.iload 4, 2) := by decide +kernel
theorem dX3_append_30 : decode cX3_append 30 = .ok (.invokevirtual 19, 3) := by decide +kernel
theorem dX3_append_33 : decode cX3_append 33 = .ok (.aload_n 0, 1) := by decide +kernel
theorem dX3_append_34 : decode cX3_append 34 = .ok (.iload 5, 2) := by decide +kernel
theorem dX3_append_36 : decode cX3_append 36 = .ok (.invokevirtual 19, 3) := by decide +kernel
theorem dX3_append_39 : decode cX3_append 39 = .ok (.aload_n 0, 1) := by decide +kernel
theorem dX3_append_40 : decode cX3_append 40 = .ok (.getfield 15, 3) := by decide +kernel
theorem dX3_append_43 : decode cX3_append 43 = .ok (.ireturn, 1) := by decide +kernel
theorem dX3_write_0 : decode cX3_write 0 = .ok (.bipush 24, 2) := by decide +kernel
theorem dX3_write_2 : decode cX3_write 2 = .ok (.istore_n 2, 1) := by decide +kernel
theorem dX3_write_3 : decode cX3_write 3 = .ok (.iload_n 2, 1) := by decide +kernel
theorem dX3_write_4 : decode cX3_write 4 = .ok (.ifCond .lt 54, 3) := by decide +kernel
theorem dX3_write_7 : decode cX3_write 7 = .ok (.aload_n 0, 1) := by decide +kernel
theorem dX3_write_8 : decode cX3_write 8 = .ok (.getfield 15, 3) := by decide +kernel
theorem dX3_write_11 : decode cX3_write 11 = .ok (.ifCond .lt 41, 3) := by decide +kernel
theorem dX3_write_14 : decode cX3_write 14 = .ok (.aload_n 0, 1) := by decide +kernel
theorem dX3_write_15 : decode cX3_write 15 = .ok (.getfield 15, 3) := by decide +kernel
theorem dX3_write_18 : decode cX3_write 18 = .ok (.aload_n 0, 1) := by decide +kernel
theorem dX3_write_19 : decode cX3_write 19 = .ok (.getfield 9, 3) := by decide +kernel
theorem dX3_write_22 : decode cX3_write 22 = .ok (.arraylength, 1) := by decide +kernel
theorem dX3_write_23 : decode cX3_write 23 = .ok (.if_icmp .ge 29, 3) := by decide +kernel
theorem dX3_write_26 : decode cX3_write 26 = .ok (.aload_n 0, 1) := by decide +kernel
theorem dX3_write_27 : decode cX3_write 27 = .ok (.getfield 9, 3) := by decide +kernel
theorem dX3_write_30 : decode cX3_write 30 = .ok (.aload_n 0, 1) := by decide +kernel
theorem dX3_write_31 : decode cX3_write 31 = .ok (.getfield 15, 3) := by decide +kernel
theorem dX3_write_34 : decode cX3_write 34 = .ok (.iload_n 1, 1) := by decide +kernel
theorem dX3_write_35 : decode cX3_write 35 = .ok (.iload_n 2, 1) := by decide +kernel
theorem dX3_write_36 : decode cX3_write 36 = .ok (.iushr, 1) := by decide +kernel
theorem dX3_write_37 : decode cX3_write 37 = .ok (.sipush 255, 3) := by decide +kernel
theorem dX3_write_40 : decode cX3_write 40 = .ok (.iand, 1) := by decide +kernel
theorem dX3_write_41 : decode cX3_write 41 = .ok (.iastore, 1) := by decide +kernel
theorem dX3_write_42 : decode cX3_write 42 = .ok (.aload_n 0, 1) := by decide +kernel
theorem dX3_write_43 : decode cX3_write 43 = .ok (.dup, 1) := by decide +kernel
theorem dX3_write_44 : decode cX3_write 44 = .ok (.getfield 15, 3) := by decide +kernel
theorem dX3_write_47 : decode cX3_write 47 = .ok (.iconst 1, 1) := by decide +kernel
theorem dX3_write_48 : decode cX3_write 48 = .ok (.iadd, 1) := by decide +kernel
theorem dX3_write_49 : decode cX3_write 49 = .ok (.putfield 15, 3) := by decide +kernel
theorem dX3_write_52 : decode cX3_write 52 = .ok (.iinc 2 (-8), 3) := by decide +kernel
theorem dX3_write_55 : decode cX3_write 55 = .ok (.goto (-52), 3) := by decide +kernel
theorem dX3_write_58 : decode cX3_write 58 = .ok (.return_, 1) := by decide +kernel
theorem dX3_cut_0 : decode cX3_cut 0 = .ok (.iload_n 1, 1) := by decide +kernel
theorem dX3_cut_1 : decode cX3_cut 1 = .ok (.ifCond .lt 11, 3) := by decide +kernel
theorem dX3_cut_4 : decode cX3_cut 4 = .ok (.iload_n 1, 1) := by decide +kernel
theorem dX3_cut_5 : decode cX3_cut 5 = .ok (.aload_n 0, 1) := by decide +kernel
theorem dX3_cut_6 : decode cX3_cut 6 = .ok (.getfield 15, 3) := by decide +kernel
theorem dX3_cut_9 : decode cX3_cut 9 = .ok (.if_icmp .le 5, 3) := by decide +kernel
theorem dX3_cut_12 : decode cX3_cut 12 = .ok (.iconst 0, 1) := by decide +kernel
theorem dX3_cut_13 : decode cX3_cut 13 = .ok (.ireturn, 1) := by decide +kernel
theorem dX3_cut_14 : decode cX3_cut 14 = .ok (.aload_n 0, 1) := by decide +kernel
theorem dX3_cut_15 : decode cX3_cut 15 = .ok (.iload_n 1, 1) := by decide +kernel
theorem dX3_cut_16 : decode cX3_cut 16 = .ok (.putfield 15, 3) := by decide +kernel
theorem dX3_cut_19 : decode cX3_cut 19 = .ok (.iconst 1, 1) := by decide +kernel
theorem dX3_cut_20 : decode cX3_cut 20 = .ok (.ireturn, 1) := by decide +kernel
theorem dX3_open_0 : decode cX3_open 0 = .ok (.aload_n 0, 1) := by decide +kernel
theorem dX3_open_1 : decode cX3_open 1 = .ok (.aload_n 0, 1) := by decide +kernel
theorem dX3_open_2 : decode cX3_open 2 = .ok (.getfield 15, 3) := by decide +kernel
theorem dX3_open_5 : decode cX3_open 5 = .ok (.putfield 23, 3) := by decide +kernel
theorem dX3_open_8 : decode cX3_open 8 = .ok (.aload_n 0, 1) := by decide +kernel
theorem dX3_open_9 : decode cX3_open 9 = .ok (.iconst 0, 1) := by decide +kernel
theorem dX3_open_10 : decode cX3_open 10 = .ok (.putfield 15, 3) := by decide +kernel
theorem dX3_open_13 : decode cX3_open 13 = .ok (.aload_n 0, 1) := by decide +kernel
theorem dX3_open_14 : decode cX3_open 14 = .ok (.iconst 0, 1) := by decide +kernel
theorem dX3_open_15 : decode cX3_open 15 = .ok (.putfield 26, 3) := by decide +kernel
theorem dX3_open_18 : decode cX3_open 18 = .ok (.aload_n 0, 1) := by decide +kernel
theorem dX3_open_19 : decode cX3_open 19 = .ok (.invokevirtual 29, 3) := by decide +kernel
theorem dX3_open_22 : decode cX3_open 22 = .ok (.return_, 1) := by decide +kernel
theorem dX3_advance_0 : decode cX3_advance 0 = .ok (.aload_n 0, 1) := by decide +kernel
theorem dX3_advance_1 : decode cX3_advance 1 = .ok (.invokevirtual 32, 3) := by decide +kernel
theorem dX3_advance_4 : decode cX3_advance 4 = .ok (.istore_n 1, 1) := by decide +kernel
theorem dX3_advance_5 : decode cX3_advance 5 = .ok (.iconst 0, 1) := by decide +kernel
theorem dX3_advance_6 : decode cX3_advance 6 = .ok (.istore_n 2, 1) := by decide +kernel
theorem dX3_advance_7 : decode cX3_advance 7 = .ok (.iload_n 2, 1) := by decide +kernel
theorem dX3_advance_8 : decode cX3_advance 8 = .ok (.sipush 400, 3) := by decide +kernel
theorem dX3_advance_11 : decode cX3_advance 11 = .ok (.if_icmp .ge 31, 3) := by decide +kernel
theorem dX3_advance_14 : decode cX3_advance 14 = .ok (.iload_n 1, 1) := by decide +kernel
theorem dX3_advance_15 : decode cX3_advance 15 = .ok (.invokestatic 36, 3) := by decide +kernel
theorem dX3_advance_18 : decode cX3_advance 18 = .ok (.ifCond .eq 24, 3) := by decide +kernel
theorem dX3_advance_21 : decode cX3_advance 21 = .ok (.aload_n 0, 1) := by decide +kernel
theorem dX3_advance_22 : decode cX3_advance 22 = .ok (.dup, 1) := by decide +kernel
theorem dX3_advance_23 : decode cX3_advance 23 = .ok (.getfield 26, 3) := by decide +kernel
theorem dX3_advance_26 : decode cX3_advance 26 = .ok (.iconst 1, 1) := by decide +kernel
theorem dX3_advance_27 : decode cX3_advance 27 = .ok (.iadd, 1) := by decide +kernel
theorem dX3_advance_28 : decode cX3_advance 28 = .ok (.putfield 26, 3) := by decide +kernel
theorem dX3_advance_31 : decode cX3_advance 31 = .ok (.aload_n 0, 1) := by decide +kernel
theorem dX3_advance_32 : decode cX3_advance 32 = .ok (.invokevirtual 32, 3) := by decide +kernel
theorem dX3_advance_35 : decode cX3_advance 35 = .ok (.istore_n 1, 1) := by decide +kernel
theorem dX3_advance_36 : decode cX3_advance 36 = .ok (.iinc 2 1, 3) := by decide +kernel
theorem dX3_advance_39 : decode cX3_advance 39 = .ok (.goto (-32), 3) := by decide +kernel
theorem dX3_advance_42 : decode cX3_advance 42 = .ok (.aload_n 0, 1) := by decide +kernel
theorem dX3_advance_43 : decode cX3_advance 43 = .ok (.aload_n 0, 1) := by decide +kernel
theorem dX3_advance_44 : decode cX3_advance 44 = .ok (.getfield 26, 3) := by decide +kernel
theorem dX3_advance_47 : decode cX3_advance 47 = .ok (.putfield 40, 3) := by decide +kernel
theorem dX3_advance_50 : decode cX3_advance 50 = .ok (.iload_n 1, 1) := by decide +kernel
theorem dX3_advance_51 : decode cX3_advance 51 = .ok (.ifCond .ge 16, 3) := by decide +kernel
theorem dX3_advance_54 : decode cX3_advance 54 = .ok (.aload_n 0, 1) := by decide +kernel
theorem dX3_advance_55 : decode cX3_advance 55 = .ok (.iconst 0, 1) := by decide +kernel
theorem dX3_advance_56 : decode cX3_advance 56 = .ok (.putfield 43, 3) := by decide +kernel
theorem dX3_advance_59 : decode cX3_advance 59 = .ok (.aload_n 0, 1) := by decide +kernel
theorem dX3_advance_60 : decode cX3_advance 60 = .ok (.iconst 0, 1) := by decide +kernel
theorem dX3_advance_61 : decode cX3_advance 61 = .ok (.putfield 46, 3) := by decide +kernel
theorem dX3_advance_64 : decode cX3_advance 64 = .ok (.goto 51, 3) := by decide +kernel
theorem dX3_advance_67 : decode cX3_advance 67 = .ok (.iload_n 1, 1) := by decide +kernel
theorem dX3_advance_68 : decode cX3_advance 68 = .ok (.invokestatic 49, 3) := by decide +kernel
theorem dX3_advance_71 : decode cX3_advance 71 = .ok (.ifCond .eq 10, 3) := by decide +kernel
theorem dX3_advance_74 : decode cX3_advance 74 = .ok (.aload_n 0, 1) := by decide +kernel
theorem dX3_advance_75 : decode cX3_advance 75 = .ok (.invokevirtual 52, 3) := by decide +kernel
theorem dX3_advance_78 : decode cX3_advance 78 = .ok (.goto 37, 3) := by decide +kernel
theorem dX3_advance_81 : decode cX3_advance 81 = .ok (.iload_n 1, 1) := by decide +kernel
theorem dX3_advance_82 : decode cX3_advance 82 = .ok (.invokestatic 55, 3) := by decide +kernel
theorem dX3_advance_85 : decode cX3_advance 85 = .ok (.ifCond .eq 10, 3) := by decide +kernel
theorem dX3_advance_88 : decode cX3_advance 88 = .ok (.aload_n 0, 1) := by decide +kernel
theorem dX3_advance_89 : decode cX3_advance 89 = .ok (.invokevirtual 58, 3) := by decide +kernel
theorem dX3_advance_92 : decode cX3_advance 92 = .ok (.goto 23, 3) := by decide +kernel
theorem dX3_advance_95 : decode cX3_advance 95 = .ok (.aload_n 0, 1) := by decide +kernel
theorem dX3_advance_96 : decode cX3_advance 96 = .ok (.iconst 3, 1) := by decide +kernel
theorem dX3_advance_97 : decode cX3_advance 97 = .ok (.putfield 43, 3) := by decide +kernel
theorem dX3_advance_100 : decode cX3_advance 100 = .ok (.aload_n 0, 1) := by decide +kernel
theorem dX3_advance_101 : decode cX3_advance 101 = .ok (.iload_n 1, 1) := by decide +kernel
theorem dX3_advance_102 : decode cX3_advance 102 = .ok (.putfield 46, 3) := by decide +kernel
theorem dX3_advance_105 : decode cX3_advance 105 = .ok (.aload_n 0, 1) := by decide +kernel
theorem dX3_advance_106 : decode cX3_advance 106 = .ok (.dup, 1) := by decide +kernel
theorem dX3_advance_107 : decode cX3_advance 107 = .ok (.getfield 26, 3) := by decide +kernel
theorem dX3_advance_110 : decode cX3_advance 110 = .ok (.iconst 1, 1) := by decide +kernel
theorem dX3_advance_111 : decode cX3_advance 111 = .ok (.iadd, 1) := by decide +kernel
theorem dX3_advance_112 : decode cX3_advance 112 = .ok (.putfield 26, 3) := by decide +kernel
theorem dX3_advance_115 : decode cX3_advance 115 = .ok (.return_, 1) := by decide +kernel
theorem dX3_readWord_0 : decode cX3_readWord 0 = .ok (.aload_n 0, 1) := by decide +kernel
theorem dX3_readWord_1 : decode cX3_readWord 1 = .ok (.iconst 1, 1) := by decide +kernel
theorem dX3_readWord_2 : decode cX3_readWord 2 = .ok (.putfield 43, 3) := by decide +kernel
theorem dX3_readWord_5 : decode cX3_readWord 5 = .ok (.aload_n 0, 1) := by decide +kernel
theorem dX3_readWord_6 : decode cX3_readWord 6 = .ok (.iconst 0, 1) := by decide +kernel
theorem dX3_readWord_7 : decode cX3_readWord 7 = .ok (.putfield 46, 3) := by decide +kernel
theorem dX3_readWord_10 : decode cX3_readWord 10 = .ok (.iconst 0, 1) := by decide +kernel
theorem dX3_readWord_11 : decode cX3_readWord 11 = .ok (.istore_n 1, 1) := by decide +kernel
theorem dX3_readWord_12 : decode cX3_readWord 12 = .ok (.aload_n 0, 1) := by decide +kernel
theorem dX3_readWord_13 : decode cX3_readWord 13 = .ok (.invokevirtual 32, 3) := by decide +kernel
theorem dX3_readWord_16 : decode cX3_readWord 16 = .ok (.istore_n 2, 1) := by decide +kernel
theorem dX3_readWord_17 : decode cX3_readWord 17 = .ok (.iload_n 1, 1) := by decide +kernel
theorem dX3_readWord_18 : decode cX3_readWord 18 = .ok (.sipush 400, 3) := by decide +kernel
theorem dX3_readWord_21 : decode cX3_readWord 21 = .ok (.if_icmp .ge 59, 3) := by decide +kernel
theorem dX3_readWord_24 : decode cX3_readWord 24 = .ok (.iload_n 2, 1) := by decide +kernel
theorem dX3_readWord_25 : decode cX3_readWord 25 = .ok (.invokestatic 49, 3) := by decide +kernel
theorem dX3_readWord_28 : decode cX3_readWord 28 = .ok (.ifCond .eq 52, 3) := by decide +kernel
theorem dX3_readWord_31 : decode cX3_readWord 31 = .ok (.aload_n 0, 1) := by decide +kernel
theorem dX3_readWord_32 : decode cX3_readWord 32 = .ok (.iload_n 1, 1) := by decide +kernel
theorem dX3_readWord_33 : decode cX3_readWord 33 = .ok (.bipush 6, 2) := by decide +kernel
theorem dX3_readWord_35 : decode cX3_readWord 35 = .ok (.if_icmp .ge 20, 3) := by decide +kernel
theorem dX3_readWord_38 : decode cX3_readWord 38 = .ok (.aload_n 0, 1) := by decide +kernel
theorem dX3_readWord_39 : decode cX3_readWord 39 = .ok (.getfield 46, 3) := by decide +kernel
theorem dX3_readWord_42 : decode cX3_readWord 42 = .ok (.bipush 32, 2) := by decide +kernel
theorem dX3_readWord_44 : decode cX3_readWord 44 = .ok (.imul, 1) := by decide +kernel
theorem dX3_readWord_45 : decode cX3_readWord 45 = .ok (.iload_n 2, 1) := by decide +kernel
theorem dX3_readWord_46 : decode cX3_readWord 46 = .ok (.bipush 97, 2) := by decide +kernel
theorem dX3_readWord_48 : decode cX3_readWord 48 = .ok (.isub, 1) := by decide +kernel
theorem dX3_readWord_49 : decode cX3_readWord 49 = .ok (.iconst 1, 1) := by decide +kernel
theorem dX3_readWord_50 : decode cX3_readWord 50 = .ok (.iadd, 1) := by decide +kernel
theorem dX3_readWord_51 : decode cX3_readWord 51 = .ok (.iadd, 1) := by decide +kernel
theorem dX3_readWord_52 : decode cX3_readWord 52 = .ok (.goto 4, 3) := by decide +kernel
theorem dX3_readWord_55 : decode cX3_readWord 55 = .ok (.iconst 0, 1) := by decide +kernel
theorem dX3_readWord_56 : decode cX3_readWord 56 = .ok (.putfield 46, 3) := by decide +kernel
theorem dX3_readWord_59 : decode cX3_readWord 59 = .ok (.iinc 1 1, 3) := by decide +kernel
theorem dX3_readWord_62 : decode cX3_readWord 62 = .ok (.aload_n 0, 1) := by decide +kernel
theorem dX3_readWord_63 : decode cX3_readWord 63 = .ok (.dup, 1) := by decide +kernel
theorem dX3_readWord_64 : decode cX3_readWord 64 = .ok (.getfield 26, 3) := by decide +kernel
theorem dX3_readWord_67 : decode cX3_readWord 67 = .ok (.iconst 1, 1) := by decide +kernel
theorem dX3_readWord_68 : decode cX3_readWord 68 = .ok (.iadd, 1) := by decide +kernel
theorem dX3_readWord_69 : decode cX3_readWord 69 = .ok (.putfield 26, 3) := by decide +kernel
theorem dX3_readWord_72 : decode cX3_readWord 72 = .ok (.aload_n 0, 1) := by decide +kernel
theorem dX3_readWord_73 : decode cX3_readWord 73 = .ok (.invokevirtual 32, 3) := by decide +kernel
theorem dX3_readWord_76 : decode cX3_readWord 76 = .ok (.istore_n 2, 1) := by decide +kernel
theorem dX3_readWord_77 : decode cX3_readWord 77 = .ok (.goto (-60), 3) := by decide +kernel
theorem dX3_readWord_80 : decode cX3_readWord 80 = .ok (.return_, 1) := by decide +kernel
theorem dX3_readNumber_0 : decode cX3_readNumber 0 = .ok (.aload_n 0, 1) := by decide +kernel
theorem dX3_readNumber_1 : decode cX3_readNumber 1 = .ok (.iconst 2, 1) := by decide +kernel
theorem dX3_readNumber_2 : decode cX3_readNumber 2 = .ok (.putfield 43, 3) := by decide +kernel
theorem dX3_readNumber_5 : decode cX3_readNumber 5 = .ok (.aload_n 0, 1) := by decide +kernel
theorem dX3_readNumber_6 : decode cX3_readNumber 6 = .ok (.iconst (-1), 1) := by decide +kernel
theorem dX3_readNumber_7 : decode cX3_readNumber 7 = .ok (.putfield 46, 3) := by decide +kernel
theorem dX3_readNumber_10 : decode cX3_readNumber 10 = .ok (.iconst 0, 1) := by decide +kernel
theorem dX3_readNumber_11 : decode cX3_readNumber 11 = .ok (.istore_n 1, 1) := by decide +kernel
theorem dX3_readNumber_12 : decode cX3_readNumber 12 = .ok (.aload_n 0, 1) := by decide +kernel
theorem dX3_readNumber_13 : decode cX3_readNumber 13 = .ok (.invokevirtual 32, 3) := by decide +kernel
theorem dX3_readNumber_16 : decode cX3_readNumber 16 = .ok (.istore_n 2, 1) := by decide +kernel
theorem dX3_readNumber_17 : decode cX3_readNumber 17 = .ok (.iload_n 1, 1) := by decide +kernel
theorem dX3_readNumber_18 : decode cX3_readNumber 18 = .ok (.sipush 400, 3) := by decide +kernel
theorem dX3_readNumber_21 : decode cX3_readNumber 21 = .ok (.if_icmp .ge 47, 3) := by decide +kernel
theorem dX3_readNumber_24 : decode cX3_readNumber 24 = .ok (.iload_n 2, 1) := by decide +kernel
theorem dX3_readNumber_25 : decode cX3_readNumber 25 = .ok (.invokestatic 55, 3) := by decide +kernel
theorem dX3_readNumber_28 : decode cX3_readNumber 28 = .ok (.ifCond .eq 40, 3) := by decide +kernel
theorem dX3_readNumber_31 : decode cX3_readNumber 31 = .ok (.aload_n 0, 1) := by decide +kernel
theorem dX3_readNumber_32 : decode cX3_readNumber 32 = .ok (.iload_n 1, 1) := by decide +kernel
theorem dX3_readNumber_33 : decode cX3_readNumber 33 = .ok (.ifCond .ne 10, 3) := by decide +kernel
theorem dX3_readNumber_36 : decode cX3_readNumber 36 = .ok (.iload_n 2, 1) := by decide +kernel
theorem dX3_readNumber_37 : decode cX3_readNumber 37 = .ok (.bipush 48, 2) := by decide +kernel
theorem dX3_readNumber_39 : decode cX3_readNumber 39 = .ok (.isub, 1) := by decide +kernel
theorem dX3_readNumber_40 : decode cX3_readNumber 40 = .ok (.goto 4, 3) := by decide +kernel
theorem dX3_readNumber_43 : decode cX3_readNumber 43 = .ok (.iconst (-1), 1) := by decide +kernel
theorem dX3_readNumber_44 : decode cX3_readNumber 44 = .ok (.putfield 46, 3) := by decide +kernel
theorem dX3_readNumber_47 : decode cX3_readNumber 47 = .ok (.iinc 1 1, 3) := by decide +kernel
theorem dX3_readNumber_50 : decode cX3_readNumber 50 = .ok (.aload_n 0, 1) := by decide +kernel
theorem dX3_readNumber_51 : decode cX3_readNumber 51 = .ok (.dup, 1) := by decide +kernel
theorem dX3_readNumber_52 : decode cX3_readNumber 52 = .ok (.getfield 26, 3) := by decide +kernel
theorem dX3_readNumber_55 : decode cX3_readNumber 55 = .ok (.iconst 1, 1) := by decide +kernel
theorem dX3_readNumber_56 : decode cX3_readNumber 56 = .ok (.iadd, 1) := by decide +kernel
theorem dX3_readNumber_57 : decode cX3_readNumber 57 = .ok (.putfield 26, 3) := by decide +kernel
theorem dX3_readNumber_60 : decode cX3_readNumber 60 = .ok (.aload_n 0, 1) := by decide +kernel
theorem dX3_readNumber_61 : decode cX3_readNumber 61 = .ok (.invokevirtual 32, 3) := by decide +kernel
theorem dX3_readNumber_64 : decode cX3_readNumber 64 = .ok (.istore_n 2, 1) := by decide +kernel
theorem dX3_readNumber_65 : decode cX3_readNumber 65 = .ok (.goto (-48), 3) := by decide +kernel
theorem dX3_readNumber_68 : decode cX3_readNumber 68 = .ok (.return_, 1) := by decide +kernel
theorem dX3_look_0 : decode cX3_look 0 = .ok (.aload_n 0, 1) := by decide +kernel
theorem dX3_look_1 : decode cX3_look 1 = .ok (.getfield 26, 3) := by decide +kernel
theorem dX3_look_4 : decode cX3_look 4 = .ok (.ifCond .lt 38, 3) := by decide +kernel
theorem dX3_look_7 : decode cX3_look 7 = .ok (.aload_n 0, 1) := by decide +kernel
theorem dX3_look_8 : decode cX3_look 8 = .ok (.getfield 26, 3) := by decide +kernel
theorem dX3_look_11 : decode cX3_look 11 = .ok (.aload_n 0, 1) := by decide +kernel
theorem dX3_look_12 : decode cX3_look 12 = .ok (.getfield 23, 3) := by decide +kernel
theorem dX3_look_15 : decode cX3_look 15 = .ok (.if_icmp .ge 27, 3) := by decide +kernel
theorem dX3_look_18 : decode cX3_look 18 = .ok (.aload_n 0, 1) := by decide +kernel
theorem dX3_look_19 : decode cX3_look 19 = .ok (.getfield 26, 3) := by decide +kernel
theorem dX3_look_22 : decode cX3_look 22 = .ok (.aload_n 0, 1) := by decide +kernel
theorem dX3_look_23 : decode cX3_look 23 = .ok (.getfield 9, 3) := by decide +kernel
theorem dX3_look_26 : decode cX3_look 26 = .ok (.arraylength, 1) := by decide +kernel
theorem dX3_look_27 : decode cX3_look 27 = .ok (.if_icmp .ge 15, 3) := by decide +kernel
theorem dX3_look_30 : decode cX3_look 30 = .ok (.aload_n 0, 1) := by decide +kernel
theorem dX3_look_31 : decode cX3_look 31 = .ok (.getfield 9, 3) := by decide +kernel
theorem dX3_look_34 : decode cX3_look 34 = .ok (.aload_n 0, 1) := by decide +kernel
theorem dX3_look_35 : decode cX3_look 35 = .ok (.getfield 26, 3) := by decide +kernel
theorem dX3_look_38 : decode cX3_look 38 = .ok (.iaload, 1) := by decide +kernel
theorem dX3_look_39 : decode cX3_look 39 = .ok (.goto 4, 3) := by decide +kernel
theorem dX3_look_42 : decode cX3_look 42 = .ok (.iconst (-1), 1) := by decide +kernel
theorem dX3_look_43 : decode cX3_look 43 = .ok (.ireturn, 1) := by decide +kernel
theorem dX3_isBlank_0 : decode cX3_isBlank 0 = .ok (.iload_n 0, 1) := by decide +kernel
theorem dX3_isBlank_1 : decode cX3_isBlank 1 = .ok (.bipush 9, 2) := by decide +kernel
theorem dX3_isBlank_3 : decode cX3_isBlank 3 = .ok (.if_icmp .eq 15, 3) := by decide +kernel
theorem dX3_isBlank_6 : decode cX3_isBlank 6 = .ok (.iload_n 0, 1) := by decide +kernel
theorem dX3_isBlank_7 : decode cX3_isBlank 7 = .ok (.bipush 10, 2) := by decide +kernel
theorem dX3_isBlank_9 : decode cX3_isBlank 9 = .ok (.if_icmp .eq 9, 3) := by decide +kernel
theorem dX3_isBlank_12 : decode cX3_isBlank 12 = .ok (.iload_n 0, 1) := by decide +kernel
theorem dX3_isBlank_13 : decode cX3_isBlank 13 = .ok (.bipush 32, 2) := by decide +kernel
theorem dX3_isBlank_15 : decode cX3_isBlank 15 = .ok (.if_icmp .ne 7, 3) := by decide +kernel
theorem dX3_isBlank_18 : decode cX3_isBlank 18 = .ok (.iconst 1, 1) := by decide +kernel
theorem dX3_isBlank_19 : decode cX3_isBlank 19 = .ok (.goto 4, 3) := by decide +kernel
theorem dX3_isBlank_22 : decode cX3_isBlank 22 = .ok (.iconst 0, 1) := by decide +kernel
theorem dX3_isBlank_23 : decode cX3_isBlank 23 = .ok (.ireturn, 1) := by decide +kernel
theorem dX3_isLetter_0 : decode cX3_isLetter 0 = .ok (.iload_n 0, 1) := by decide +kernel
theorem dX3_isLetter_1 : decode cX3_isLetter 1 = .ok (.bipush 97, 2) := by decide +kernel
theorem dX3_isLetter_3 : decode cX3_isLetter 3 = .ok (.if_icmp .lt 13, 3) := by decide +kernel
theorem dX3_isLetter_6 : decode cX3_isLetter 6 = .ok (.iload_n 0, 1) := by decide +kernel
theorem dX3_isLetter_7 : decode cX3_isLetter 7 = .ok (.bipush 122, 2) := by decide +kernel
theorem dX3_isLetter_9 : decode cX3_isLetter 9 = .ok (.if_icmp .gt 7, 3) := by decide +kernel
theorem dX3_isLetter_12 : decode cX3_isLetter 12 = .ok (.iconst 1, 1) := by decide +kernel
theorem dX3_isLetter_13 : decode cX3_isLetter 13 = .ok (.goto 4, 3) := by decide +kernel
theorem dX3_isLetter_16 : decode cX3_isLetter 16 = .ok (.iconst 0, 1) := by decide +kernel
theorem dX3_isLetter_17 : decode cX3_isLetter 17 = .ok (.ireturn, 1) := by decide +kernel
theorem dX3_isDigit_0 : decode cX3_isDigit 0 = .ok (.iload_n 0, 1) := by decide +kernel
theorem dX3_isDigit_1 : decode cX3_isDigit 1 = .ok (.bipush 48, 2) := by decide +kernel
theorem dX3_isDigit_3 : decode cX3_isDigit 3 = .ok (.if_icmp .lt 13, 3) := by decide +kernel
theorem dX3_isDigit_6 : decode cX3_isDigit 6 = .ok (.iload_n 0, 1) := by decide +kernel
theorem dX3_isDigit_7 : decode cX3_isDigit 7 = .ok (.bipush 57, 2) := by decide +kernel
theorem dX3_isDigit_9 : decode cX3_isDigit 9 = .ok (.if_icmp .gt 7, 3) := by decide +kernel
theorem dX3_isDigit_12 : decode cX3_isDigit 12 = .ok (.iconst 1, 1) := by decide +kernel
theorem dX3_isDigit_13 : decode cX3_isDigit 13 = .ok (.goto 4, 3) := by decide +kernel
theorem dX3_isDigit_16 : decode cX3_isDigit 16 = .ok (.iconst 0, 1) := by decide +kernel
theorem dX3_isDigit_17 : decode cX3_isDigit 17 = .ok (.ireturn, 1) := by decide +kernel
theorem dX3_isSign_0 : decode cX3_isSign 0 = .ok (.aload_n 0, 1) := by decide +kernel
theorem dX3_isSign_1 : decode cX3_isSign 1 = .ok (.getfield 43, 3) := by decide +kernel
theorem dX3_isSign_4 : decode cX3_isSign 4 = .ok (.iconst 3, 1) := by decide +kernel
theorem dX3_isSign_5 : decode cX3_isSign 5 = .ok (.if_icmp .ne 15, 3) := by decide +kernel
theorem dX3_isSign_8 : decode cX3_isSign 8 = .ok (.aload_n 0, 1) := by decide +kernel
theorem dX3_isSign_9 : decode cX3_isSign 9 = .ok (.getfield 46, 3) := by decide +kernel
theorem dX3_isSign_12 : decode cX3_isSign 12 = .ok (.iload_n 1, 1) := by decide +kernel
theorem dX3_isSign_13 : decode cX3_isSign 13 = .ok (.if_icmp .ne 7, 3) := by decide +kernel
theorem dX3_isSign_16 : decode cX3_isSign 16 = .ok (.iconst 1, 1) := by decide +kernel
theorem dX3_isSign_17 : decode cX3_isSign 17 = .ok (.goto 4, 3) := by decide +kernel
theorem dX3_isSign_20 : decode cX3_isSign 20 = .ok (.iconst 0, 1) := by decide +kernel
theorem dX3_isSign_21 : decode cX3_isSign 21 = .ok (.ireturn, 1) := by decide +kernel

theorem dX4_init_0 : decode cX4_init 0 = .ok (.aload_n 0, 1) := by decide +kernel
theorem dX4_init_1 : decode cX4_init 1 = .ok (.invokespecial 3, 3) := by decide +kernel
theorem dX4_init_4 : decode cX4_init 4 = .ok (.aload_n 0, 1) := by decide +kernel
theorem dX4_init_5 : decode cX4_init 5 = .ok (.new 9, 3) := by decide +kernel
theorem dX4_init_8 : decode cX4_init 8 = .ok (.dup, 1) := by decide +kernel
theorem dX4_init_9 : decode cX4_init 9 = .ok (.iconst 1, 1) := by decide +kernel
theorem dX4_init_10 : decode cX4_init 10 = .ok (.invokespecial 11, 3) := by decide +kernel
theorem dX4_init_13 : decode cX4_init 13 = .ok (.putfield 14, 3) := by decide +kernel
theorem dX4_init_16 : decode cX4_init 16 = .ok (.aload_n 0, 1) := by decide +kernel
theorem dX4_init_17 : decode cX4_init 17 = .ok (.sipush 256, 3) := by decide +kernel
theorem dX4_init_20 : decode cX4_init 20 = .ok (.newarray .int, 2) := by decide +kernel
theorem dX4_init_22 : decode cX4_init 22 = .ok (.putfield 20, 3) := by decide +kernel
theorem dX4_init_25 : decode cX4_init 25 = .ok (.aload_n 0, 1) := by decide +kernel
theorem dX4_init_26 : decode cX4_init 26 = .ok (.bipush 21, 2) := by decide +kernel
theorem dX4_init_28 : decode cX4_init 28 = .ok (.newarray .int, 2) := by decide +kernel
theorem dX4_init_30 : decode cX4_init 30 = .ok (.putfield 24, 3) := by decide +kernel
theorem dX4_init_33 : decode cX4_init 33 = .ok (.aload_n 0, 1) := by decide +kernel
theorem dX4_init_34 : decode cX4_init 34 = .ok (.aload_n 1, 1) := by decide +kernel
theorem dX4_init_35 : decode cX4_init 35 = .ok (.putfield 27, 3) := by decide +kernel
theorem dX4_init_38 : decode cX4_init 38 = .ok (.return_, 1) := by decide +kernel
theorem dX4_clear_0 : decode cX4_clear 0 = .ok (.aload_n 0, 1) := by decide +kernel
theorem dX4_clear_1 : decode cX4_clear 1 = .ok (.getfield 14, 3) := by decide +kernel
theorem dX4_clear_4 : decode cX4_clear 4 = .ok (.invokevirtual 31, 3) := by decide +kernel
theorem dX4_clear_7 : decode cX4_clear 7 = .ok (.aload_n 0, 1) := by decide +kernel
theorem dX4_clear_8 : decode cX4_clear 8 = .ok (.iconst 0, 1) := by decide +kernel
theorem dX4_clear_9 : decode cX4_clear 9 = .ok (.putfield 34, 3) := by decide +kernel
theorem dX4_clear_12 : decode cX4_clear 12 = .ok (.return_, 1) := by decide +kernel
theorem dX4_take_0 : decode cX4_take 0 = .ok (.aload_n 0, 1) := by decide +kernel
theorem dX4_take_1 : decode cX4_take 1 = .ok (.getfield 14, 3) := by decide +kernel
theorem dX4_take_4 : decode cX4_take 4 = .ok (.invokevirtual 31, 3) := by decide +kernel
theorem dX4_take_7 : decode cX4_take 7 = .ok (.aload_n 0, 1) := by decide +kernel
theorem dX4_take_8 : decode cX4_take 8 = .ok (.getfield 14, 3) := by decide +kernel
theorem dX4_take_11 : decode cX4_take 11 = .ok (.aload_n 1, 1) := by decide +kernel
theorem dX4_take_12 : decode cX4_take 12 = .ok (.iload_n 2, 1) := by decide +kernel
theorem dX4_take_13 : decode cX4_take 13 = .ok (.invokevirtual 38, 3) := by decide +kernel
theorem dX4_take_16 : decode cX4_take 16 = .ok (.aload_n 0, 1) := by decide +kernel
theorem dX4_take_17 : decode cX4_take 17 = .ok (.invokevirtual 42, 3) := by decide +kernel
theorem dX4_take_20 : decode cX4_take 20 = .ok (.aload_n 0, 1) := by decide +kernel
theorem dX4_take_21 : decode cX4_take 21 = .ok (.getfield 34, 3) := by decide +kernel
theorem dX4_take_24 : decode cX4_take 24 = .ok (.ireturn, 1) := by decide +kernel
theorem dX4_byteAt_0 : decode cX4_byteAt 0 = .ok (.iload_n 1, 1) := by decide +kernel
theorem dX4_byteAt_1 : decode cX4_byteAt 1 = .ok (.ifCond .lt 27, 3) := by decide +kernel
theorem dX4_byteAt_4 : decode cX4_byteAt 4 = .ok (.iload_n 1, 1) := by decide +kernel
theorem dX4_byteAt_5 : decode cX4_byteAt 5 = .ok (.aload_n 0, 1) := by decide +kernel
theorem dX4_byteAt_6 : decode cX4_byteAt 6 = .ok (.getfield 34, 3) := by decide +kernel
theorem dX4_byteAt_9 : decode cX4_byteAt 9 = .ok (.if_icmp .ge 19, 3) := by decide +kernel
theorem dX4_byteAt_12 : decode cX4_byteAt 12 = .ok (.iload_n 1, 1) := by decide +kernel
theorem dX4_byteAt_13 : decode cX4_byteAt 13 = .ok (.sipush 256, 3) := by decide +kernel
theorem dX4_byteAt_16 : decode cX4_byteAt 16 = .ok (.if_icmp .ge 12, 3) := by decide +kernel
theorem dX4_byteAt_19 : decode cX4_byteAt 19 = .ok (.aload_n 0, 1) := by decide +kernel
theorem dX4_byteAt_20 : decode cX4_byteAt 20 = .ok (.getfield 20, 3) := by decide +kernel
theorem dX4_byteAt_23 : decode cX4_byteAt 23 = .ok (.iload_n 1, 1) := by decide +kernel
theorem dX4_byteAt_24 : decode cX4_byteAt 24 = .ok (.iaload, 1) := by decide +kernel
theorem dX4_byteAt_25 : decode cX4_byteAt 25 = .ok (.goto 4, 3) := by decide +kernel
theorem dX4_byteAt_28 : decode cX4_byteAt 28 = .ok (.iconst (-1), 1) := by decide +kernel
theorem dX4_byteAt_29 : decode cX4_byteAt 29 = .ok (.ireturn, 1) := by decide +kernel
theorem dX4_spell_0 : decode cX4_spell 0 = .ok (.aload_n 0, 1) := by decide +kernel
theorem dX4_spell_1 : decode cX4_spell 1 = .ok (.iconst 0, 1) := by decide +kernel
theorem dX4_spell_2 : decode cX4_spell 2 = .ok (.putfield 34, 3) := by decide +kernel
theorem dX4_spell_5 : decode cX4_spell 5 = .ok (.iconst 0, 1) := by decide +kernel
theorem dX4_spell_6 : decode cX4_spell 6 = .ok (.istore_n 1, 1) := by decide +kernel
theorem dX4_spell_7 : decode cX4_spell 7 = .ok (.aload_n 0, 1) := by decide +kernel
theorem dX4_spell_8 : decode cX4_spell 8 = .ok (.getfield 14, 3) := by decide +kernel
theorem dX4_spell_11 : decode cX4_spell 11 = .ok (.iconst 0, 1) := by decide +kernel
theorem dX4_spell_12 : decode cX4_spell 12 = .ok (.invokevirtual 45, 3) := by decide +kernel
theorem dX4_spell_15 : decode cX4_spell 15 = .ok (.istore_n 2, 1) := by decide +kernel
theorem dX4_spell_16 : decode cX4_spell 16 = .ok (.iconst 0, 1) := by decide +kernel
theorem dX4_spell_17 : decode cX4_spell 17 = .ok (.istore_n 3, 1) := by decide +kernel
theorem dX4_spell_18 : decode cX4_spell 18 = .ok (.iload_n 3, 1) := by decide +kernel
theorem dX4_spell_19 : decode cX4_spell 19 = .ok (.iload_n 2, 1) := by decide +kernel
theorem dX4_spell_20 : decode cX4_spell 20 = .ok (.if_icmp .ge 77, 3) := by decide +kernel
theorem dX4_spell_23 : decode cX4_spell 23 = .ok (.aload_n 0, 1) := by decide +kernel
theorem dX4_spell_24 : decode cX4_spell 24 = .ok (.getfield 14, 3) := by decide +kernel
theorem dX4_spell_27 : decode cX4_spell 27 = .ok (.iconst 0, 1) := by decide +kernel
theorem dX4_spell_28 : decode cX4_spell 28 = .ok (.iload_n 3, 1) := by decide +kernel
theorem dX4_spell_29 : decode cX4_spell 29 = .ok (.invokevirtual 49, 3) := by decide +kernel
theorem dX4_spell_32 : decode cX4_spell 32 = .ok (.istore 4, 2) := by decide +kernel
theorem dX4_spell_34 : decode cX4_spell 34 = .ok (.aload_n 0, 1) := by decide +kernel
theorem dX4_spell_35 : decode cX4_spell 35 = .ok (.aload_n 0, 1) := by decide +kernel
theorem dX4_spell_36 : decode cX4_spell 36 = .ok (.getfield 27, 3) := by decide +kernel
theorem dX4_spell_39 : decode cX4_spell 39 = .ok (.iload 4, 2) := by decide +kernel
theorem dX4_spell_41 : decode cX4_spell 41 = .ok (.invokevirtual 53, 3) := by decide +kernel
theorem dX4_spell_44 : decode cX4_spell 44 = .ok (.invokevirtual 58, 3) := by decide +kernel
theorem dX4_spell_47 : decode cX4_spell 47 = .ok (.iload 4, 2) := by decide +kernel
theorem dX4_spell_49 : decode cX4_spell 49 = .ok (.invokestatic 61, 3) := by decide +kernel
theorem dX4_spell_52 : decode cX4_spell 52 = .ok (.istore 5, 2) := by decide +kernel
theorem dX4_spell_54 : decode cX4_spell 54 = .ok (.iload 5, 2) := by decide +kernel
theorem dX4_spell_56 : decode cX4_spell 56 = .ok (.ifCond .le 29, 3) := by decide +kernel
theorem dX4_spell_59 : decode cX4_spell 59 = .ok (.iload_n 1, 1) := by decide +kernel
theorem dX4_spell_60 : decode cX4_spell 60 = .ok (.bipush 20, 2) := by decide +kernel
theorem dX4_spell_62 : decode cX4_spell 62 = .ok (.if_icmp .ge 23, 3) := by decide +kernel
theorem dX4_spell_65 : decode cX4_spell 65 = .ok (.aload_n 0, 1) := by decide +kernel
theorem dX4_spell_66 : decode cX4_spell 66 = .ok (.bipush 40, 2) := by decide +kernel
theorem dX4_spell_68 : decode cX4_spell 68 = .ok (.invokevirtual 64, 3) := by decide +kernel
theorem dX4_spell_71 : decode cX4_spell 71 = .ok (.iinc 1 1, 3) := by decide +kernel
theorem dX4_spell_74 : decode cX4_spell 74 = .ok (.aload_n 0, 1) := by decide +kernel
theorem dX4_spell_75 : decode cX4_spell 75 = .ok (.getfield 24, 3) := by decide +kernel
theorem dX4_spell_78 : decode cX4_spell 78 = .ok (.iload_n 1, 1) := by decide +kernel
theorem dX4_spell_79 : decode cX4_spell 79 = .ok (.iload 5, 2) := by decide +kernel
theorem dX4_spell_81 : decode cX4_spell 81 = .ok (.iastore, 1) := by decide +kernel
theorem dX4_spell_82 : decode cX4_spell 82 = .ok (.goto 9, 3) := by decide +kernel
theorem dX4_spell_85 : decode cX4_spell 85 = .ok (.aload_n 0, 1) := by decide +kernel
theorem dX4_spell_86 : decode cX4_spell 86 = .ok (.iload_n 1, 1) := by decide +kernel
theorem dX4_spell_87 : decode cX4_spell 87 = .ok (.invokevirtual 67, 3) := by decide +kernel
theorem dX4_spell_90 : decode cX4_spell 90 = .ok (.istore_n 1, 1) := by decide +kernel
theorem dX4_spell_91 : decode cX4_spell 91 = .ok (.iinc 3 1, 3) := by decide +kernel
theorem dX4_spell_94 : decode cX4_spell 94 = .ok (.goto (-76), 3) := by decide +kernel
theorem dX4_spell_97 : decode cX4_spell 97 = .ok (.return_, 1) := by decide +kernel
theorem dX4_closeAll_0 : decode cX4_closeAll 0 = .ok (.iload_n 1, 1) := by decide +kernel
theorem dX4_closeAll_1 : decode cX4_closeAll 1 = .ok (.istore_n 2, 1) := by decide +kernel
theorem dX4_closeAll_2 : decode cX4_closeAll 2 = .ok (.iload_n 2, 1) := by decide +kernel
theorem dX4_closeAll_3 : decode cX4_closeAll 3 = .ok (.ifCond .le 49, 3) := by decide +kernel
