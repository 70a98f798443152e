theorem dX9_codeFor_0 : decode cX9_codeFor 0 = .ok (.bipush 8, 2) := by decide +kernel
theorem dX9_codeFor_2 : decode cX9_codeFor 2 = .ok (.iload_n 0, 1) := by decide +kernel
theorem dX9_codeFor_3 : decode cX9_codeFor 3 = .ok (.iconst 1, 1) := by decide +kernel
theorem dX9_codeFor_4 : decode cX9_codeFor 4 = .ok (.iadd, 1) := by decide +kernel
theorem dX9_codeFor_5 : decode cX9_codeFor 5 = .ok (.imul, 1) := by decide +kernel
theorem dX9_codeFor_6 : decode cX9_codeFor 6 = .ok (.iload_n 1, 1) := by decide +kernel
theorem dX9_codeFor_7 : decode cX9_codeFor 7 = .ok (.iadd, 1) := by decide +kernel
theorem dX9_codeFor_8 : decode cX9_codeFor 8 = .ok (.ireturn, 1) := by decide +kernel
theorem dX9_operatorIn_0 : decode cX9_operatorIn 0 = .ok (.iload_n 0, 1) := by decide +kernel
theorem dX9_operatorIn_1 : decode cX9_operatorIn 1 = .ok (.bipush 8, 2) := by decide +kernel
theorem dX9_operatorIn_3 : decode cX9_operatorIn 3 = .ok (.if_icmp .ge 7, 3) := by decide +kernel
theorem dX9_operatorIn_6 : decode cX9_operatorIn 6 = .ok (.iconst (-1), 1) := by decide +kernel
theorem dX9_operatorIn_7 : decode cX9_operatorIn 7 = .ok (.goto 8, 3) := by decide +kernel
theorem dX9_operatorIn_10 : decode cX9_operatorIn 10 = .ok (.iload_n 0, 1) := by decide +kernel
theorem dX9_operatorIn_11 : decode cX9_operatorIn 11 = .ok (.iconst 3, 1) := by decide +kernel
theorem dX9_operatorIn_12 : decode cX9_operatorIn 12 = .ok (.ishr, 1) := by decide +kernel
theorem dX9_operatorIn_13 : decode cX9_operatorIn 13 = .ok (.iconst 1, 1) := by decide +kernel
theorem dX9_operatorIn_14 : decode cX9_operatorIn 14 = .ok (.isub, 1) := by decide +kernel
theorem dX9_operatorIn_15 : decode cX9_operatorIn 15 = .ok (.ireturn, 1) := by decide +kernel
theorem dX9_partsIn_0 : decode cX9_partsIn 0 = .ok (.iload_n 0, 1) := by decide +kernel
theorem dX9_partsIn_1 : decode cX9_partsIn 1 = .ok (.bipush 8, 2) := by decide +kernel
theorem dX9_partsIn_3 : decode cX9_partsIn 3 = .ok (.if_icmp .ge 7, 3) := by decide +kernel
theorem dX9_partsIn_6 : decode cX9_partsIn 6 = .ok (.iconst 0, 1) := by decide +kernel
theorem dX9_partsIn_7 : decode cX9_partsIn 7 = .ok (.goto 7, 3) := by decide +kernel
theorem dX9_partsIn_10 : decode cX9_partsIn 10 = .ok (.iload_n 0, 1) := by decide +kernel
theorem dX9_partsIn_11 : decode cX9_partsIn 11 = .ok (.bipush 7, 2) := by decide +kernel
theorem dX9_partsIn_13 : decode cX9_partsIn 13 = .ok (.iand, 1) := by decide +kernel
theorem dX9_partsIn_14 : decode cX9_partsIn 14 = .ok (.ireturn, 1) := by decide +kernel
