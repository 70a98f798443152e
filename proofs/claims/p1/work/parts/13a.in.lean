theorem sub_1 : ∀ w ∈ tables_1_1, w ∈ lw_tbl := fun _ h => List.mem_append_right _ (List.mem_append_left _ h)
theorem sub_2 : ∀ w ∈ tables_1_2, w ∈ lw_tbl := fun _ h => List.mem_append_right _ (List.mem_append_right _ (List.mem_append_left _ h))
theorem sub_3 : ∀ w ∈ tables_1_3, w ∈ lw_tbl := fun _ h => List.mem_append_right _ (List.mem_append_right _ (List.mem_append_right _ (List.mem_append_left _ h)))
theorem sub_4 : ∀ w ∈ tables_1_4, w ∈ lw_tbl := fun _ h => List.mem_append_right _ (List.mem_append_right _ (List.mem_append_right _ (List.mem_append_right _ (List.mem_append_left _ h))))
theorem sub_5 : ∀ w ∈ tables_1_5, w ∈ lw_tbl := fun _ h => List.mem_append_right _ (List.mem_append_right _ (List.mem_append_right _ (List.mem_append_right _ (List.mem_append_right _ (List.mem_append_left _ h)))))
theorem sub_6 : ∀ w ∈ tables_1_6, w ∈ lw_tbl := fun _ h => List.mem_append_right _ (List.mem_append_right _ (List.mem_append_right _ (List.mem_append_right _ (List.mem_append_right _ (List.mem_append_right _ (List.mem_append_left _ h))))))
theorem sub_7 : ∀ w ∈ tables_1_7, w ∈ lw_tbl := fun _ h => List.mem_append_right _ (List.mem_append_right _ (List.mem_append_right _ (List.mem_append_right _ (List.mem_append_right _ (List.mem_append_right _ (List.mem_append_right _ (List.mem_append_left _ h)))))))
theorem sub_8 : ∀ w ∈ tables_1_8, w ∈ lw_tbl := fun _ h => List.mem_append_right _ (List.mem_append_right _ (List.mem_append_right _ (List.mem_append_right _ (List.mem_append_right _ (List.mem_append_right _ (List.mem_append_right _ (List.mem_append_right _ (List.mem_append_left _ h))))))))
theorem sub_9 : ∀ w ∈ tables_1_9, w ∈ lw_tbl := fun _ h => List.mem_append_right _ (List.mem_append_right _ (List.mem_append_right _ (List.mem_append_right _ (List.mem_append_right _ (List.mem_append_right _ (List.mem_append_right _ (List.mem_append_right _ (List.mem_append_right _ (List.mem_append_left _ h)))))))))
theorem sub_10 : ∀ w ∈ tables_1_10, w ∈ lw_tbl := fun _ h => List.mem_append_right _ (List.mem_append_right _ (List.mem_append_right _ (List.mem_append_right _ (List.mem_append_right _ (List.mem_append_right _ (List.mem_append_right _ (List.mem_append_right _ (List.mem_append_right _ (List.mem_append_right _ h)))))))))
def pl_ok (big : List Cond) (q : Cond × Option Nat) : Bool := match q.2 with
  | some i => decide (big[i]? = some q.1)
  | none => decide (q.1 ∈ big)
theorem pl_in {big ws : List Cond} (ps : List (Option Nat)) (hl : ws.length = ps.length) (h : (ws.zip ps).all (pl_ok big) = true) : ∀ w ∈ ws, w ∈ big := by
  intro w hw
  obtain ⟨i, hi, rfl⟩ := List.getElem_of_mem hw
  have hi2 : i < ps.length := hl ▸ hi
  have hz : i < (ws.zip ps).length := by rw [List.length_zip]; omega
  have h1 := List.all_eq_true.mp h (ws.zip ps)[i] (List.getElem_mem hz)
  rw [List.getElem_zip] at h1
  unfold pl_ok at h1
  cases hp : ps[i] with
  | none => rw [hp] at h1; exact of_decide_eq_true h1
  | some k => rw [hp] at h1; exact List.mem_of_getElem? (of_decide_eq_true h1)
set_option maxRecDepth 20000 in
theorem lin_wsX00 : ∀ w ∈ wsX00, w ∈ lw_tbl := pl_in [some 440, some 442, some 444, some 446, some 448, some 450, some 452, some 454, some 456, some 458, some 460, some 462, some 464, some 466, some 468, some 470, some 472, some 474, some 476, some 478] rfl (by decide +kernel)
set_option maxRecDepth 20000 in
theorem lin_wsX10 : ∀ w ∈ wsX10, w ∈ lw_tbl := pl_in [some 340, some 342, some 344, some 346, some 348, some 350, some 352, some 354] rfl (by decide +kernel)
set_option maxRecDepth 20000 in
theorem lin_wsX20 : ∀ w ∈ wsX20, w ∈ lw_tbl := pl_in [some 376, some 378, some 380, some 382] rfl (by decide +kernel)
set_option maxRecDepth 20000 in
theorem lin_wsX30 : ∀ w ∈ wsX30, w ∈ lw_tbl := pl_in [some 207, some 209, some 211, some 213, some 215, some 217, some 219] rfl (by decide +kernel)
set_option maxRecDepth 20000 in
theorem lin_wsX40 : ∀ w ∈ wsX40, w ∈ lw_tbl := pl_in [some 400, some 402, some 404, some 406, some 408] rfl (by decide +kernel)
set_option maxRecDepth 20000 in
theorem lin_wsX50 : ∀ w ∈ wsX50, w ∈ lw_tbl := pl_in [some 242, some 244, some 246, some 248, some 250, some 252, some 254, some 256] rfl (by decide +kernel)
set_option maxRecDepth 20000 in
theorem lin_wsX60 : ∀ w ∈ wsX60, w ∈ lw_tbl := pl_in [some 554, some 556, some 558, some 560] rfl (by decide +kernel)
set_option maxRecDepth 20000 in
theorem lin_wsX70 : ∀ w ∈ wsX70, w ∈ lw_tbl := pl_in [some 507, some 509, some 511, some 513, some 515, some 517, some 519, some 521, some 523, some 525, some 527, some 529, some 531, some 533, some 535, some 537] rfl (by decide +kernel)
set_option maxRecDepth 20000 in
theorem lin_wsX80 : ∀ w ∈ wsX80, w ∈ lw_tbl := pl_in [some 286, some 288, some 290, some 292, some 294, some 296, some 298, some 300, some 302, some 304, some 306, some 308, some 310, some 312, some 314, some 316, some 318, some 320, some 322] rfl (by decide +kernel)
set_option maxRecDepth 20000 in
theorem lin_wsX90 : ∀ w ∈ wsX90, w ∈ lw_tbl := pl_in [some 579, some 581, some 583, some 585, some 587, some 589, some 591, some 593, some 595, some 597, some 599, some 601, some 603, some 605, some 607, some 609] rfl (by decide +kernel)
set_option maxRecDepth 20000 in
theorem lin_wsX100 : ∀ w ∈ wsX100, w ∈ lw_tbl := pl_in [some 1670, some 1672, some 1674, some 1676, some 1678, some 1680, some 1682, some 1684, some 1686, some 1688, some 1690, some 1692, some 1694, some 1696, some 1698, some 1700, some 1702, some 1704, some 1706, some 1708, some 1710, some 1712, some 1714, some 1716, some 1718, some 1720, some 1722, some 1724, some 1726, some 1728, some 1730, some 1732, some 1734, some 1736, some 1738, some 1740, some 1742, some 1744, some 1746, some 1748, some 1750, some 1752, some 1754, some 1756, some 1758, some 1760, some 1762, some 1764, some 1766, some 1768] rfl (by decide +kernel)
set_option maxRecDepth 20000 in
theorem at_129 : ∀ w ∈ (vx_atS RX9 129 "java/lang/IllegalArgumentException" ["java/lang/RuntimeException", "java/lang/Exception"]).filter goodWord, w ∈ lw_tbl := by decide +kernel
set_option maxRecDepth 20000 in
theorem at_157 : ∀ w ∈ (vx_atS RX9 157 "java/lang/IllegalStateException" ["java/lang/RuntimeException", "java/lang/Exception"]).filter goodWord, w ∈ lw_tbl := by decide +kernel
set_option maxRecDepth 20000 in
theorem at_419 : ∀ w ∈ (vx_atS RX9 419 "java/lang/IndexOutOfBoundsException" ["java/lang/RuntimeException", "java/lang/Exception"]).filter goodWord, w ∈ lw_tbl := by decide +kernel
theorem mw_0 : (.arrayClass .int : Cond) ∈ lw_tbl := sub_1 _ (List.mem_of_getElem? (i := 70) (by decide +kernel))
theorem mw_1 : (.code objectInit ⟨#[0xb1]⟩ 1 none : Cond) ∈ lw_tbl := sub_1 _ (List.mem_of_getElem? (i := 34) (by decide +kernel))
theorem mw_2 : (.instanceMethod objectInit : Cond) ∈ lw_tbl := sub_1 _ (List.mem_of_getElem? (i := 33) (by decide +kernel))
theorem mw_3 : (.methodLink RX3 3 objectInit : Cond) ∈ lw_tbl := sub_1 _ (List.mem_of_getElem? (i := 40) (by decide +kernel))
theorem mw_4 : (.fieldLink RX3 9 "SumRewriter$Scanner" "tape" "[I" : Cond) ∈ lw_tbl := sub_1 _ (List.mem_of_getElem? (i := 41) (by decide +kernel))
theorem mw_5 : (.code yX3_init cX3_init 1 none : Cond) ∈ lw_tbl := sub_1 _ (List.mem_of_getElem? (i := 39) (by decide +kernel))
theorem mw_6 : (.methodLink RX5 3 objectInit : Cond) ∈ lw_tbl := sub_1 _ (List.mem_of_getElem? (i := 76) (by decide +kernel))
theorem mw_7 : (.fieldLink RX5 24 "SumRewriter$Signature" "variableNames" "[I" : Cond) ∈ lw_tbl := sub_1 _ (List.mem_of_getElem? (i := 83) (by decide +kernel))
theorem mw_8 : (.fieldLink RX5 21 "SumRewriter$Signature" "units" "[I" : Cond) ∈ lw_tbl := sub_1 _ (List.mem_of_getElem? (i := 81) (by decide +kernel))
theorem mw_9 : (.fieldLink RX5 18 "SumRewriter$Signature" "parts" "[I" : Cond) ∈ lw_tbl := sub_1 _ (List.mem_of_getElem? (i := 80) (by decide +kernel))
theorem mw_10 : (.fieldLink RX5 15 "SumRewriter$Signature" "kinds" "[I" : Cond) ∈ lw_tbl := sub_1 _ (List.mem_of_getElem? (i := 78) (by decide +kernel))
theorem mw_11 : (.fieldLink RX5 9 "SumRewriter$Signature" "names" "[I" : Cond) ∈ lw_tbl := sub_1 _ (List.mem_of_getElem? (i := 77) (by decide +kernel))
theorem mw_12 : (.code yX5_init cX5_init 1 none : Cond) ∈ lw_tbl := sub_1 _ (List.mem_of_getElem? (i := 75) (by decide +kernel))
theorem mw_13 : (.arrayClass .long : Cond) ∈ lw_tbl := sub_1 _ (List.mem_of_getElem? (i := 173) (by decide +kernel))
theorem mw_14 : (.methodLink RX8 3 objectInit : Cond) ∈ lw_tbl := sub_1 _ (List.mem_of_getElem? (i := 112) (by decide +kernel))
theorem mw_15 : (.fieldLink RX8 46 "SumRewriter$Terms" "kinds" "LSumRewriter$Signature;" : Cond) ∈ lw_tbl := sub_1 _ (List.mem_of_getElem? (i := 113) (by decide +kernel))
theorem mw_16 : (.fieldLink RX8 43 "SumRewriter$Terms" "stack" "[I" : Cond) ∈ lw_tbl := sub_1 _ (List.mem_of_getElem? (i := 124) (by decide +kernel))
theorem mw_17 : (.fieldLink RX8 40 "SumRewriter$Terms" "line" "[I" : Cond) ∈ lw_tbl := sub_1 _ (List.mem_of_getElem? (i := 123) (by decide +kernel))
theorem mw_18 : (.fieldLink RX8 34 "SumRewriter$Terms" "nexts" "[I" : Cond) ∈ lw_tbl := sub_1 _ (List.mem_of_getElem? (i := 121) (by decide +kernel))
theorem mw_19 : (.fieldLink RX8 31 "SumRewriter$Terms" "hashes" "[I" : Cond) ∈ lw_tbl := sub_1 _ (List.mem_of_getElem? (i := 120) (by decide +kernel))
theorem mw_20 : (.fieldLink RX8 28 "SumRewriter$Terms" "highs" "[J" : Cond) ∈ lw_tbl := sub_1 _ (List.mem_of_getElem? (i := 119) (by decide +kernel))
theorem mw_21 : (.fieldLink RX8 24 "SumRewriter$Terms" "lows" "[J" : Cond) ∈ lw_tbl := sub_1 _ (List.mem_of_getElem? (i := 118) (by decide +kernel))
theorem mw_22 : (.fieldLink RX8 21 "SumRewriter$Terms" "parts" "[I" : Cond) ∈ lw_tbl := sub_1 _ (List.mem_of_getElem? (i := 117) (by decide +kernel))
theorem mw_23 : (.fieldLink RX8 18 "SumRewriter$Terms" "masks" "[I" : Cond) ∈ lw_tbl := sub_1 _ (List.mem_of_getElem? (i := 116) (by decide +kernel))
theorem mw_24 : (.fieldLink RX8 15 "SumRewriter$Terms" "sizes" "[I" : Cond) ∈ lw_tbl := sub_1 _ (List.mem_of_getElem? (i := 115) (by decide +kernel))
theorem mw_25 : (.fieldLink RX8 11 "SumRewriter$Terms" "codes" "[I" : Cond) ∈ lw_tbl := sub_1 _ (List.mem_of_getElem? (i := 114) (by decide +kernel))
theorem mw_26 : (.fieldLink RX8 37 "SumRewriter$Terms" "buckets" "[I" : Cond) ∈ lw_tbl := sub_1 _ (List.mem_of_getElem? (i := 122) (by decide +kernel))
theorem mw_27 : (.code yX8_init cX8_init 3 none : Cond) ∈ lw_tbl := sub_1 _ (List.mem_of_getElem? (i := 111) (by decide +kernel))
theorem mw_28 : (.methodLink RX1 3 objectInit : Cond) ∈ lw_tbl := sub_1 _ (List.mem_of_getElem? (i := 179) (by decide +kernel))
theorem mw_29 : (.fieldLink RX1 29 "SumRewriter$Reader" "terms" "LSumRewriter$Terms;" : Cond) ∈ lw_tbl := sub_1 _ (List.mem_of_getElem? (i := 182) (by decide +kernel))
theorem mw_30 : (.fieldLink RX1 25 "SumRewriter$Reader" "names" "LSumRewriter$Signature;" : Cond) ∈ lw_tbl := sub_1 _ (List.mem_of_getElem? (i := 181) (by decide +kernel))
theorem mw_31 : (.fieldLink RX1 21 "SumRewriter$Reader" "in" "LSumRewriter$Scanner;" : Cond) ∈ lw_tbl := sub_1 _ (List.mem_of_getElem? (i := 180) (by decide +kernel))
theorem mw_32 : (.fieldLink RX1 18 "SumRewriter$Reader" "bases" "[I" : Cond) ∈ lw_tbl := sub_1 _ (List.mem_of_getElem? (i := 185) (by decide +kernel))
theorem mw_33 : (.fieldLink RX1 15 "SumRewriter$Reader" "operators" "[I" : Cond) ∈ lw_tbl := sub_1 _ (List.mem_of_getElem? (i := 184) (by decide +kernel))
theorem mw_34 : (.fieldLink RX1 9 "SumRewriter$Reader" "values" "[I" : Cond) ∈ lw_tbl := sub_1 _ (List.mem_of_getElem? (i := 183) (by decide +kernel))
theorem mw_35 : (.code yX1_init cX1_init 4 none : Cond) ∈ lw_tbl := sub_1 _ (List.mem_of_getElem? (i := 178) (by decide +kernel))
theorem mw_36 : (.methodLink RX2 3 objectInit : Cond) ∈ lw_tbl := sub_1 _ (List.mem_of_getElem? (i := 210) (by decide +kernel))
theorem mw_37 : (.fieldLink RX2 27 "SumRewriter$Rows" "open" "[I" : Cond) ∈ lw_tbl := sub_1 _ (List.mem_of_getElem? (i := 219) (by decide +kernel))
theorem mw_38 : (.fieldLink RX2 24 "SumRewriter$Rows" "lengths" "[I" : Cond) ∈ lw_tbl := sub_1 _ (List.mem_of_getElem? (i := 218) (by decide +kernel))
theorem mw_39 : (.fieldLink RX2 18 "SumRewriter$Rows" "cells" "[I" : Cond) ∈ lw_tbl := sub_1 _ (List.mem_of_getElem? (i := 217) (by decide +kernel))
theorem mw_40 : (.code Lib.Math.max.name Lib.Math.max.code 2 (some .int) : Cond) ∈ lw_tbl := sub_1 _ (List.mem_of_getElem? (i := 216) (by decide +kernel))
theorem mw_41 : (.static Lib.Math.max.name : Cond) ∈ lw_tbl := sub_1 _ (List.mem_of_getElem? (i := 215) (by decide +kernel))
theorem mw_42 : (.methodLink RX2 15 Lib.Math.max.name : Cond) ∈ lw_tbl := sub_1 _ (List.mem_of_getElem? (i := 214) (by decide +kernel))
theorem mw_43 : (.code Lib.Math.min.name Lib.Math.min.code 2 (some .int) : Cond) ∈ lw_tbl := sub_1 _ (List.mem_of_getElem? (i := 213) (by decide +kernel))
theorem mw_44 : (.initialized "java/lang/Math" : Cond) ∈ lw_tbl := sub_1 _ (List.mem_of_getElem? (i := 7) (by decide +kernel))
theorem mw_45 : (.static Lib.Math.min.name : Cond) ∈ lw_tbl := sub_1 _ (List.mem_of_getElem? (i := 212) (by decide +kernel))
theorem mw_46 : (.methodLink RX2 9 Lib.Math.min.name : Cond) ∈ lw_tbl := sub_1 _ (List.mem_of_getElem? (i := 211) (by decide +kernel))
theorem mw_47 : (.code yX2_init cX2_init 3 none : Cond) ∈ lw_tbl := sub_1 _ (List.mem_of_getElem? (i := 209) (by decide +kernel))
theorem mw_48 : (.instanceMethod yX2_init : Cond) ∈ lw_tbl := sub_1 _ (List.mem_of_getElem? (i := 208) (by decide +kernel))
theorem mw_49 : (.methodLink RX4 11 yX2_init : Cond) ∈ lw_tbl := sub_2 _ (List.mem_of_getElem? (i := 0) (by decide +kernel))
theorem mw_50 : (.initialized RX2 : Cond) ∈ lw_tbl := sub_1 _ (List.mem_of_getElem? (i := 6) (by decide +kernel))
theorem mw_51 : (.instantiable RX2 4 : Cond) ∈ lw_tbl := sub_1 _ (List.mem_of_getElem? (i := 206) (by decide +kernel))
theorem mw_52 : (.classLink RX4 9 RX2 : Cond) ∈ lw_tbl := sub_1 _ (List.mem_of_getElem? (i := 239) (by decide +kernel))
theorem mw_53 : (.methodLink RX4 3 objectInit : Cond) ∈ lw_tbl := sub_1 _ (List.mem_of_getElem? (i := 238) (by decide +kernel))
theorem mw_54 : (.fieldLink RX4 27 "SumRewriter$Shown" "names" "LSumRewriter$Signature;" : Cond) ∈ lw_tbl := sub_2 _ (List.mem_of_getElem? (i := 1) (by decide +kernel))
theorem mw_55 : (.fieldLink RX4 24 "SumRewriter$Shown" "awaited" "[I" : Cond) ∈ lw_tbl := sub_2 _ (List.mem_of_getElem? (i := 5) (by decide +kernel))
theorem mw_56 : (.fieldLink RX4 20 "SumRewriter$Shown" "bytes" "[I" : Cond) ∈ lw_tbl := sub_2 _ (List.mem_of_getElem? (i := 4) (by decide +kernel))
theorem mw_57 : (.fieldLink RX4 14 "SumRewriter$Shown" "row" "LSumRewriter$Rows;" : Cond) ∈ lw_tbl := sub_2 _ (List.mem_of_getElem? (i := 2) (by decide +kernel))
theorem mw_58 : (.code yX4_init cX4_init 2 none : Cond) ∈ lw_tbl := sub_1 _ (List.mem_of_getElem? (i := 237) (by decide +kernel))
theorem mw_59 : (.methodLink RX0 5 objectInit : Cond) ∈ lw_tbl := sub_2 _ (List.mem_of_getElem? (i := 24) (by decide +kernel))
theorem mw_60 : (.fieldLink RX0 53 "SumRewriter$Matcher" "terms" "LSumRewriter$Terms;" : Cond) ∈ lw_tbl := sub_2 _ (List.mem_of_getElem? (i := 25) (by decide +kernel))
theorem mw_61 : (.fieldLink RX0 50 "SumRewriter$Matcher" "sorted" "[I" : Cond) ∈ lw_tbl := sub_2 _ (List.mem_of_getElem? (i := 39) (by decide +kernel))
theorem mw_62 : (.fieldLink RX0 47 "SumRewriter$Matcher" "found" "[I" : Cond) ∈ lw_tbl := sub_2 _ (List.mem_of_getElem? (i := 37) (by decide +kernel))
theorem mw_63 : (.fieldLink RX0 44 "SumRewriter$Matcher" "branchUsed" "[I" : Cond) ∈ lw_tbl := sub_2 _ (List.mem_of_getElem? (i := 36) (by decide +kernel))
theorem mw_64 : (.fieldLink RX0 41 "SumRewriter$Matcher" "branchBound" "[I" : Cond) ∈ lw_tbl := sub_2 _ (List.mem_of_getElem? (i := 35) (by decide +kernel))
theorem mw_65 : (.fieldLink RX0 38 "SumRewriter$Matcher" "branchLimits" "[I" : Cond) ∈ lw_tbl := sub_2 _ (List.mem_of_getElem? (i := 34) (by decide +kernel))
theorem mw_66 : (.fieldLink RX0 35 "SumRewriter$Matcher" "branchWays" "[I" : Cond) ∈ lw_tbl := sub_2 _ (List.mem_of_getElem? (i := 33) (by decide +kernel))
theorem mw_67 : (.fieldLink RX0 32 "SumRewriter$Matcher" "branchParts" "[I" : Cond) ∈ lw_tbl := sub_2 _ (List.mem_of_getElem? (i := 32) (by decide +kernel))
theorem mw_68 : (.fieldLink RX0 29 "SumRewriter$Matcher" "branchGoals" "[I" : Cond) ∈ lw_tbl := sub_2 _ (List.mem_of_getElem? (i := 31) (by decide +kernel))
theorem mw_69 : (.fieldLink RX0 26 "SumRewriter$Matcher" "bindings" "[I" : Cond) ∈ lw_tbl := sub_2 _ (List.mem_of_getElem? (i := 30) (by decide +kernel))
theorem mw_70 : (.fieldLink RX0 23 "SumRewriter$Matcher" "goalNexts" "[I" : Cond) ∈ lw_tbl := sub_2 _ (List.mem_of_getElem? (i := 29) (by decide +kernel))
theorem mw_71 : (.fieldLink RX0 20 "SumRewriter$Matcher" "goalTargets" "[I" : Cond) ∈ lw_tbl := sub_2 _ (List.mem_of_getElem? (i := 28) (by decide +kernel))
theorem mw_72 : (.fieldLink RX0 17 "SumRewriter$Matcher" "goalParts" "[I" : Cond) ∈ lw_tbl := sub_2 _ (List.mem_of_getElem? (i := 27) (by decide +kernel))
theorem mw_73 : (.fieldLink RX0 13 "SumRewriter$Matcher" "goalPatterns" "[I" : Cond) ∈ lw_tbl := sub_2 _ (List.mem_of_getElem? (i := 26) (by decide +kernel))
theorem mw_74 : (.code yX0_init cX0_init 2 none : Cond) ∈ lw_tbl := sub_2 _ (List.mem_of_getElem? (i := 23) (by decide +kernel))
theorem mw_75 : (.methodLink RX7 11 yX2_init : Cond) ∈ lw_tbl := sub_2 _ (List.mem_of_getElem? (i := 96) (by decide +kernel))
theorem mw_76 : (.classLink RX7 9 RX2 : Cond) ∈ lw_tbl := sub_2 _ (List.mem_of_getElem? (i := 95) (by decide +kernel))
theorem mw_77 : (.methodLink RX7 3 objectInit : Cond) ∈ lw_tbl := sub_2 _ (List.mem_of_getElem? (i := 94) (by decide +kernel))
theorem mw_78 : (.fieldLink RX7 52 "SumRewriter$Stepper" "matcher" "LSumRewriter$Matcher;" : Cond) ∈ lw_tbl := sub_2 _ (List.mem_of_getElem? (i := 98) (by decide +kernel))
theorem mw_79 : (.fieldLink RX7 48 "SumRewriter$Stepper" "terms" "LSumRewriter$Terms;" : Cond) ∈ lw_tbl := sub_2 _ (List.mem_of_getElem? (i := 97) (by decide +kernel))
theorem mw_80 : (.fieldLink RX7 45 "SumRewriter$Stepper" "placeSeen" "[I" : Cond) ∈ lw_tbl := sub_2 _ (List.mem_of_getElem? (i := 110) (by decide +kernel))
theorem mw_81 : (.fieldLink RX7 42 "SumRewriter$Stepper" "placeIndexes" "[I" : Cond) ∈ lw_tbl := sub_2 _ (List.mem_of_getElem? (i := 109) (by decide +kernel))
theorem mw_82 : (.fieldLink RX7 39 "SumRewriter$Stepper" "placeParents" "[I" : Cond) ∈ lw_tbl := sub_2 _ (List.mem_of_getElem? (i := 108) (by decide +kernel))
theorem mw_83 : (.fieldLink RX7 36 "SumRewriter$Stepper" "placeNodes" "[I" : Cond) ∈ lw_tbl := sub_2 _ (List.mem_of_getElem? (i := 107) (by decide +kernel))
theorem mw_84 : (.fieldLink RX7 33 "SumRewriter$Stepper" "rights" "[I" : Cond) ∈ lw_tbl := sub_2 _ (List.mem_of_getElem? (i := 106) (by decide +kernel))
theorem mw_85 : (.fieldLink RX7 30 "SumRewriter$Stepper" "lefts" "[I" : Cond) ∈ lw_tbl := sub_2 _ (List.mem_of_getElem? (i := 105) (by decide +kernel))
theorem mw_86 : (.fieldLink RX7 27 "SumRewriter$Stepper" "stepRules" "[I" : Cond) ∈ lw_tbl := sub_2 _ (List.mem_of_getElem? (i := 104) (by decide +kernel))
theorem mw_87 : (.fieldLink RX7 24 "SumRewriter$Stepper" "stepPlaces" "[I" : Cond) ∈ lw_tbl := sub_2 _ (List.mem_of_getElem? (i := 103) (by decide +kernel))
theorem mw_88 : (.fieldLink RX7 20 "SumRewriter$Stepper" "sorted" "[I" : Cond) ∈ lw_tbl := sub_2 _ (List.mem_of_getElem? (i := 102) (by decide +kernel))
theorem mw_89 : (.fieldLink RX7 14 "SumRewriter$Stepper" "found" "LSumRewriter$Rows;" : Cond) ∈ lw_tbl := sub_2 _ (List.mem_of_getElem? (i := 99) (by decide +kernel))
theorem mw_90 : (.code yX7_init cX7_init 3 none : Cond) ∈ lw_tbl := sub_2 _ (List.mem_of_getElem? (i := 93) (by decide +kernel))
theorem mw_91 : (.methodLink RX6 11 yX2_init : Cond) ∈ lw_tbl := sub_2 _ (List.mem_of_getElem? (i := 155) (by decide +kernel))
theorem mw_92 : (.classLink RX6 9 RX2 : Cond) ∈ lw_tbl := sub_2 _ (List.mem_of_getElem? (i := 154) (by decide +kernel))
theorem mw_93 : (.methodLink RX6 3 objectInit : Cond) ∈ lw_tbl := sub_2 _ (List.mem_of_getElem? (i := 153) (by decide +kernel))
theorem mw_94 : (.fieldLink RX6 20 "SumRewriter$Spread" "stepper" "LSumRewriter$Stepper;" : Cond) ∈ lw_tbl := sub_2 _ (List.mem_of_getElem? (i := 156) (by decide +kernel))
theorem mw_95 : (.fieldLink RX6 14 "SumRewriter$Spread" "rows" "LSumRewriter$Rows;" : Cond) ∈ lw_tbl := sub_2 _ (List.mem_of_getElem? (i := 157) (by decide +kernel))
theorem mw_96 : (.code yX6_init cX6_init 2 none : Cond) ∈ lw_tbl := sub_2 _ (List.mem_of_getElem? (i := 152) (by decide +kernel))
theorem mw_97 : (.instanceMethod yX6_init : Cond) ∈ lw_tbl := sub_2 _ (List.mem_of_getElem? (i := 151) (by decide +kernel))
theorem mw_98 : (.methodLink RX9 86 yX6_init : Cond) ∈ lw_tbl := sub_2 _ (List.mem_of_getElem? (i := 150) (by decide +kernel))
theorem mw_99 : (.initialized RX6 : Cond) ∈ lw_tbl := sub_1 _ (List.mem_of_getElem? (i := 11) (by decide +kernel))
theorem mw_100 : (.instantiable RX6 4 : Cond) ∈ lw_tbl := sub_2 _ (List.mem_of_getElem? (i := 149) (by decide +kernel))
theorem mw_101 : (.classLink RX9 84 RX6 : Cond) ∈ lw_tbl := sub_2 _ (List.mem_of_getElem? (i := 148) (by decide +kernel))
theorem mw_102 : (.instanceMethod yX7_init : Cond) ∈ lw_tbl := sub_2 _ (List.mem_of_getElem? (i := 92) (by decide +kernel))
theorem mw_103 : (.methodLink RX9 77 yX7_init : Cond) ∈ lw_tbl := sub_2 _ (List.mem_of_getElem? (i := 91) (by decide +kernel))
theorem mw_104 : (.initialized RX7 : Cond) ∈ lw_tbl := sub_1 _ (List.mem_of_getElem? (i := 10) (by decide +kernel))
theorem mw_105 : (.instantiable RX7 16 : Cond) ∈ lw_tbl := sub_2 _ (List.mem_of_getElem? (i := 90) (by decide +kernel))
theorem mw_106 : (.classLink RX9 75 RX7 : Cond) ∈ lw_tbl := sub_2 _ (List.mem_of_getElem? (i := 89) (by decide +kernel))
theorem mw_107 : (.instanceMethod yX0_init : Cond) ∈ lw_tbl := sub_2 _ (List.mem_of_getElem? (i := 22) (by decide +kernel))
theorem mw_108 : (.methodLink RX9 68 yX0_init : Cond) ∈ lw_tbl := sub_2 _ (List.mem_of_getElem? (i := 21) (by decide +kernel))
theorem mw_109 : (.initialized RX0 : Cond) ∈ lw_tbl := sub_1 _ (List.mem_of_getElem? (i := 9) (by decide +kernel))
theorem mw_110 : (.instantiable RX0 20 : Cond) ∈ lw_tbl := sub_2 _ (List.mem_of_getElem? (i := 20) (by decide +kernel))
theorem mw_111 : (.classLink RX9 66 RX0 : Cond) ∈ lw_tbl := sub_2 _ (List.mem_of_getElem? (i := 19) (by decide +kernel))
theorem mw_112 : (.instanceMethod yX4_init : Cond) ∈ lw_tbl := sub_1 _ (List.mem_of_getElem? (i := 236) (by decide +kernel))
theorem mw_113 : (.methodLink RX9 61 yX4_init : Cond) ∈ lw_tbl := sub_1 _ (List.mem_of_getElem? (i := 235) (by decide +kernel))
theorem mw_114 : (.initialized RX4 : Cond) ∈ lw_tbl := sub_1 _ (List.mem_of_getElem? (i := 8) (by decide +kernel))
theorem mw_115 : (.instantiable RX4 5 : Cond) ∈ lw_tbl := sub_1 _ (List.mem_of_getElem? (i := 234) (by decide +kernel))
theorem mw_116 : (.classLink RX9 59 RX4 : Cond) ∈ lw_tbl := sub_1 _ (List.mem_of_getElem? (i := 233) (by decide +kernel))
theorem mw_117 : (.methodLink RX9 46 yX2_init : Cond) ∈ lw_tbl := sub_1 _ (List.mem_of_getElem? (i := 207) (by decide +kernel))
theorem mw_118 : (.classLink RX9 44 RX2 : Cond) ∈ lw_tbl := sub_1 _ (List.mem_of_getElem? (i := 205) (by decide +kernel))
theorem mw_119 : (.instanceMethod yX1_init : Cond) ∈ lw_tbl := sub_1 _ (List.mem_of_getElem? (i := 177) (by decide +kernel))
theorem mw_120 : (.methodLink RX9 37 yX1_init : Cond) ∈ lw_tbl := sub_1 _ (List.mem_of_getElem? (i := 176) (by decide +kernel))
theorem mw_121 : (.initialized RX1 : Cond) ∈ lw_tbl := sub_1 _ (List.mem_of_getElem? (i := 5) (by decide +kernel))
theorem mw_122 : (.instantiable RX1 8 : Cond) ∈ lw_tbl := sub_1 _ (List.mem_of_getElem? (i := 175) (by decide +kernel))
theorem mw_123 : (.classLink RX9 35 RX1 : Cond) ∈ lw_tbl := sub_1 _ (List.mem_of_getElem? (i := 174) (by decide +kernel))
theorem mw_124 : (.instanceMethod yX8_init : Cond) ∈ lw_tbl := sub_1 _ (List.mem_of_getElem? (i := 110) (by decide +kernel))
theorem mw_125 : (.methodLink RX9 28 yX8_init : Cond) ∈ lw_tbl := sub_1 _ (List.mem_of_getElem? (i := 109) (by decide +kernel))
theorem mw_126 : (.initialized RX8 : Cond) ∈ lw_tbl := sub_1 _ (List.mem_of_getElem? (i := 4) (by decide +kernel))
theorem mw_127 : (.instantiable RX8 19 : Cond) ∈ lw_tbl := sub_1 _ (List.mem_of_getElem? (i := 108) (by decide +kernel))
theorem mw_128 : (.classLink RX9 26 RX8 : Cond) ∈ lw_tbl := sub_1 _ (List.mem_of_getElem? (i := 107) (by decide +kernel))
theorem mw_129 : (.instanceMethod yX5_init : Cond) ∈ lw_tbl := sub_1 _ (List.mem_of_getElem? (i := 74) (by decide +kernel))
theorem mw_130 : (.initialized RX5 : Cond) ∈ lw_tbl := sub_1 _ (List.mem_of_getElem? (i := 3) (by decide +kernel))
theorem mw_131 : (.instantiable RX5 8 : Cond) ∈ lw_tbl := sub_1 _ (List.mem_of_getElem? (i := 72) (by decide +kernel))
theorem mw_132 : (.classLink RX9 16 RX5 : Cond) ∈ lw_tbl := sub_1 _ (List.mem_of_getElem? (i := 71) (by decide +kernel))
theorem mw_133 : (.instanceMethod yX3_init : Cond) ∈ lw_tbl := sub_1 _ (List.mem_of_getElem? (i := 38) (by decide +kernel))
theorem mw_134 : (.initialized RX3 : Cond) ∈ lw_tbl := sub_1 _ (List.mem_of_getElem? (i := 2) (by decide +kernel))
theorem mw_135 : (.instantiable RX3 7 : Cond) ∈ lw_tbl := sub_1 _ (List.mem_of_getElem? (i := 36) (by decide +kernel))
theorem mw_136 : (.classLink RX9 7 RX3 : Cond) ∈ lw_tbl := sub_1 _ (List.mem_of_getElem? (i := 35) (by decide +kernel))
theorem mw_137 : (.methodLink RX9 1 objectInit : Cond) ∈ lw_tbl := sub_1 _ (List.mem_of_getElem? (i := 32) (by decide +kernel))
theorem mw_138 : (.fieldLink RX9 104 "SumRewriter" "faultAt" "I" : Cond) ∈ lw_tbl := sub_2 _ (List.mem_of_getElem? (i := 186) (by decide +kernel))
theorem mw_139 : (.fieldLink RX9 100 "SumRewriter" "rulesOn" "I" : Cond) ∈ lw_tbl := sub_2 _ (List.mem_of_getElem? (i := 185) (by decide +kernel))
theorem mw_140 : (.fieldLink RX9 96 "SumRewriter" "bindings" "[I" : Cond) ∈ lw_tbl := sub_2 _ (List.mem_of_getElem? (i := 184) (by decide +kernel))
theorem mw_141 : (.fieldLink RX9 93 "SumRewriter" "there" "LSumRewriter$Spread;" : Cond) ∈ lw_tbl := sub_2 _ (List.mem_of_getElem? (i := 183) (by decide +kernel))
theorem mw_142 : (.fieldLink RX9 89 "SumRewriter" "here" "LSumRewriter$Spread;" : Cond) ∈ lw_tbl := sub_2 _ (List.mem_of_getElem? (i := 182) (by decide +kernel))
theorem mw_143 : (.fieldLink RX9 80 "SumRewriter" "stepper" "LSumRewriter$Stepper;" : Cond) ∈ lw_tbl := sub_2 _ (List.mem_of_getElem? (i := 181) (by decide +kernel))
theorem mw_144 : (.fieldLink RX9 71 "SumRewriter" "matcher" "LSumRewriter$Matcher;" : Cond) ∈ lw_tbl := sub_2 _ (List.mem_of_getElem? (i := 180) (by decide +kernel))
theorem mw_145 : (.fieldLink RX9 62 "SumRewriter" "shown" "LSumRewriter$Shown;" : Cond) ∈ lw_tbl := sub_2 _ (List.mem_of_getElem? (i := 179) (by decide +kernel))
theorem mw_146 : (.fieldLink RX9 56 "SumRewriter" "scratch" "LSumRewriter$Rows;" : Cond) ∈ lw_tbl := sub_2 _ (List.mem_of_getElem? (i := 178) (by decide +kernel))
theorem mw_147 : (.fieldLink RX9 53 "SumRewriter" "sides" "LSumRewriter$Rows;" : Cond) ∈ lw_tbl := sub_2 _ (List.mem_of_getElem? (i := 177) (by decide +kernel))
theorem mw_148 : (.fieldLink RX9 49 "SumRewriter" "told" "LSumRewriter$Rows;" : Cond) ∈ lw_tbl := sub_2 _ (List.mem_of_getElem? (i := 176) (by decide +kernel))
theorem mw_149 : (.fieldLink RX9 40 "SumRewriter" "reader" "LSumRewriter$Reader;" : Cond) ∈ lw_tbl := sub_2 _ (List.mem_of_getElem? (i := 175) (by decide +kernel))
theorem mw_150 : (.fieldLink RX9 31 "SumRewriter" "terms" "LSumRewriter$Terms;" : Cond) ∈ lw_tbl := sub_2 _ (List.mem_of_getElem? (i := 174) (by decide +kernel))
theorem mw_151 : (.fieldLink RX9 23 "SumRewriter" "spare" "LSumRewriter$Signature;" : Cond) ∈ lw_tbl := sub_2 _ (List.mem_of_getElem? (i := 173) (by decide +kernel))
theorem mw_152 : (.fieldLink RX9 19 "SumRewriter" "current" "LSumRewriter$Signature;" : Cond) ∈ lw_tbl := sub_2 _ (List.mem_of_getElem? (i := 172) (by decide +kernel))
theorem mw_153 : (.fieldLink RX9 10 "SumRewriter" "scanner" "LSumRewriter$Scanner;" : Cond) ∈ lw_tbl := sub_2 _ (List.mem_of_getElem? (i := 171) (by decide +kernel))
theorem mw_154 : (.code yX9_init cX9_init 1 none : Cond) ∈ lw_tbl := sub_1 _ (List.mem_of_getElem? (i := 31) (by decide +kernel))
theorem mw_155 : (.arrayClass .byte : Cond) ∈ lw_tbl := sub_5 _ (List.mem_of_getElem? (i := 33) (by decide +kernel))
theorem mw_156 : (.methodLink RX10 3 objectInit : Cond) ∈ lw_tbl := sub_7 _ (List.mem_of_getElem? (i := 26) (by decide +kernel))
theorem mw_157 : (.fieldLink RX10 97 "SumRewriterModel" "reachDone" "[I" : Cond) ∈ lw_tbl := sub_7 _ (List.mem_of_getElem? (i := 76) (by decide +kernel))
theorem mw_158 : (.fieldLink RX10 94 "SumRewriterModel" "reachMany" "[I" : Cond) ∈ lw_tbl := sub_7 _ (List.mem_of_getElem? (i := 75) (by decide +kernel))
theorem mw_159 : (.fieldLink RX10 91 "SumRewriterModel" "reached" "[I" : Cond) ∈ lw_tbl := sub_7 _ (List.mem_of_getElem? (i := 74) (by decide +kernel))
theorem mw_160 : (.fieldLink RX10 88 "SumRewriterModel" "text" "[B" : Cond) ∈ lw_tbl := sub_7 _ (List.mem_of_getElem? (i := 71) (by decide +kernel))
theorem mw_161 : (.fieldLink RX10 85 "SumRewriterModel" "shownRow" "[I" : Cond) ∈ lw_tbl := sub_7 _ (List.mem_of_getElem? (i := 70) (by decide +kernel))
theorem mw_162 : (.fieldLink RX10 82 "SumRewriterModel" "stepRow" "[I" : Cond) ∈ lw_tbl := sub_7 _ (List.mem_of_getElem? (i := 68) (by decide +kernel))
theorem mw_163 : (.fieldLink RX10 79 "SumRewriterModel" "stepRule" "[I" : Cond) ∈ lw_tbl := sub_7 _ (List.mem_of_getElem? (i := 67) (by decide +kernel))
theorem mw_164 : (.fieldLink RX10 76 "SumRewriterModel" "stepPlace" "[I" : Cond) ∈ lw_tbl := sub_7 _ (List.mem_of_getElem? (i := 66) (by decide +kernel))
theorem mw_165 : (.fieldLink RX10 73 "SumRewriterModel" "found" "[I" : Cond) ∈ lw_tbl := sub_7 _ (List.mem_of_getElem? (i := 64) (by decide +kernel))
theorem mw_166 : (.fieldLink RX10 70 "SumRewriterModel" "work" "[I" : Cond) ∈ lw_tbl := sub_7 _ (List.mem_of_getElem? (i := 60) (by decide +kernel))
theorem mw_167 : (.fieldLink RX10 67 "SumRewriterModel" "bound" "[I" : Cond) ∈ lw_tbl := sub_7 _ (List.mem_of_getElem? (i := 59) (by decide +kernel))
theorem mw_168 : (.fieldLink RX10 64 "SumRewriterModel" "goalTerm" "[I" : Cond) ∈ lw_tbl := sub_7 _ (List.mem_of_getElem? (i := 58) (by decide +kernel))
theorem mw_169 : (.fieldLink RX10 61 "SumRewriterModel" "goalPattern" "[I" : Cond) ∈ lw_tbl := sub_7 _ (List.mem_of_getElem? (i := 57) (by decide +kernel))
theorem mw_170 : (.fieldLink RX10 58 "SumRewriterModel" "kept" "[I" : Cond) ∈ lw_tbl := sub_7 _ (List.mem_of_getElem? (i := 53) (by decide +kernel))
theorem mw_171 : (.fieldLink RX10 55 "SumRewriterModel" "spots" "[I" : Cond) ∈ lw_tbl := sub_7 _ (List.mem_of_getElem? (i := 52) (by decide +kernel))
theorem mw_172 : (.fieldLink RX10 52 "SumRewriterModel" "pool" "[I" : Cond) ∈ lw_tbl := sub_7 _ (List.mem_of_getElem? (i := 50) (by decide +kernel))
theorem mw_173 : (.constant RX10 51 (60000) : Cond) ∈ lw_tbl := sub_7 _ (List.mem_of_getElem? (i := 27) (by decide +kernel))
theorem mw_174 : (.fieldLink RX10 48 "SumRewriterModel" "newUnit" "[I" : Cond) ∈ lw_tbl := sub_7 _ (List.mem_of_getElem? (i := 45) (by decide +kernel))
theorem mw_175 : (.fieldLink RX10 45 "SumRewriterModel" "newMany" "[I" : Cond) ∈ lw_tbl := sub_7 _ (List.mem_of_getElem? (i := 44) (by decide +kernel))
theorem mw_176 : (.fieldLink RX10 42 "SumRewriterModel" "newSort" "[I" : Cond) ∈ lw_tbl := sub_7 _ (List.mem_of_getElem? (i := 43) (by decide +kernel))
theorem mw_177 : (.fieldLink RX10 39 "SumRewriterModel" "unit" "[I" : Cond) ∈ lw_tbl := sub_7 _ (List.mem_of_getElem? (i := 42) (by decide +kernel))
theorem mw_178 : (.fieldLink RX10 36 "SumRewriterModel" "many" "[I" : Cond) ∈ lw_tbl := sub_7 _ (List.mem_of_getElem? (i := 41) (by decide +kernel))
theorem mw_179 : (.fieldLink RX10 33 "SumRewriterModel" "sort" "[I" : Cond) ∈ lw_tbl := sub_7 _ (List.mem_of_getElem? (i := 40) (by decide +kernel))
theorem mw_180 : (.fieldLink RX10 30 "SumRewriterModel" "newNameMany" "[I" : Cond) ∈ lw_tbl := sub_7 _ (List.mem_of_getElem? (i := 39) (by decide +kernel))
theorem mw_181 : (.fieldLink RX10 27 "SumRewriterModel" "nameMany" "[I" : Cond) ∈ lw_tbl := sub_7 _ (List.mem_of_getElem? (i := 38) (by decide +kernel))
theorem mw_182 : (.fieldLink RX10 24 "SumRewriterModel" "newNames" "[B" : Cond) ∈ lw_tbl := sub_7 _ (List.mem_of_getElem? (i := 37) (by decide +kernel))
theorem mw_183 : (.fieldLink RX10 21 "SumRewriterModel" "names" "[B" : Cond) ∈ lw_tbl := sub_7 _ (List.mem_of_getElem? (i := 36) (by decide +kernel))
theorem mw_184 : (.fieldLink RX10 17 "SumRewriterModel" "fault" "I" : Cond) ∈ lw_tbl := sub_7 _ (List.mem_of_getElem? (i := 35) (by decide +kernel))
theorem mw_185 : (.fieldLink RX10 13 "SumRewriterModel" "five" "[I" : Cond) ∈ lw_tbl := sub_7 _ (List.mem_of_getElem? (i := 31) (by decide +kernel))
theorem mw_186 : (.fieldLink RX10 9 "SumRewriterModel" "tape" "[B" : Cond) ∈ lw_tbl := sub_7 _ (List.mem_of_getElem? (i := 29) (by decide +kernel))
theorem mw_187 : (.code yX10_init cX10_init 1 none : Cond) ∈ lw_tbl := sub_7 _ (List.mem_of_getElem? (i := 25) (by decide +kernel))
theorem mw_188 : (.fieldLink RX3 15 "SumRewriter$Scanner" "length" "I" : Cond) ∈ lw_tbl := sub_1 _ (List.mem_of_getElem? (i := 42) (by decide +kernel))
theorem mw_189 : (.code yX3_write cX3_write 3 none : Cond) ∈ lw_tbl := sub_2 _ (List.mem_of_getElem? (i := 231) (by decide +kernel))
theorem mw_190 : (.selects RX3 yX3_write yX3_write : Cond) ∈ lw_tbl := List.mem_append_left _ (List.mem_of_getElem? (i := 0) (by decide +kernel))
theorem mw_191 : (.instanceMethod yX3_write : Cond) ∈ lw_tbl := sub_2 _ (List.mem_of_getElem? (i := 230) (by decide +kernel))
theorem mw_192 : (.methodLink RX3 19 yX3_write : Cond) ∈ lw_tbl := sub_2 _ (List.mem_of_getElem? (i := 228) (by decide +kernel))
theorem mw_193 : (.code yX3_append cX3_append 6 (some .int) : Cond) ∈ lw_tbl := sub_2 _ (List.mem_of_getElem? (i := 227) (by decide +kernel))
theorem mw_194 : (.code yX3_cut cX3_cut 2 (some .boolean) : Cond) ∈ lw_tbl := sub_2 _ (List.mem_of_getElem? (i := 239) (by decide +kernel))
theorem mw_195 : (.selects RX3 yX3_append yX3_append : Cond) ∈ lw_tbl := sub_2 _ (List.mem_of_getElem? (i := 226) (by decide +kernel))
theorem mw_196 : (.instanceMethod yX3_append : Cond) ∈ lw_tbl := sub_2 _ (List.mem_of_getElem? (i := 225) (by decide +kernel))
theorem mw_197 : (.methodLink RX9 107 yX3_append : Cond) ∈ lw_tbl := sub_2 _ (List.mem_of_getElem? (i := 224) (by decide +kernel))
theorem mw_198 : (.code yX9_feed cX9_feed 6 (some .int) : Cond) ∈ lw_tbl := sub_2 _ (List.mem_of_getElem? (i := 223) (by decide +kernel))
theorem mw_199 : (.selects RX3 yX3_cut yX3_cut : Cond) ∈ lw_tbl := sub_2 _ (List.mem_of_getElem? (i := 238) (by decide +kernel))
theorem mw_200 : (.instanceMethod yX3_cut : Cond) ∈ lw_tbl := sub_2 _ (List.mem_of_getElem? (i := 237) (by decide +kernel))
theorem mw_201 : (.methodLink RX9 111 yX3_cut : Cond) ∈ lw_tbl := sub_2 _ (List.mem_of_getElem? (i := 236) (by decide +kernel))
theorem mw_202 : (.code yX9_end cX9_end 2 (some .boolean) : Cond) ∈ lw_tbl := sub_2 _ (List.mem_of_getElem? (i := 235) (by decide +kernel))
theorem mw_203 : (.fieldLink RX3 23 "SumRewriter$Scanner" "limit" "I" : Cond) ∈ lw_tbl := sub_1 _ (List.mem_of_getElem? (i := 43) (by decide +kernel))
theorem mw_204 : (.fieldLink RX3 26 "SumRewriter$Scanner" "at" "I" : Cond) ∈ lw_tbl := sub_1 _ (List.mem_of_getElem? (i := 44) (by decide +kernel))
theorem mw_205 : (.code yX3_look cX3_look 1 (some .int) : Cond) ∈ lw_tbl := sub_4 _ (List.mem_of_getElem? (i := 143) (by decide +kernel))
theorem mw_206 : (.code yX3_isBlank cX3_isBlank 1 (some .boolean) : Cond) ∈ lw_tbl := sub_4 _ (List.mem_of_getElem? (i := 146) (by decide +kernel))
theorem mw_207 : (.fieldLink RX3 46 "SumRewriter$Scanner" "value" "I" : Cond) ∈ lw_tbl := sub_1 _ (List.mem_of_getElem? (i := 54) (by decide +kernel))
theorem mw_208 : (.fieldLink RX3 43 "SumRewriter$Scanner" "sort" "I" : Cond) ∈ lw_tbl := sub_1 _ (List.mem_of_getElem? (i := 48) (by decide +kernel))
theorem mw_209 : (.fieldLink RX3 40 "SumRewriter$Scanner" "start" "I" : Cond) ∈ lw_tbl := sub_1 _ (List.mem_of_getElem? (i := 50) (by decide +kernel))
theorem mw_210 : (.selects RX3 yX3_look yX3_look : Cond) ∈ lw_tbl := List.mem_append_left _ (List.mem_of_getElem? (i := 33) (by decide +kernel))
theorem mw_211 : (.instanceMethod yX3_look : Cond) ∈ lw_tbl := sub_4 _ (List.mem_of_getElem? (i := 142) (by decide +kernel))
theorem mw_212 : (.methodLink RX3 32 yX3_look : Cond) ∈ lw_tbl := sub_4 _ (List.mem_of_getElem? (i := 140) (by decide +kernel))
theorem mw_213 : (.static yX3_isBlank : Cond) ∈ lw_tbl := sub_4 _ (List.mem_of_getElem? (i := 145) (by decide +kernel))
theorem mw_214 : (.methodLink RX3 36 yX3_isBlank : Cond) ∈ lw_tbl := sub_4 _ (List.mem_of_getElem? (i := 144) (by decide +kernel))
theorem mw_215 : (.code yX3_advance cX3_advance 3 none : Cond) ∈ lw_tbl := sub_4 _ (List.mem_of_getElem? (i := 139) (by decide +kernel))
theorem mw_216 : (.selects RX3 yX3_advance yX3_advance : Cond) ∈ lw_tbl := sub_4 _ (List.mem_of_getElem? (i := 138) (by decide +kernel))
theorem mw_217 : (.instanceMethod yX3_advance : Cond) ∈ lw_tbl := sub_4 _ (List.mem_of_getElem? (i := 137) (by decide +kernel))
theorem mw_218 : (.methodLink RX3 29 yX3_advance : Cond) ∈ lw_tbl := sub_4 _ (List.mem_of_getElem? (i := 136) (by decide +kernel))
theorem mw_219 : (.code yX3_open cX3_open 1 none : Cond) ∈ lw_tbl := sub_4 _ (List.mem_of_getElem? (i := 135) (by decide +kernel))
theorem mw_220 : (.fieldLink RX5 40 "SumRewriter$Signature" "lastingBits" "I" : Cond) ∈ lw_tbl := sub_1 _ (List.mem_of_getElem? (i := 88) (by decide +kernel))
theorem mw_221 : (.fieldLink RX5 37 "SumRewriter$Signature" "variables" "I" : Cond) ∈ lw_tbl := sub_1 _ (List.mem_of_getElem? (i := 86) (by decide +kernel))
theorem mw_222 : (.fieldLink RX5 33 "SumRewriter$Signature" "operators" "I" : Cond) ∈ lw_tbl := sub_1 _ (List.mem_of_getElem? (i := 84) (by decide +kernel))
theorem mw_223 : (.code yX5_read cX5_read 3 (some .boolean) : Cond) ∈ lw_tbl := sub_4 _ (List.mem_of_getElem? (i := 164) (by decide +kernel))
theorem mw_224 : (.initialized "java/lang/System" : Cond) ∈ lw_tbl := sub_1 _ (List.mem_of_getElem? (i := 17) (by decide +kernel))
theorem mw_225 : (.static arraycopyName : Cond) ∈ lw_tbl := sub_4 _ (List.mem_of_getElem? (i := 46) (by decide +kernel))
theorem mw_226 : (.native arraycopyName : Cond) ∈ lw_tbl := sub_4 _ (List.mem_of_getElem? (i := 47) (by decide +kernel))
theorem mw_227 : (.methodLink RX5 27 arraycopyName : Cond) ∈ lw_tbl := sub_5 _ (List.mem_of_getElem? (i := 38) (by decide +kernel))
theorem mw_228 : (.code yX5_takeOver cX5_takeOver 2 none : Cond) ∈ lw_tbl := sub_5 _ (List.mem_of_getElem? (i := 37) (by decide +kernel))
theorem mw_229 : (.fieldLink RX2 30 "SumRewriter$Rows" "used" "I" : Cond) ∈ lw_tbl := sub_1 _ (List.mem_of_getElem? (i := 220) (by decide +kernel))
theorem mw_230 : (.code yX2_clear cX2_clear 1 none : Cond) ∈ lw_tbl := sub_3 _ (List.mem_of_getElem? (i := 94) (by decide +kernel))
theorem mw_231 : (.fieldLink RX4 34 "SumRewriter$Shown" "length" "I" : Cond) ∈ lw_tbl := sub_2 _ (List.mem_of_getElem? (i := 6) (by decide +kernel))
theorem mw_232 : (.selects RX2 yX2_clear yX2_clear : Cond) ∈ lw_tbl := sub_3 _ (List.mem_of_getElem? (i := 93) (by decide +kernel))
theorem mw_233 : (.instanceMethod yX2_clear : Cond) ∈ lw_tbl := sub_3 _ (List.mem_of_getElem? (i := 92) (by decide +kernel))
theorem mw_234 : (.methodLink RX4 31 yX2_clear : Cond) ∈ lw_tbl := sub_5 _ (List.mem_of_getElem? (i := 44) (by decide +kernel))
theorem mw_235 : (.code yX4_clear cX4_clear 1 none : Cond) ∈ lw_tbl := sub_5 _ (List.mem_of_getElem? (i := 43) (by decide +kernel))
theorem mw_236 : (.selects RX3 yX3_open yX3_open : Cond) ∈ lw_tbl := sub_4 _ (List.mem_of_getElem? (i := 134) (by decide +kernel))
theorem mw_237 : (.instanceMethod yX3_open : Cond) ∈ lw_tbl := sub_4 _ (List.mem_of_getElem? (i := 133) (by decide +kernel))
theorem mw_238 : (.methodLink RX9 115 yX3_open : Cond) ∈ lw_tbl := sub_4 _ (List.mem_of_getElem? (i := 132) (by decide +kernel))
theorem mw_239 : (.selects RX5 yX5_read yX5_read : Cond) ∈ lw_tbl := sub_4 _ (List.mem_of_getElem? (i := 163) (by decide +kernel))
theorem mw_240 : (.instanceMethod yX5_read : Cond) ∈ lw_tbl := sub_4 _ (List.mem_of_getElem? (i := 162) (by decide +kernel))
theorem mw_241 : (.methodLink RX9 118 yX5_read : Cond) ∈ lw_tbl := sub_4 _ (List.mem_of_getElem? (i := 161) (by decide +kernel))
theorem mw_242 : (.selects RX5 yX5_takeOver yX5_takeOver : Cond) ∈ lw_tbl := sub_5 _ (List.mem_of_getElem? (i := 36) (by decide +kernel))
theorem mw_243 : (.instanceMethod yX5_takeOver : Cond) ∈ lw_tbl := sub_5 _ (List.mem_of_getElem? (i := 35) (by decide +kernel))
theorem mw_244 : (.methodLink RX9 132 yX5_takeOver : Cond) ∈ lw_tbl := sub_5 _ (List.mem_of_getElem? (i := 34) (by decide +kernel))
theorem mw_245 : (.methodLink RX9 135 yX2_clear : Cond) ∈ lw_tbl := sub_5 _ (List.mem_of_getElem? (i := 39) (by decide +kernel))
theorem mw_246 : (.selects RX4 yX4_clear yX4_clear : Cond) ∈ lw_tbl := sub_5 _ (List.mem_of_getElem? (i := 42) (by decide +kernel))
theorem mw_247 : (.instanceMethod yX4_clear : Cond) ∈ lw_tbl := sub_5 _ (List.mem_of_getElem? (i := 41) (by decide +kernel))
theorem mw_248 : (.methodLink RX9 138 yX4_clear : Cond) ∈ lw_tbl := sub_5 _ (List.mem_of_getElem? (i := 40) (by decide +kernel))
theorem mw_249 : (.code yX9_signature cX9_signature 1 (some .int) : Cond) ∈ lw_tbl := sub_4 _ (List.mem_of_getElem? (i := 131) (by decide +kernel))
theorem mw_250 : (.methodLink RX8 67 Lib.Math.max.name : Cond) ∈ lw_tbl := sub_3 _ (List.mem_of_getElem? (i := 65) (by decide +kernel))
theorem mw_251 : (.methodLink RX8 61 Lib.Math.min.name : Cond) ∈ lw_tbl := sub_3 _ (List.mem_of_getElem? (i := 64) (by decide +kernel))
theorem mw_252 : (.fieldLink RX8 58 "SumRewriter$Terms" "used" "I" : Cond) ∈ lw_tbl := sub_1 _ (List.mem_of_getElem? (i := 126) (by decide +kernel))
theorem mw_253 : (.code yX8_giveBack cX8_giveBack 4 none : Cond) ∈ lw_tbl := sub_3 _ (List.mem_of_getElem? (i := 63) (by decide +kernel))
theorem mw_254 : (.fieldLink RX8 54 "SumRewriter$Terms" "stacked" "I" : Cond) ∈ lw_tbl := sub_1 _ (List.mem_of_getElem? (i := 128) (by decide +kernel))
theorem mw_255 : (.selects RX8 yX8_giveBack yX8_giveBack : Cond) ∈ lw_tbl := sub_3 _ (List.mem_of_getElem? (i := 62) (by decide +kernel))
theorem mw_256 : (.instanceMethod yX8_giveBack : Cond) ∈ lw_tbl := sub_3 _ (List.mem_of_getElem? (i := 61) (by decide +kernel))
theorem mw_257 : (.methodLink RX8 50 yX8_giveBack : Cond) ∈ lw_tbl := sub_3 _ (List.mem_of_getElem? (i := 60) (by decide +kernel))
theorem mw_258 : (.code yX8_clear cX8_clear 1 none : Cond) ∈ lw_tbl := sub_3 _ (List.mem_of_getElem? (i := 59) (by decide +kernel))
theorem mw_259 : (.code yX1_readHead cX1_readHead 3 (some .boolean) : Cond) ∈ lw_tbl := sub_5 _ (List.mem_of_getElem? (i := 60) (by decide +kernel))
theorem mw_260 : (.fieldLink RX1 37 "SumRewriter$Reader" "opened" "I" : Cond) ∈ lw_tbl := sub_1 _ (List.mem_of_getElem? (i := 187) (by decide +kernel))
theorem mw_261 : (.fieldLink RX1 33 "SumRewriter$Reader" "valued" "I" : Cond) ∈ lw_tbl := sub_1 _ (List.mem_of_getElem? (i := 186) (by decide +kernel))
theorem mw_262 : (.selects RX1 yX1_readHead yX1_readHead : Cond) ∈ lw_tbl := List.mem_append_left _ (List.mem_of_getElem? (i := 42) (by decide +kernel))
theorem mw_263 : (.instanceMethod yX1_readHead : Cond) ∈ lw_tbl := sub_5 _ (List.mem_of_getElem? (i := 59) (by decide +kernel))
theorem mw_264 : (.methodLink RX1 40 yX1_readHead : Cond) ∈ lw_tbl := sub_5 _ (List.mem_of_getElem? (i := 57) (by decide +kernel))
theorem mw_265 : (.code yX1_read cX1_read 3 (some .int) : Cond) ∈ lw_tbl := sub_5 _ (List.mem_of_getElem? (i := 56) (by decide +kernel))
theorem mw_266 : (.initialized "java/lang/IllegalArgumentException" : Cond) ∈ lw_tbl := sub_1 _ (List.mem_of_getElem? (i := 16) (by decide +kernel))
theorem mw_267 : (.classLink RX9 125 "java/lang/IllegalArgumentException" : Cond) ∈ lw_tbl := sub_4 _ (List.mem_of_getElem? (i := 205) (by decide +kernel))
theorem mw_268 : (.code yX9_checkText cX9_checkText 2 none : Cond) ∈ lw_tbl := sub_5 _ (List.mem_of_getElem? (i := 90) (by decide +kernel))
theorem mw_269 : (.selects RX8 yX8_clear yX8_clear : Cond) ∈ lw_tbl := sub_3 _ (List.mem_of_getElem? (i := 58) (by decide +kernel))
theorem mw_270 : (.instanceMethod yX8_clear : Cond) ∈ lw_tbl := sub_3 _ (List.mem_of_getElem? (i := 57) (by decide +kernel))
theorem mw_271 : (.methodLink RX9 142 yX8_clear : Cond) ∈ lw_tbl := sub_4 _ (List.mem_of_getElem? (i := 121) (by decide +kernel))
theorem mw_272 : (.selects RX1 yX1_read yX1_read : Cond) ∈ lw_tbl := sub_5 _ (List.mem_of_getElem? (i := 55) (by decide +kernel))
theorem mw_273 : (.instanceMethod yX1_read : Cond) ∈ lw_tbl := sub_5 _ (List.mem_of_getElem? (i := 54) (by decide +kernel))
theorem mw_274 : (.methodLink RX9 143 yX1_read : Cond) ∈ lw_tbl := sub_5 _ (List.mem_of_getElem? (i := 53) (by decide +kernel))
theorem mw_275 : (.initialized RX9 : Cond) ∈ lw_tbl := sub_1 _ (List.mem_of_getElem? (i := 1) (by decide +kernel))
theorem mw_276 : (.selects RX9 yX9_checkText yX9_checkText : Cond) ∈ lw_tbl := List.mem_append_left _ (List.mem_of_getElem? (i := 46) (by decide +kernel))
theorem mw_277 : (.instanceMethod yX9_checkText : Cond) ∈ lw_tbl := sub_5 _ (List.mem_of_getElem? (i := 89) (by decide +kernel))
theorem mw_278 : (.methodLink RX9 149 yX9_checkText : Cond) ∈ lw_tbl := sub_5 _ (List.mem_of_getElem? (i := 87) (by decide +kernel))
theorem mw_279 : (.code yX9_term cX9_term 2 (some .int) : Cond) ∈ lw_tbl := sub_5 _ (List.mem_of_getElem? (i := 52) (by decide +kernel))
theorem mw_280 : (.code yX9_rule cX9_rule 4 (some .int) : Cond) ∈ lw_tbl := sub_5 _ (List.mem_of_getElem? (i := 134) (by decide +kernel))
theorem mw_281 : (.code yX9_fault cX9_fault 1 (some .int) : Cond) ∈ lw_tbl := sub_3 _ (List.mem_of_getElem? (i := 3) (by decide +kernel))
theorem mw_282 : (.code yX9_rules cX9_rules 1 (some .int) : Cond) ∈ lw_tbl := sub_3 _ (List.mem_of_getElem? (i := 47) (by decide +kernel))
theorem mw_283 : (.initialized "java/lang/IndexOutOfBoundsException" : Cond) ∈ lw_tbl := sub_1 _ (List.mem_of_getElem? (i := 24) (by decide +kernel))
theorem mw_284 : (.classLink RX9 415 "java/lang/IndexOutOfBoundsException" : Cond) ∈ lw_tbl := sub_5 _ (List.mem_of_getElem? (i := 152) (by decide +kernel))
theorem mw_285 : (.code yX9_checkTerm cX9_checkTerm 2 none : Cond) ∈ lw_tbl := sub_5 _ (List.mem_of_getElem? (i := 219) (by decide +kernel))
theorem mw_286 : (.selects RX9 yX9_rules yX9_rules : Cond) ∈ lw_tbl := List.mem_append_left _ (List.mem_of_getElem? (i := 2) (by decide +kernel))
theorem mw_287 : (.instanceMethod yX9_rules : Cond) ∈ lw_tbl := sub_3 _ (List.mem_of_getElem? (i := 46) (by decide +kernel))
theorem mw_288 : (.methodLink RX9 181 yX9_rules : Cond) ∈ lw_tbl := sub_3 _ (List.mem_of_getElem? (i := 44) (by decide +kernel))
theorem mw_289 : (.code yX9_checkRule cX9_checkRule 2 none : Cond) ∈ lw_tbl := sub_5 _ (List.mem_of_getElem? (i := 151) (by decide +kernel))
theorem mw_290 : (.code yX9_checkOperator cX9_checkOperator 2 none : Cond) ∈ lw_tbl := sub_5 _ (List.mem_of_getElem? (i := 179) (by decide +kernel))
theorem mw_291 : (.selects RX9 yX9_checkTerm yX9_checkTerm : Cond) ∈ lw_tbl := List.mem_append_left _ (List.mem_of_getElem? (i := 51) (by decide +kernel))
theorem mw_292 : (.instanceMethod yX9_checkTerm : Cond) ∈ lw_tbl := sub_5 _ (List.mem_of_getElem? (i := 218) (by decide +kernel))
theorem mw_293 : (.methodLink RX9 227 yX9_checkTerm : Cond) ∈ lw_tbl := sub_5 _ (List.mem_of_getElem? (i := 216) (by decide +kernel))
theorem mw_294 : (.code yX9_about cX9_about 4 (some .int) : Cond) ∈ lw_tbl := sub_5 _ (List.mem_of_getElem? (i := 215) (by decide +kernel))
theorem mw_295 : (.code yX9_order cX9_order 3 (some .int) : Cond) ∈ lw_tbl := sub_6 _ (List.mem_of_getElem? (i := 23) (by decide +kernel))
theorem mw_296 : (.code yX9_show cX9_show 2 (some .int) : Cond) ∈ lw_tbl := sub_6 _ (List.mem_of_getElem? (i := 31) (by decide +kernel))
theorem mw_297 : (.code yX9_place cX9_place 3 (some .int) : Cond) ∈ lw_tbl := sub_6 _ (List.mem_of_getElem? (i := 67) (by decide +kernel))
theorem mw_298 : (.code yX9_matches cX9_matches 3 (some .int) : Cond) ∈ lw_tbl := sub_6 _ (List.mem_of_getElem? (i := 84) (by decide +kernel))
theorem mw_299 : (.code yX9_bound cX9_bound 5 (some .int) : Cond) ∈ lw_tbl := sub_6 _ (List.mem_of_getElem? (i := 96) (by decide +kernel))
theorem mw_300 : (.code yX9_fill cX9_fill 5 (some .int) : Cond) ∈ lw_tbl := sub_6 _ (List.mem_of_getElem? (i := 118) (by decide +kernel))
theorem mw_301 : (.code yX9_steps cX9_steps 2 (some .int) : Cond) ∈ lw_tbl := sub_6 _ (List.mem_of_getElem? (i := 142) (by decide +kernel))
theorem mw_302 : (.code yX9_step cX9_step 3 (some .int) : Cond) ∈ lw_tbl := sub_6 _ (List.mem_of_getElem? (i := 154) (by decide +kernel))
theorem mw_303 : (.code yX9_stepAt cX9_stepAt 4 (some .int) : Cond) ∈ lw_tbl := sub_6 _ (List.mem_of_getElem? (i := 170) (by decide +kernel))
theorem mw_304 : (.code yX9_atTop cX9_atTop 3 (some .int) : Cond) ∈ lw_tbl := sub_6 _ (List.mem_of_getElem? (i := 186) (by decide +kernel))
theorem mw_305 : (.code yX9_walk cX9_walk 3 (some .int) : Cond) ∈ lw_tbl := sub_6 _ (List.mem_of_getElem? (i := 193) (by decide +kernel))
theorem mw_306 : (.code yX9_reach cX9_reach 4 (some .int) : Cond) ∈ lw_tbl := sub_6 _ (List.mem_of_getElem? (i := 200) (by decide +kernel))
theorem mw_307 : (.code yX9_reached cX9_reached 6 (some .int) : Cond) ∈ lw_tbl := sub_7 _ (List.mem_of_getElem? (i := 0) (by decide +kernel))
theorem mw_308 : (.code yX9_meet cX9_meet 5 (some .int) : Cond) ∈ lw_tbl := sub_7 _ (List.mem_of_getElem? (i := 8) (by decide +kernel))
theorem mw_309 : (.selects RX9 yX9_checkRule yX9_checkRule : Cond) ∈ lw_tbl := List.mem_append_left _ (List.mem_of_getElem? (i := 48) (by decide +kernel))
theorem mw_310 : (.instanceMethod yX9_checkRule : Cond) ∈ lw_tbl := sub_5 _ (List.mem_of_getElem? (i := 150) (by decide +kernel))
theorem mw_311 : (.methodLink RX9 201 yX9_checkRule : Cond) ∈ lw_tbl := sub_5 _ (List.mem_of_getElem? (i := 148) (by decide +kernel))
theorem mw_312 : (.code yX9_turn cX9_turn 5 (some .boolean) : Cond) ∈ lw_tbl := sub_5 _ (List.mem_of_getElem? (i := 147) (by decide +kernel))
theorem mw_313 : (.code yX9_side cX9_side 3 (some .int) : Cond) ∈ lw_tbl := sub_6 _ (List.mem_of_getElem? (i := 77) (by decide +kernel))
theorem mw_314 : (.selects RX9 yX9_checkOperator yX9_checkOperator : Cond) ∈ lw_tbl := List.mem_append_left _ (List.mem_of_getElem? (i := 49) (by decide +kernel))
theorem mw_315 : (.instanceMethod yX9_checkOperator : Cond) ∈ lw_tbl := sub_5 _ (List.mem_of_getElem? (i := 178) (by decide +kernel))
theorem mw_316 : (.methodLink RX9 204 yX9_checkOperator : Cond) ∈ lw_tbl := sub_5 _ (List.mem_of_getElem? (i := 176) (by decide +kernel))
theorem mw_317 : (.code yX9_operator cX9_operator 3 (some .int) : Cond) ∈ lw_tbl := sub_5 _ (List.mem_of_getElem? (i := 175) (by decide +kernel))
theorem mw_318 : (.code yX9_join cX9_join 6 (some .int) : Cond) ∈ lw_tbl := sub_6 _ (List.mem_of_getElem? (i := 131) (by decide +kernel))
theorem mw_319 : (.initialized "java/lang/IllegalStateException" : Cond) ∈ lw_tbl := sub_1 _ (List.mem_of_getElem? (i := 23) (by decide +kernel))
theorem mw_320 : (.classLink RX9 153 "java/lang/IllegalStateException" : Cond) ∈ lw_tbl := sub_5 _ (List.mem_of_getElem? (i := 92) (by decide +kernel))
theorem mw_321 : (.code yX9_keep cX9_keep 1 (some .int) : Cond) ∈ lw_tbl := sub_7 _ (List.mem_of_getElem? (i := 19) (by decide +kernel))
theorem mw_322 : (.code yX4_byteAt cX4_byteAt 2 (some .int) : Cond) ∈ lw_tbl := sub_3 _ (List.mem_of_getElem? (i := 39) (by decide +kernel))
theorem mw_323 : (.selects RX4 yX4_byteAt yX4_byteAt : Cond) ∈ lw_tbl := sub_3 _ (List.mem_of_getElem? (i := 38) (by decide +kernel))
theorem mw_324 : (.instanceMethod yX4_byteAt : Cond) ∈ lw_tbl := sub_3 _ (List.mem_of_getElem? (i := 37) (by decide +kernel))
theorem mw_325 : (.methodLink RX9 289 yX4_byteAt : Cond) ∈ lw_tbl := sub_3 _ (List.mem_of_getElem? (i := 36) (by decide +kernel))
theorem mw_326 : (.code yX9_octet cX9_octet 2 (some .int) : Cond) ∈ lw_tbl := sub_3 _ (List.mem_of_getElem? (i := 35) (by decide +kernel))
theorem mw_327 : (.code yX2_nth cX2_nth 5 (some .int) : Cond) ∈ lw_tbl := sub_3 _ (List.mem_of_getElem? (i := 12) (by decide +kernel))
theorem mw_328 : (.constantLong RX9 266 (-1) : Cond) ∈ lw_tbl := sub_3 _ (List.mem_of_getElem? (i := 8) (by decide +kernel))
theorem mw_329 : (.selects RX2 yX2_nth yX2_nth : Cond) ∈ lw_tbl := sub_3 _ (List.mem_of_getElem? (i := 11) (by decide +kernel))
theorem mw_330 : (.instanceMethod yX2_nth : Cond) ∈ lw_tbl := sub_3 _ (List.mem_of_getElem? (i := 10) (by decide +kernel))
theorem mw_331 : (.methodLink RX9 268 yX2_nth : Cond) ∈ lw_tbl := sub_3 _ (List.mem_of_getElem? (i := 9) (by decide +kernel))
theorem mw_332 : (.code yX9_rank cX9_rank 2 (some .int) : Cond) ∈ lw_tbl := sub_3 _ (List.mem_of_getElem? (i := 7) (by decide +kernel))
theorem mw_333 : (.fieldLink RX7 72 "SumRewriter$Stepper" "base" "I" : Cond) ∈ lw_tbl := sub_2 _ (List.mem_of_getElem? (i := 112) (by decide +kernel))
theorem mw_334 : (.fieldLink RX7 56 "SumRewriter$Stepper" "rulesUsed" "I" : Cond) ∈ lw_tbl := sub_2 _ (List.mem_of_getElem? (i := 111) (by decide +kernel))
theorem mw_335 : (.methodLink RX7 60 yX8_clear : Cond) ∈ lw_tbl := sub_3 _ (List.mem_of_getElem? (i := 56) (by decide +kernel))
theorem mw_336 : (.code yX7_prepare cX7_prepare 4 none : Cond) ∈ lw_tbl := sub_3 _ (List.mem_of_getElem? (i := 55) (by decide +kernel))
theorem mw_337 : (.selects RX7 yX7_prepare yX7_prepare : Cond) ∈ lw_tbl := sub_3 _ (List.mem_of_getElem? (i := 54) (by decide +kernel))
theorem mw_338 : (.instanceMethod yX7_prepare : Cond) ∈ lw_tbl := sub_3 _ (List.mem_of_getElem? (i := 53) (by decide +kernel))
theorem mw_339 : (.methodLink RX9 336 yX7_prepare : Cond) ∈ lw_tbl := sub_3 _ (List.mem_of_getElem? (i := 52) (by decide +kernel))
theorem mw_340 : (.code yX9_normalTerms cX9_normalTerms 3 (some .int) : Cond) ∈ lw_tbl := sub_3 _ (List.mem_of_getElem? (i := 51) (by decide +kernel))
theorem mw_341 : (.code yX9_greatestSize cX9_greatestSize 3 (some .int) : Cond) ∈ lw_tbl := sub_4 _ (List.mem_of_getElem? (i := 114) (by decide +kernel))
theorem mw_342 : (.code yX9_matchesOfAll cX9_matchesOfAll 5 (some .int) : Cond) ∈ lw_tbl := sub_4 _ (List.mem_of_getElem? (i := 120) (by decide +kernel))
theorem mw_343 : (.selects RX9 yX9_normalTerms yX9_normalTerms : Cond) ∈ lw_tbl := List.mem_append_left _ (List.mem_of_getElem? (i := 3) (by decide +kernel))
theorem mw_344 : (.instanceMethod yX9_normalTerms : Cond) ∈ lw_tbl := sub_3 _ (List.mem_of_getElem? (i := 50) (by decide +kernel))
theorem mw_345 : (.methodLink RX9 401 yX9_normalTerms : Cond) ∈ lw_tbl := sub_3 _ (List.mem_of_getElem? (i := 48) (by decide +kernel))
theorem mw_346 : (.selects RX9 yX9_greatestSize yX9_greatestSize : Cond) ∈ lw_tbl := List.mem_append_left _ (List.mem_of_getElem? (i := 31) (by decide +kernel))
theorem mw_347 : (.instanceMethod yX9_greatestSize : Cond) ∈ lw_tbl := sub_4 _ (List.mem_of_getElem? (i := 113) (by decide +kernel))
theorem mw_348 : (.methodLink RX9 404 yX9_greatestSize : Cond) ∈ lw_tbl := sub_4 _ (List.mem_of_getElem? (i := 111) (by decide +kernel))
theorem mw_349 : (.selects RX9 yX9_matchesOfAll yX9_matchesOfAll : Cond) ∈ lw_tbl := List.mem_append_left _ (List.mem_of_getElem? (i := 32) (by decide +kernel))
theorem mw_350 : (.instanceMethod yX9_matchesOfAll : Cond) ∈ lw_tbl := sub_4 _ (List.mem_of_getElem? (i := 119) (by decide +kernel))
theorem mw_351 : (.methodLink RX9 407 yX9_matchesOfAll : Cond) ∈ lw_tbl := sub_4 _ (List.mem_of_getElem? (i := 117) (by decide +kernel))
theorem mw_352 : (.code yX9_count cX9_count 2 (some .int) : Cond) ∈ lw_tbl := sub_3 _ (List.mem_of_getElem? (i := 43) (by decide +kernel))
theorem mw_353 : (.fieldLink RX10 100 "SumRewriterModel" "thrown" "I" : Cond) ∈ lw_tbl := sub_7 _ (List.mem_of_getElem? (i := 28) (by decide +kernel))
theorem mw_354 : (.code yX10_thrown cX10_thrown 1 (some .int) : Cond) ∈ lw_tbl := sub_7 _ (List.mem_of_getElem? (i := 182) (by decide +kernel))
theorem mw_355 : (.fieldLink RX10 103 "SumRewriterModel" "taped" "I" : Cond) ∈ lw_tbl := sub_7 _ (List.mem_of_getElem? (i := 30) (by decide +kernel))
theorem mw_356 : (.code yX10_feed cX10_feed 7 (some .int) : Cond) ∈ lw_tbl := sub_7 _ (List.mem_of_getElem? (i := 186) (by decide +kernel))
theorem mw_357 : (.code yX10_end cX10_end 2 (some .boolean) : Cond) ∈ lw_tbl := sub_7 _ (List.mem_of_getElem? (i := 190) (by decide +kernel))
theorem mw_358 : (.fieldLink RX10 178 "SumRewriterModel" "top" "I" : Cond) ∈ lw_tbl := sub_7 _ (List.mem_of_getElem? (i := 51) (by decide +kernel))
theorem mw_359 : (.fieldLink RX10 106 "SumRewriterModel" "point" "I" : Cond) ∈ lw_tbl := sub_7 _ (List.mem_of_getElem? (i := 33) (by decide +kernel))
theorem mw_360 : (.fieldLink RX10 109 "SumRewriterModel" "size" "I" : Cond) ∈ lw_tbl := sub_7 _ (List.mem_of_getElem? (i := 32) (by decide +kernel))
theorem mw_361 : (.code yX10_begins cX10_begins 1 none : Cond) ∈ lw_tbl := sub_7 _ (List.mem_of_getElem? (i := 198) (by decide +kernel))
theorem mw_362 : (.code yX10_isAt cX10_isAt 3 (some .boolean) : Cond) ∈ lw_tbl := sub_7 _ (List.mem_of_getElem? (i := 206) (by decide +kernel))
theorem mw_363 : (.fieldLink RX10 116 "SumRewriterModel" "begin" "I" : Cond) ∈ lw_tbl := sub_7 _ (List.mem_of_getElem? (i := 34) (by decide +kernel))
theorem mw_364 : (.initialized RX10 : Cond) ∈ lw_tbl := sub_1 _ (List.mem_of_getElem? (i := 12) (by decide +kernel))
theorem mw_365 : (.selects RX10 yX10_isAt yX10_isAt : Cond) ∈ lw_tbl := List.mem_append_left _ (List.mem_of_getElem? (i := 69) (by decide +kernel))
theorem mw_366 : (.instanceMethod yX10_isAt : Cond) ∈ lw_tbl := sub_7 _ (List.mem_of_getElem? (i := 205) (by decide +kernel))
theorem mw_367 : (.methodLink RX10 112 yX10_isAt : Cond) ∈ lw_tbl := sub_7 _ (List.mem_of_getElem? (i := 203) (by decide +kernel))
theorem mw_368 : (.code yX10_blanks cX10_blanks 1 none : Cond) ∈ lw_tbl := sub_7 _ (List.mem_of_getElem? (i := 202) (by decide +kernel))
theorem mw_369 : (.selects RX10 yX10_blanks yX10_blanks : Cond) ∈ lw_tbl := List.mem_append_left _ (List.mem_of_getElem? (i := 68) (by decide +kernel))
theorem mw_370 : (.instanceMethod yX10_blanks : Cond) ∈ lw_tbl := sub_7 _ (List.mem_of_getElem? (i := 201) (by decide +kernel))
theorem mw_371 : (.methodLink RX10 119 yX10_blanks : Cond) ∈ lw_tbl := sub_7 _ (List.mem_of_getElem? (i := 199) (by decide +kernel))
theorem mw_372 : (.code yX10_word cX10_word 1 (some .boolean) : Cond) ∈ lw_tbl := sub_7 _ (List.mem_of_getElem? (i := 214) (by decide +kernel))
theorem mw_373 : (.selects RX10 yX10_word yX10_word : Cond) ∈ lw_tbl := List.mem_append_left _ (List.mem_of_getElem? (i := 71) (by decide +kernel))
theorem mw_374 : (.instanceMethod yX10_word : Cond) ∈ lw_tbl := sub_7 _ (List.mem_of_getElem? (i := 213) (by decide +kernel))
theorem mw_375 : (.methodLink RX10 155 yX10_word : Cond) ∈ lw_tbl := sub_7 _ (List.mem_of_getElem? (i := 211) (by decide +kernel))
theorem mw_376 : (.code yX10_readsTerm cX10_readsTerm 6 (some .boolean) : Cond) ∈ lw_tbl := sub_8 _ (List.mem_of_getElem? (i := 70) (by decide +kernel))
theorem mw_377 : (.code yX10_wrong cX10_wrong 1 (some .int) : Cond) ∈ lw_tbl := sub_8 _ (List.mem_of_getElem? (i := 62) (by decide +kernel))
theorem mw_378 : (.fieldLink RX10 193 "SumRewriterModel" "variables" "I" : Cond) ∈ lw_tbl := sub_7 _ (List.mem_of_getElem? (i := 47) (by decide +kernel))
theorem mw_379 : (.fieldLink RX10 152 "SumRewriterModel" "newVariables" "I" : Cond) ∈ lw_tbl := sub_7 _ (List.mem_of_getElem? (i := 49) (by decide +kernel))
theorem mw_380 : (.fieldLink RX10 149 "SumRewriterModel" "newOperators" "I" : Cond) ∈ lw_tbl := sub_7 _ (List.mem_of_getElem? (i := 48) (by decide +kernel))
theorem mw_381 : (.fieldLink RX10 190 "SumRewriterModel" "operators" "I" : Cond) ∈ lw_tbl := sub_7 _ (List.mem_of_getElem? (i := 46) (by decide +kernel))
theorem mw_382 : (.fieldLink RX10 206 "SumRewriterModel" "shown" "I" : Cond) ∈ lw_tbl := sub_7 _ (List.mem_of_getElem? (i := 73) (by decide +kernel))
theorem mw_383 : (.fieldLink RX10 202 "SumRewriterModel" "isShown" "Z" : Cond) ∈ lw_tbl := sub_7 _ (List.mem_of_getElem? (i := 72) (by decide +kernel))
theorem mw_384 : (.fieldLink RX10 199 "SumRewriterModel" "rules" "I" : Cond) ∈ lw_tbl := sub_7 _ (List.mem_of_getElem? (i := 55) (by decide +kernel))
theorem mw_385 : (.fieldLink RX10 196 "SumRewriterModel" "terms" "I" : Cond) ∈ lw_tbl := sub_7 _ (List.mem_of_getElem? (i := 54) (by decide +kernel))
theorem mw_386 : (.selects RX10 yX10_begins yX10_begins : Cond) ∈ lw_tbl := List.mem_append_left _ (List.mem_of_getElem? (i := 67) (by decide +kernel))
theorem mw_387 : (.instanceMethod yX10_begins : Cond) ∈ lw_tbl := sub_7 _ (List.mem_of_getElem? (i := 197) (by decide +kernel))
theorem mw_388 : (.methodLink RX10 181 yX10_begins : Cond) ∈ lw_tbl := sub_7 _ (List.mem_of_getElem? (i := 195) (by decide +kernel))
theorem mw_389 : (.code yX10_signature cX10_signature 2 (some .int) : Cond) ∈ lw_tbl := sub_7 _ (List.mem_of_getElem? (i := 194) (by decide +kernel))
theorem mw_390 : (.selects RX10 yX10_readsTerm yX10_readsTerm : Cond) ∈ lw_tbl := List.mem_append_left _ (List.mem_of_getElem? (i := 80) (by decide +kernel))
theorem mw_391 : (.instanceMethod yX10_readsTerm : Cond) ∈ lw_tbl := sub_8 _ (List.mem_of_getElem? (i := 69) (by decide +kernel))
theorem mw_392 : (.methodLink RX10 236 yX10_readsTerm : Cond) ∈ lw_tbl := sub_8 _ (List.mem_of_getElem? (i := 67) (by decide +kernel))
theorem mw_393 : (.selects RX10 yX10_wrong yX10_wrong : Cond) ∈ lw_tbl := List.mem_append_left _ (List.mem_of_getElem? (i := 79) (by decide +kernel))
theorem mw_394 : (.instanceMethod yX10_wrong : Cond) ∈ lw_tbl := sub_8 _ (List.mem_of_getElem? (i := 61) (by decide +kernel))
theorem mw_395 : (.methodLink RX10 187 yX10_wrong : Cond) ∈ lw_tbl := sub_8 _ (List.mem_of_getElem? (i := 59) (by decide +kernel))
theorem mw_396 : (.code yX10_term cX10_term 2 (some .int) : Cond) ∈ lw_tbl := sub_8 _ (List.mem_of_getElem? (i := 66) (by decide +kernel))
theorem mw_397 : (.code yX10_rule cX10_rule 2 (some .int) : Cond) ∈ lw_tbl := sub_8 _ (List.mem_of_getElem? (i := 141) (by decide +kernel))
theorem mw_398 : (.code yX10_fault cX10_fault 1 (some .int) : Cond) ∈ lw_tbl := sub_8 _ (List.mem_of_getElem? (i := 153) (by decide +kernel))
theorem mw_399 : (.code yX10_in cX10_in 3 (some .boolean) : Cond) ∈ lw_tbl := sub_8 _ (List.mem_of_getElem? (i := 41) (by decide +kernel))
theorem mw_400 : (.code yX10_throwsIf cX10_throwsIf 3 (some .boolean) : Cond) ∈ lw_tbl := sub_8 _ (List.mem_of_getElem? (i := 137) (by decide +kernel))
theorem mw_401 : (.static yX10_in : Cond) ∈ lw_tbl := sub_8 _ (List.mem_of_getElem? (i := 40) (by decide +kernel))
theorem mw_402 : (.methodLink RX10 132 yX10_in : Cond) ∈ lw_tbl := sub_8 _ (List.mem_of_getElem? (i := 39) (by decide +kernel))
theorem mw_403 : (.selects RX10 yX10_throwsIf yX10_throwsIf : Cond) ∈ lw_tbl := List.mem_append_left _ (List.mem_of_getElem? (i := 96) (by decide +kernel))
theorem mw_404 : (.instanceMethod yX10_throwsIf : Cond) ∈ lw_tbl := sub_8 _ (List.mem_of_getElem? (i := 136) (by decide +kernel))
theorem mw_405 : (.methodLink RX10 264 yX10_throwsIf : Cond) ∈ lw_tbl := sub_8 _ (List.mem_of_getElem? (i := 134) (by decide +kernel))
theorem mw_406 : (.code yX10_noTerm cX10_noTerm 2 (some .boolean) : Cond) ∈ lw_tbl := sub_8 _ (List.mem_of_getElem? (i := 172) (by decide +kernel))
theorem mw_407 : (.code yX10_noRule cX10_noRule 2 (some .boolean) : Cond) ∈ lw_tbl := sub_8 _ (List.mem_of_getElem? (i := 161) (by decide +kernel))
theorem mw_408 : (.code yX10_noOperator cX10_noOperator 2 (some .boolean) : Cond) ∈ lw_tbl := sub_9 _ (List.mem_of_getElem? (i := 48) (by decide +kernel))
theorem mw_409 : (.selects RX10 yX10_noRule yX10_noRule : Cond) ∈ lw_tbl := List.mem_append_left _ (List.mem_of_getElem? (i := 99) (by decide +kernel))
theorem mw_410 : (.instanceMethod yX10_noRule : Cond) ∈ lw_tbl := sub_8 _ (List.mem_of_getElem? (i := 160) (by decide +kernel))
theorem mw_411 : (.methodLink RX10 278 yX10_noRule : Cond) ∈ lw_tbl := sub_8 _ (List.mem_of_getElem? (i := 158) (by decide +kernel))
theorem mw_412 : (.code yX10_turn cX10_turn 4 (some .boolean) : Cond) ∈ lw_tbl := sub_8 _ (List.mem_of_getElem? (i := 157) (by decide +kernel))
theorem mw_413 : (.selects RX10 yX10_noTerm yX10_noTerm : Cond) ∈ lw_tbl := List.mem_append_left _ (List.mem_of_getElem? (i := 100) (by decide +kernel))
theorem mw_414 : (.instanceMethod yX10_noTerm : Cond) ∈ lw_tbl := sub_8 _ (List.mem_of_getElem? (i := 171) (by decide +kernel))
theorem mw_415 : (.methodLink RX10 371 yX10_noTerm : Cond) ∈ lw_tbl := sub_8 _ (List.mem_of_getElem? (i := 169) (by decide +kernel))
theorem mw_416 : (.code yX10_about cX10_about 4 (some .int) : Cond) ∈ lw_tbl := sub_9 _ (List.mem_of_getElem? (i := 177) (by decide +kernel))
theorem mw_417 : (.code yX10_order cX10_order 4 (some .int) : Cond) ∈ lw_tbl := sub_9 _ (List.mem_of_getElem? (i := 201) (by decide +kernel))
theorem mw_418 : (.code yX10_show cX10_show 2 (some .int) : Cond) ∈ lw_tbl := sub_8 _ (List.mem_of_getElem? (i := 168) (by decide +kernel))
theorem mw_419 : (.code yX10_place cX10_place 4 (some .int) : Cond) ∈ lw_tbl := sub_8 _ (List.mem_of_getElem? (i := 192) (by decide +kernel))
theorem mw_420 : (.code yX10_matches cX10_matches 4 (some .int) : Cond) ∈ lw_tbl := sub_8 _ (List.mem_of_getElem? (i := 208) (by decide +kernel))
theorem mw_421 : (.code yX10_bound cX10_bound 6 (some .int) : Cond) ∈ lw_tbl := sub_9 _ (List.mem_of_getElem? (i := 28) (by decide +kernel))
theorem mw_422 : (.code yX10_fill cX10_fill 8 (some .int) : Cond) ∈ lw_tbl := sub_9 _ (List.mem_of_getElem? (i := 40) (by decide +kernel))
theorem mw_423 : (.code yX10_steps cX10_steps 2 (some .int) : Cond) ∈ lw_tbl := sub_9 _ (List.mem_of_getElem? (i := 52) (by decide +kernel))
theorem mw_424 : (.code yX10_step cX10_step 3 (some .int) : Cond) ∈ lw_tbl := sub_9 _ (List.mem_of_getElem? (i := 92) (by decide +kernel))
theorem mw_425 : (.code yX10_stepAt cX10_stepAt 4 (some .int) : Cond) ∈ lw_tbl := sub_9 _ (List.mem_of_getElem? (i := 100) (by decide +kernel))
theorem mw_426 : (.code yX10_atTop cX10_atTop 3 (some .int) : Cond) ∈ lw_tbl := sub_9 _ (List.mem_of_getElem? (i := 104) (by decide +kernel))
theorem mw_427 : (.code yX10_walk cX10_walk 4 (some .int) : Cond) ∈ lw_tbl := sub_9 _ (List.mem_of_getElem? (i := 108) (by decide +kernel))
theorem mw_428 : (.code yX10_reach cX10_reach 6 (some .int) : Cond) ∈ lw_tbl := sub_9 _ (List.mem_of_getElem? (i := 112) (by decide +kernel))
theorem mw_429 : (.code yX10_reached cX10_reached 10 (some .int) : Cond) ∈ lw_tbl := sub_9 _ (List.mem_of_getElem? (i := 153) (by decide +kernel))
theorem mw_430 : (.code yX10_meet cX10_meet 5 (some .int) : Cond) ∈ lw_tbl := sub_9 _ (List.mem_of_getElem? (i := 157) (by decide +kernel))
theorem mw_431 : (.code yX10_side cX10_side 3 (some .int) : Cond) ∈ lw_tbl := sub_8 _ (List.mem_of_getElem? (i := 196) (by decide +kernel))
theorem mw_432 : (.selects RX10 yX10_noOperator yX10_noOperator : Cond) ∈ lw_tbl := List.mem_append_left _ (List.mem_of_getElem? (i := 121) (by decide +kernel))
theorem mw_433 : (.instanceMethod yX10_noOperator : Cond) ∈ lw_tbl := sub_9 _ (List.mem_of_getElem? (i := 47) (by decide +kernel))
theorem mw_434 : (.methodLink RX10 386 yX10_noOperator : Cond) ∈ lw_tbl := sub_9 _ (List.mem_of_getElem? (i := 45) (by decide +kernel))
theorem mw_435 : (.code yX10_operator cX10_operator 3 (some .int) : Cond) ∈ lw_tbl := sub_9 _ (List.mem_of_getElem? (i := 165) (by decide +kernel))
theorem mw_436 : (.code yX10_join cX10_join 7 (some .int) : Cond) ∈ lw_tbl := sub_9 _ (List.mem_of_getElem? (i := 44) (by decide +kernel))
theorem mw_437 : (.code yX10_rank cX10_rank 6 (some .int) : Cond) ∈ lw_tbl := sub_9 _ (List.mem_of_getElem? (i := 205) (by decide +kernel))
theorem mw_438 : (.code yX10_keep cX10_keep 3 (some .int) : Cond) ∈ lw_tbl := sub_8 _ (List.mem_of_getElem? (i := 204) (by decide +kernel))
theorem mw_439 : (.code yX10_octet cX10_octet 2 (some .int) : Cond) ∈ lw_tbl := sub_8 _ (List.mem_of_getElem? (i := 200) (by decide +kernel))
theorem mw_440 : (.fieldLink RX10 275 "SumRewriterModel" "onSet" "I" : Cond) ∈ lw_tbl := sub_7 _ (List.mem_of_getElem? (i := 56) (by decide +kernel))
theorem mw_441 : (.code yX10_rulesOn cX10_rulesOn 1 (some .int) : Cond) ∈ lw_tbl := sub_9 _ (List.mem_of_getElem? (i := 60) (by decide +kernel))
theorem mw_442 : (.code yX10_normalTerms cX10_normalTerms 3 (some .int) : Cond) ∈ lw_tbl := sub_9 _ (List.mem_of_getElem? (i := 213) (by decide +kernel))
theorem mw_443 : (.code yX10_greatest cX10_greatest 4 (some .int) : Cond) ∈ lw_tbl := sub_9 _ (List.mem_of_getElem? (i := 217) (by decide +kernel))
theorem mw_444 : (.code yX10_allMatches cX10_allMatches 5 (some .int) : Cond) ∈ lw_tbl := sub_9 _ (List.mem_of_getElem? (i := 221) (by decide +kernel))
theorem mw_445 : (.selects RX10 yX10_rulesOn yX10_rulesOn : Cond) ∈ lw_tbl := List.mem_append_left _ (List.mem_of_getElem? (i := 123) (by decide +kernel))
theorem mw_446 : (.instanceMethod yX10_rulesOn : Cond) ∈ lw_tbl := sub_9 _ (List.mem_of_getElem? (i := 59) (by decide +kernel))
theorem mw_447 : (.methodLink RX10 389 yX10_rulesOn : Cond) ∈ lw_tbl := sub_9 _ (List.mem_of_getElem? (i := 57) (by decide +kernel))
theorem mw_448 : (.selects RX10 yX10_normalTerms yX10_normalTerms : Cond) ∈ lw_tbl := List.mem_append_left _ (List.mem_of_getElem? (i := 149) (by decide +kernel))
theorem mw_449 : (.instanceMethod yX10_normalTerms : Cond) ∈ lw_tbl := sub_9 _ (List.mem_of_getElem? (i := 212) (by decide +kernel))
theorem mw_450 : (.methodLink RX10 459 yX10_normalTerms : Cond) ∈ lw_tbl := sub_9 _ (List.mem_of_getElem? (i := 210) (by decide +kernel))
theorem mw_451 : (.selects RX10 yX10_greatest yX10_greatest : Cond) ∈ lw_tbl := List.mem_append_left _ (List.mem_of_getElem? (i := 150) (by decide +kernel))
theorem mw_452 : (.instanceMethod yX10_greatest : Cond) ∈ lw_tbl := sub_9 _ (List.mem_of_getElem? (i := 216) (by decide +kernel))
theorem mw_453 : (.methodLink RX10 462 yX10_greatest : Cond) ∈ lw_tbl := sub_9 _ (List.mem_of_getElem? (i := 214) (by decide +kernel))
theorem mw_454 : (.selects RX10 yX10_allMatches yX10_allMatches : Cond) ∈ lw_tbl := List.mem_append_left _ (List.mem_of_getElem? (i := 151) (by decide +kernel))
theorem mw_455 : (.instanceMethod yX10_allMatches : Cond) ∈ lw_tbl := sub_9 _ (List.mem_of_getElem? (i := 220) (by decide +kernel))
theorem mw_456 : (.methodLink RX10 465 yX10_allMatches : Cond) ∈ lw_tbl := sub_9 _ (List.mem_of_getElem? (i := 218) (by decide +kernel))
theorem mw_457 : (.code yX10_count cX10_count 2 (some .int) : Cond) ∈ lw_tbl := sub_9 _ (List.mem_of_getElem? (i := 209) (by decide +kernel))
theorem mw_458 : (.selects RX9 yX9_signature yX9_signature : Cond) ∈ lw_tbl := sub_4 _ (List.mem_of_getElem? (i := 130) (by decide +kernel))
theorem mw_459 : (.instanceMethod yX9_signature : Cond) ∈ lw_tbl := sub_4 _ (List.mem_of_getElem? (i := 129) (by decide +kernel))
theorem mw_460 : (.methodLink RL 7 yX9_signature : Cond) ∈ lw_tbl := sub_4 _ (List.mem_of_getElem? (i := 128) (by decide +kernel))
theorem mw_461 : (.codeWith yL_signature cL_signature 3 (some .int) [(0, 8, 11, 13)] : Cond) ∈ lw_tbl := sub_4 _ (List.mem_of_getElem? (i := 126) (by decide +kernel))
theorem mw_462 : (.classLink RL 13 "java/lang/IllegalArgumentException" : Cond) ∈ lw_tbl := sub_4 _ (List.mem_of_getElem? (i := 127) (by decide +kernel))
theorem mw_463 : (.selects RX9 yX9_term yX9_term : Cond) ∈ lw_tbl := sub_5 _ (List.mem_of_getElem? (i := 51) (by decide +kernel))
theorem mw_464 : (.instanceMethod yX9_term : Cond) ∈ lw_tbl := sub_5 _ (List.mem_of_getElem? (i := 50) (by decide +kernel))
theorem mw_465 : (.methodLink RL 15 yX9_term : Cond) ∈ lw_tbl := sub_5 _ (List.mem_of_getElem? (i := 49) (by decide +kernel))
theorem mw_466 : (.codeWith yL_term cL_term 3 (some .int) [(0, 8, 11, 13), (0, 8, 14, 18)] : Cond) ∈ lw_tbl := sub_5 _ (List.mem_of_getElem? (i := 47) (by decide +kernel))
theorem mw_467 : (.selects RX9 yX9_rule yX9_rule : Cond) ∈ lw_tbl := sub_5 _ (List.mem_of_getElem? (i := 133) (by decide +kernel))
theorem mw_468 : (.instanceMethod yX9_rule : Cond) ∈ lw_tbl := sub_5 _ (List.mem_of_getElem? (i := 132) (by decide +kernel))
theorem mw_469 : (.methodLink RL 20 yX9_rule : Cond) ∈ lw_tbl := sub_5 _ (List.mem_of_getElem? (i := 131) (by decide +kernel))
theorem mw_470 : (.codeWith yL_rule cL_rule 3 (some .int) [(0, 8, 11, 13), (0, 8, 14, 18)] : Cond) ∈ lw_tbl := sub_5 _ (List.mem_of_getElem? (i := 130) (by decide +kernel))
theorem mw_471 : (.classLink RL 27 "java/lang/IndexOutOfBoundsException" : Cond) ∈ lw_tbl := sub_5 _ (List.mem_of_getElem? (i := 143) (by decide +kernel))
theorem mw_472 : (.selects RX9 yX9_turn yX9_turn : Cond) ∈ lw_tbl := sub_5 _ (List.mem_of_getElem? (i := 146) (by decide +kernel))
theorem mw_473 : (.instanceMethod yX9_turn : Cond) ∈ lw_tbl := sub_5 _ (List.mem_of_getElem? (i := 145) (by decide +kernel))
theorem mw_474 : (.methodLink RL 23 yX9_turn : Cond) ∈ lw_tbl := sub_5 _ (List.mem_of_getElem? (i := 144) (by decide +kernel))
theorem mw_475 : (.codeWith yL_turn cL_turn 5 (some .int) [(0, 17, 20, 27)] : Cond) ∈ lw_tbl := sub_5 _ (List.mem_of_getElem? (i := 142) (by decide +kernel))
theorem mw_476 : (.selects RX9 yX9_operator yX9_operator : Cond) ∈ lw_tbl := sub_5 _ (List.mem_of_getElem? (i := 174) (by decide +kernel))
theorem mw_477 : (.instanceMethod yX9_operator : Cond) ∈ lw_tbl := sub_5 _ (List.mem_of_getElem? (i := 173) (by decide +kernel))
theorem mw_478 : (.methodLink RL 29 yX9_operator : Cond) ∈ lw_tbl := sub_5 _ (List.mem_of_getElem? (i := 172) (by decide +kernel))
theorem mw_479 : (.codeWith yL_operator cL_operator 5 (some .int) [(0, 10, 13, 27), (0, 10, 17, 33)] : Cond) ∈ lw_tbl := sub_5 _ (List.mem_of_getElem? (i := 170) (by decide +kernel))
theorem mw_480 : (.selects RX9 yX9_about yX9_about : Cond) ∈ lw_tbl := sub_5 _ (List.mem_of_getElem? (i := 214) (by decide +kernel))
theorem mw_481 : (.instanceMethod yX9_about : Cond) ∈ lw_tbl := sub_5 _ (List.mem_of_getElem? (i := 213) (by decide +kernel))
theorem mw_482 : (.methodLink RL 35 yX9_about : Cond) ∈ lw_tbl := sub_5 _ (List.mem_of_getElem? (i := 212) (by decide +kernel))
theorem mw_483 : (.codeWith yL_about cL_about 5 (some .int) [(0, 10, 13, 27), (0, 10, 17, 33)] : Cond) ∈ lw_tbl := sub_5 _ (List.mem_of_getElem? (i := 211) (by decide +kernel))
theorem mw_484 : (.selects RX9 yX9_order yX9_order : Cond) ∈ lw_tbl := sub_6 _ (List.mem_of_getElem? (i := 22) (by decide +kernel))
theorem mw_485 : (.instanceMethod yX9_order : Cond) ∈ lw_tbl := sub_6 _ (List.mem_of_getElem? (i := 21) (by decide +kernel))
theorem mw_486 : (.methodLink RL 38 yX9_order : Cond) ∈ lw_tbl := sub_6 _ (List.mem_of_getElem? (i := 20) (by decide +kernel))
theorem mw_487 : (.codeWith yL_order cL_order 5 (some .int) [(0, 10, 13, 27)] : Cond) ∈ lw_tbl := sub_6 _ (List.mem_of_getElem? (i := 19) (by decide +kernel))
theorem mw_488 : (.selects RX9 yX9_show yX9_show : Cond) ∈ lw_tbl := sub_6 _ (List.mem_of_getElem? (i := 30) (by decide +kernel))
theorem mw_489 : (.instanceMethod yX9_show : Cond) ∈ lw_tbl := sub_6 _ (List.mem_of_getElem? (i := 29) (by decide +kernel))
theorem mw_490 : (.methodLink RL 41 yX9_show : Cond) ∈ lw_tbl := sub_6 _ (List.mem_of_getElem? (i := 28) (by decide +kernel))
theorem mw_491 : (.codeWith yL_show cL_show 4 (some .int) [(0, 9, 12, 27)] : Cond) ∈ lw_tbl := sub_6 _ (List.mem_of_getElem? (i := 27) (by decide +kernel))
theorem mw_492 : (.selects RX9 yX9_place yX9_place : Cond) ∈ lw_tbl := sub_6 _ (List.mem_of_getElem? (i := 66) (by decide +kernel))
theorem mw_493 : (.instanceMethod yX9_place : Cond) ∈ lw_tbl := sub_6 _ (List.mem_of_getElem? (i := 65) (by decide +kernel))
theorem mw_494 : (.methodLink RL 45 yX9_place : Cond) ∈ lw_tbl := sub_6 _ (List.mem_of_getElem? (i := 64) (by decide +kernel))
theorem mw_495 : (.codeWith yL_place cL_place 5 (some .int) [(0, 10, 13, 27), (0, 10, 17, 33)] : Cond) ∈ lw_tbl := sub_6 _ (List.mem_of_getElem? (i := 63) (by decide +kernel))
theorem mw_496 : (.selects RX9 yX9_side yX9_side : Cond) ∈ lw_tbl := sub_6 _ (List.mem_of_getElem? (i := 76) (by decide +kernel))
theorem mw_497 : (.instanceMethod yX9_side : Cond) ∈ lw_tbl := sub_6 _ (List.mem_of_getElem? (i := 75) (by decide +kernel))
theorem mw_498 : (.methodLink RL 48 yX9_side : Cond) ∈ lw_tbl := sub_6 _ (List.mem_of_getElem? (i := 74) (by decide +kernel))
theorem mw_499 : (.codeWith yL_side cL_side 5 (some .int) [(0, 10, 13, 27)] : Cond) ∈ lw_tbl := sub_6 _ (List.mem_of_getElem? (i := 73) (by decide +kernel))
theorem mw_500 : (.selects RX9 yX9_matches yX9_matches : Cond) ∈ lw_tbl := sub_6 _ (List.mem_of_getElem? (i := 83) (by decide +kernel))
theorem mw_501 : (.instanceMethod yX9_matches : Cond) ∈ lw_tbl := sub_6 _ (List.mem_of_getElem? (i := 82) (by decide +kernel))
theorem mw_502 : (.methodLink RL 52 yX9_matches : Cond) ∈ lw_tbl := sub_6 _ (List.mem_of_getElem? (i := 81) (by decide +kernel))
theorem mw_503 : (.codeWith yL_matches cL_matches 5 (some .int) [(0, 10, 13, 27), (0, 10, 17, 18)] : Cond) ∈ lw_tbl := sub_6 _ (List.mem_of_getElem? (i := 80) (by decide +kernel))
theorem mw_504 : (.selects RX9 yX9_bound yX9_bound : Cond) ∈ lw_tbl := sub_6 _ (List.mem_of_getElem? (i := 95) (by decide +kernel))
theorem mw_505 : (.instanceMethod yX9_bound : Cond) ∈ lw_tbl := sub_6 _ (List.mem_of_getElem? (i := 94) (by decide +kernel))
theorem mw_506 : (.methodLink RL 55 yX9_bound : Cond) ∈ lw_tbl := sub_6 _ (List.mem_of_getElem? (i := 93) (by decide +kernel))
theorem mw_507 : (.codeWith yL_bound cL_bound 7 (some .int) [(0, 14, 17, 27), (0, 14, 21, 33), (0, 14, 25, 18)] : Cond) ∈ lw_tbl := sub_6 _ (List.mem_of_getElem? (i := 92) (by decide +kernel))
theorem mw_508 : (.selects RX9 yX9_fill yX9_fill : Cond) ∈ lw_tbl := sub_6 _ (List.mem_of_getElem? (i := 117) (by decide +kernel))
theorem mw_509 : (.instanceMethod yX9_fill : Cond) ∈ lw_tbl := sub_6 _ (List.mem_of_getElem? (i := 116) (by decide +kernel))
theorem mw_510 : (.methodLink RL 59 yX9_fill : Cond) ∈ lw_tbl := sub_6 _ (List.mem_of_getElem? (i := 115) (by decide +kernel))
theorem mw_511 : (.codeWith yL_fill cL_fill 6 (some .int) [(0, 12, 15, 27), (0, 12, 19, 18)] : Cond) ∈ lw_tbl := sub_6 _ (List.mem_of_getElem? (i := 114) (by decide +kernel))
theorem mw_512 : (.selects RX9 yX9_join yX9_join : Cond) ∈ lw_tbl := sub_6 _ (List.mem_of_getElem? (i := 130) (by decide +kernel))
theorem mw_513 : (.instanceMethod yX9_join : Cond) ∈ lw_tbl := sub_6 _ (List.mem_of_getElem? (i := 129) (by decide +kernel))
theorem mw_514 : (.methodLink RL 63 yX9_join : Cond) ∈ lw_tbl := sub_6 _ (List.mem_of_getElem? (i := 128) (by decide +kernel))
theorem mw_515 : (.codeWith yL_join cL_join 6 (some .int) [(0, 12, 15, 27), (0, 12, 19, 13), (0, 12, 23, 18)] : Cond) ∈ lw_tbl := sub_6 _ (List.mem_of_getElem? (i := 127) (by decide +kernel))
theorem mw_516 : (.selects RX9 yX9_steps yX9_steps : Cond) ∈ lw_tbl := sub_6 _ (List.mem_of_getElem? (i := 141) (by decide +kernel))
theorem mw_517 : (.instanceMethod yX9_steps : Cond) ∈ lw_tbl := sub_6 _ (List.mem_of_getElem? (i := 140) (by decide +kernel))
theorem mw_518 : (.methodLink RL 66 yX9_steps : Cond) ∈ lw_tbl := sub_6 _ (List.mem_of_getElem? (i := 139) (by decide +kernel))
theorem mw_519 : (.codeWith yL_steps cL_steps 4 (some .int) [(0, 9, 12, 27), (0, 9, 15, 18)] : Cond) ∈ lw_tbl := sub_6 _ (List.mem_of_getElem? (i := 138) (by decide +kernel))
theorem mw_520 : (.selects RX9 yX9_step yX9_step : Cond) ∈ lw_tbl := sub_6 _ (List.mem_of_getElem? (i := 153) (by decide +kernel))
theorem mw_521 : (.instanceMethod yX9_step : Cond) ∈ lw_tbl := sub_6 _ (List.mem_of_getElem? (i := 152) (by decide +kernel))
theorem mw_522 : (.methodLink RL 69 yX9_step : Cond) ∈ lw_tbl := sub_6 _ (List.mem_of_getElem? (i := 151) (by decide +kernel))
theorem mw_523 : (.codeWith yL_step cL_step 5 (some .int) [(0, 10, 13, 27), (0, 10, 17, 33), (0, 10, 21, 18)] : Cond) ∈ lw_tbl := sub_6 _ (List.mem_of_getElem? (i := 150) (by decide +kernel))
theorem mw_524 : (.selects RX9 yX9_stepAt yX9_stepAt : Cond) ∈ lw_tbl := sub_6 _ (List.mem_of_getElem? (i := 169) (by decide +kernel))
theorem mw_525 : (.instanceMethod yX9_stepAt : Cond) ∈ lw_tbl := sub_6 _ (List.mem_of_getElem? (i := 168) (by decide +kernel))
theorem mw_526 : (.methodLink RL 72 yX9_stepAt : Cond) ∈ lw_tbl := sub_6 _ (List.mem_of_getElem? (i := 167) (by decide +kernel))
theorem mw_527 : (.codeWith yL_stepAt cL_stepAt 6 (some .int) [(0, 12, 15, 27), (0, 12, 19, 33), (0, 12, 23, 18)] : Cond) ∈ lw_tbl := sub_6 _ (List.mem_of_getElem? (i := 166) (by decide +kernel))
theorem mw_528 : (.selects RX9 yX9_atTop yX9_atTop : Cond) ∈ lw_tbl := sub_6 _ (List.mem_of_getElem? (i := 185) (by decide +kernel))
theorem mw_529 : (.instanceMethod yX9_atTop : Cond) ∈ lw_tbl := sub_6 _ (List.mem_of_getElem? (i := 184) (by decide +kernel))
theorem mw_530 : (.methodLink RL 75 yX9_atTop : Cond) ∈ lw_tbl := sub_6 _ (List.mem_of_getElem? (i := 183) (by decide +kernel))
theorem mw_531 : (.codeWith yL_atTop cL_atTop 5 (some .int) [(0, 10, 13, 27), (0, 10, 17, 18)] : Cond) ∈ lw_tbl := sub_6 _ (List.mem_of_getElem? (i := 182) (by decide +kernel))
theorem mw_532 : (.selects RX9 yX9_walk yX9_walk : Cond) ∈ lw_tbl := sub_6 _ (List.mem_of_getElem? (i := 192) (by decide +kernel))
theorem mw_533 : (.instanceMethod yX9_walk : Cond) ∈ lw_tbl := sub_6 _ (List.mem_of_getElem? (i := 191) (by decide +kernel))
theorem mw_534 : (.methodLink RL 78 yX9_walk : Cond) ∈ lw_tbl := sub_6 _ (List.mem_of_getElem? (i := 190) (by decide +kernel))
theorem mw_535 : (.codeWith yL_walk cL_walk 4 (some .int) [(0, 9, 12, 27), (0, 9, 15, 18)] : Cond) ∈ lw_tbl := sub_6 _ (List.mem_of_getElem? (i := 189) (by decide +kernel))
theorem mw_536 : (.selects RX9 yX9_reach yX9_reach : Cond) ∈ lw_tbl := sub_6 _ (List.mem_of_getElem? (i := 199) (by decide +kernel))
theorem mw_537 : (.instanceMethod yX9_reach : Cond) ∈ lw_tbl := sub_6 _ (List.mem_of_getElem? (i := 198) (by decide +kernel))
theorem mw_538 : (.methodLink RL 81 yX9_reach : Cond) ∈ lw_tbl := sub_6 _ (List.mem_of_getElem? (i := 197) (by decide +kernel))
theorem mw_539 : (.codeWith yL_reach cL_reach 6 (some .int) [(0, 12, 15, 27), (0, 12, 19, 13), (0, 12, 23, 18)] : Cond) ∈ lw_tbl := sub_6 _ (List.mem_of_getElem? (i := 196) (by decide +kernel))
theorem mw_540 : (.selects RX9 yX9_reached yX9_reached : Cond) ∈ lw_tbl := sub_6 _ (List.mem_of_getElem? (i := 239) (by decide +kernel))
theorem mw_541 : (.instanceMethod yX9_reached : Cond) ∈ lw_tbl := sub_6 _ (List.mem_of_getElem? (i := 238) (by decide +kernel))
theorem mw_542 : (.methodLink RL 85 yX9_reached : Cond) ∈ lw_tbl := sub_6 _ (List.mem_of_getElem? (i := 237) (by decide +kernel))
theorem mw_543 : (.codeWith yL_reached cL_reached 7 (some .int) [(0, 14, 17, 27), (0, 14, 21, 13), (0, 14, 25, 33), (0, 14, 29, 18)] : Cond) ∈ lw_tbl := sub_6 _ (List.mem_of_getElem? (i := 236) (by decide +kernel))
theorem mw_544 : (.selects RX9 yX9_meet yX9_meet : Cond) ∈ lw_tbl := sub_7 _ (List.mem_of_getElem? (i := 7) (by decide +kernel))
theorem mw_545 : (.instanceMethod yX9_meet : Cond) ∈ lw_tbl := sub_7 _ (List.mem_of_getElem? (i := 6) (by decide +kernel))
theorem mw_546 : (.methodLink RL 89 yX9_meet : Cond) ∈ lw_tbl := sub_7 _ (List.mem_of_getElem? (i := 5) (by decide +kernel))
theorem mw_547 : (.codeWith yL_meet cL_meet 6 (some .int) [(0, 12, 15, 27), (0, 12, 19, 13), (0, 12, 23, 18)] : Cond) ∈ lw_tbl := sub_7 _ (List.mem_of_getElem? (i := 4) (by decide +kernel))
theorem mw_548 : (.classLink RL 18 "java/lang/IllegalStateException" : Cond) ∈ lw_tbl := sub_5 _ (List.mem_of_getElem? (i := 48) (by decide +kernel))
theorem mw_549 : (.selects RX9 yX9_keep yX9_keep : Cond) ∈ lw_tbl := sub_7 _ (List.mem_of_getElem? (i := 18) (by decide +kernel))
theorem mw_550 : (.instanceMethod yX9_keep : Cond) ∈ lw_tbl := sub_7 _ (List.mem_of_getElem? (i := 17) (by decide +kernel))
theorem mw_551 : (.methodLink RL 92 yX9_keep : Cond) ∈ lw_tbl := sub_7 _ (List.mem_of_getElem? (i := 16) (by decide +kernel))
theorem mw_552 : (.codeWith yL_keep cL_keep 3 (some .int) [(0, 8, 11, 18)] : Cond) ∈ lw_tbl := sub_7 _ (List.mem_of_getElem? (i := 15) (by decide +kernel))
theorem mw_553 : (.selects RX9 yX9_feed yX9_feed : Cond) ∈ lw_tbl := sub_2 _ (List.mem_of_getElem? (i := 222) (by decide +kernel))
theorem mw_554 : (.instanceMethod yX9_feed : Cond) ∈ lw_tbl := sub_2 _ (List.mem_of_getElem? (i := 221) (by decide +kernel))
theorem mw_555 : (.methodLink RL 99 yX9_feed : Cond) ∈ lw_tbl := sub_2 _ (List.mem_of_getElem? (i := 220) (by decide +kernel))
theorem mw_556 : (.selects RX10 yX10_feed yX10_feed : Cond) ∈ lw_tbl := sub_7 _ (List.mem_of_getElem? (i := 185) (by decide +kernel))
theorem mw_557 : (.instanceMethod yX10_feed : Cond) ∈ lw_tbl := sub_7 _ (List.mem_of_getElem? (i := 184) (by decide +kernel))
theorem mw_558 : (.methodLink RL 103 yX10_feed : Cond) ∈ lw_tbl := sub_7 _ (List.mem_of_getElem? (i := 183) (by decide +kernel))
theorem mw_559 : (.selects RX9 yX9_end yX9_end : Cond) ∈ lw_tbl := sub_2 _ (List.mem_of_getElem? (i := 234) (by decide +kernel))
theorem mw_560 : (.instanceMethod yX9_end : Cond) ∈ lw_tbl := sub_2 _ (List.mem_of_getElem? (i := 233) (by decide +kernel))
theorem mw_561 : (.methodLink RL 104 yX9_end : Cond) ∈ lw_tbl := sub_2 _ (List.mem_of_getElem? (i := 232) (by decide +kernel))
theorem mw_562 : (.selects RX10 yX10_end yX10_end : Cond) ∈ lw_tbl := sub_7 _ (List.mem_of_getElem? (i := 189) (by decide +kernel))
theorem mw_563 : (.instanceMethod yX10_end : Cond) ∈ lw_tbl := sub_7 _ (List.mem_of_getElem? (i := 188) (by decide +kernel))
theorem mw_564 : (.methodLink RL 108 yX10_end : Cond) ∈ lw_tbl := sub_7 _ (List.mem_of_getElem? (i := 187) (by decide +kernel))
theorem mw_565 : (.initialized "SumRewriterLaw" : Cond) ∈ lw_tbl := sub_1 _ (List.mem_of_getElem? (i := 0) (by decide +kernel))
theorem mw_566 : (.static yL_signature : Cond) ∈ lw_tbl := sub_4 _ (List.mem_of_getElem? (i := 125) (by decide +kernel))
theorem mw_567 : (.methodLink RL 109 yL_signature : Cond) ∈ lw_tbl := sub_4 _ (List.mem_of_getElem? (i := 124) (by decide +kernel))
theorem mw_568 : (.selects RX10 yX10_signature yX10_signature : Cond) ∈ lw_tbl := sub_7 _ (List.mem_of_getElem? (i := 193) (by decide +kernel))
theorem mw_569 : (.instanceMethod yX10_signature : Cond) ∈ lw_tbl := sub_7 _ (List.mem_of_getElem? (i := 192) (by decide +kernel))
theorem mw_570 : (.methodLink RL 114 yX10_signature : Cond) ∈ lw_tbl := sub_7 _ (List.mem_of_getElem? (i := 191) (by decide +kernel))
theorem mw_571 : (.selects RX10 yX10_thrown yX10_thrown : Cond) ∈ lw_tbl := sub_7 _ (List.mem_of_getElem? (i := 181) (by decide +kernel))
theorem mw_572 : (.instanceMethod yX10_thrown : Cond) ∈ lw_tbl := sub_7 _ (List.mem_of_getElem? (i := 180) (by decide +kernel))
theorem mw_573 : (.methodLink RL 115 yX10_thrown : Cond) ∈ lw_tbl := sub_7 _ (List.mem_of_getElem? (i := 179) (by decide +kernel))
theorem mw_574 : (.static yL_term : Cond) ∈ lw_tbl := sub_5 _ (List.mem_of_getElem? (i := 46) (by decide +kernel))
theorem mw_575 : (.methodLink RL 118 yL_term : Cond) ∈ lw_tbl := sub_5 _ (List.mem_of_getElem? (i := 45) (by decide +kernel))
theorem mw_576 : (.selects RX10 yX10_term yX10_term : Cond) ∈ lw_tbl := sub_8 _ (List.mem_of_getElem? (i := 65) (by decide +kernel))
theorem mw_577 : (.instanceMethod yX10_term : Cond) ∈ lw_tbl := sub_8 _ (List.mem_of_getElem? (i := 64) (by decide +kernel))
theorem mw_578 : (.methodLink RL 120 yX10_term : Cond) ∈ lw_tbl := sub_8 _ (List.mem_of_getElem? (i := 63) (by decide +kernel))
theorem mw_579 : (.static yL_rule : Cond) ∈ lw_tbl := sub_5 _ (List.mem_of_getElem? (i := 129) (by decide +kernel))
theorem mw_580 : (.methodLink RL 121 yL_rule : Cond) ∈ lw_tbl := sub_5 _ (List.mem_of_getElem? (i := 128) (by decide +kernel))
theorem mw_581 : (.selects RX10 yX10_rule yX10_rule : Cond) ∈ lw_tbl := sub_8 _ (List.mem_of_getElem? (i := 140) (by decide +kernel))
theorem mw_582 : (.instanceMethod yX10_rule : Cond) ∈ lw_tbl := sub_8 _ (List.mem_of_getElem? (i := 139) (by decide +kernel))
theorem mw_583 : (.methodLink RL 123 yX10_rule : Cond) ∈ lw_tbl := sub_8 _ (List.mem_of_getElem? (i := 138) (by decide +kernel))
theorem mw_584 : (.selects RX9 yX9_fault yX9_fault : Cond) ∈ lw_tbl := sub_3 _ (List.mem_of_getElem? (i := 2) (by decide +kernel))
theorem mw_585 : (.instanceMethod yX9_fault : Cond) ∈ lw_tbl := sub_3 _ (List.mem_of_getElem? (i := 1) (by decide +kernel))
theorem mw_586 : (.methodLink RL 124 yX9_fault : Cond) ∈ lw_tbl := sub_3 _ (List.mem_of_getElem? (i := 0) (by decide +kernel))
theorem mw_587 : (.selects RX10 yX10_fault yX10_fault : Cond) ∈ lw_tbl := sub_8 _ (List.mem_of_getElem? (i := 152) (by decide +kernel))
theorem mw_588 : (.instanceMethod yX10_fault : Cond) ∈ lw_tbl := sub_8 _ (List.mem_of_getElem? (i := 151) (by decide +kernel))
theorem mw_589 : (.methodLink RL 127 yX10_fault : Cond) ∈ lw_tbl := sub_8 _ (List.mem_of_getElem? (i := 150) (by decide +kernel))
theorem mw_590 : (.static yL_turn : Cond) ∈ lw_tbl := sub_5 _ (List.mem_of_getElem? (i := 141) (by decide +kernel))
theorem mw_591 : (.methodLink RL 128 yL_turn : Cond) ∈ lw_tbl := sub_5 _ (List.mem_of_getElem? (i := 140) (by decide +kernel))
theorem mw_592 : (.selects RX10 yX10_turn yX10_turn : Cond) ∈ lw_tbl := sub_8 _ (List.mem_of_getElem? (i := 156) (by decide +kernel))
theorem mw_593 : (.instanceMethod yX10_turn : Cond) ∈ lw_tbl := sub_8 _ (List.mem_of_getElem? (i := 155) (by decide +kernel))
theorem mw_594 : (.methodLink RL 131 yX10_turn : Cond) ∈ lw_tbl := sub_8 _ (List.mem_of_getElem? (i := 154) (by decide +kernel))
theorem mw_595 : (.static yL_operator : Cond) ∈ lw_tbl := sub_5 _ (List.mem_of_getElem? (i := 169) (by decide +kernel))
theorem mw_596 : (.methodLink RL 132 yL_operator : Cond) ∈ lw_tbl := sub_5 _ (List.mem_of_getElem? (i := 168) (by decide +kernel))
theorem mw_597 : (.selects RX10 yX10_operator yX10_operator : Cond) ∈ lw_tbl := sub_9 _ (List.mem_of_getElem? (i := 164) (by decide +kernel))
theorem mw_598 : (.instanceMethod yX10_operator : Cond) ∈ lw_tbl := sub_9 _ (List.mem_of_getElem? (i := 163) (by decide +kernel))
theorem mw_599 : (.methodLink RL 135 yX10_operator : Cond) ∈ lw_tbl := sub_9 _ (List.mem_of_getElem? (i := 162) (by decide +kernel))
theorem mw_600 : (.static yL_about : Cond) ∈ lw_tbl := sub_5 _ (List.mem_of_getElem? (i := 210) (by decide +kernel))
theorem mw_601 : (.methodLink RL 136 yL_about : Cond) ∈ lw_tbl := sub_5 _ (List.mem_of_getElem? (i := 209) (by decide +kernel))
theorem mw_602 : (.selects RX10 yX10_about yX10_about : Cond) ∈ lw_tbl := sub_9 _ (List.mem_of_getElem? (i := 176) (by decide +kernel))
theorem mw_603 : (.instanceMethod yX10_about : Cond) ∈ lw_tbl := sub_9 _ (List.mem_of_getElem? (i := 175) (by decide +kernel))
theorem mw_604 : (.methodLink RL 138 yX10_about : Cond) ∈ lw_tbl := sub_9 _ (List.mem_of_getElem? (i := 174) (by decide +kernel))
theorem mw_605 : (.static yL_order : Cond) ∈ lw_tbl := sub_6 _ (List.mem_of_getElem? (i := 18) (by decide +kernel))
theorem mw_606 : (.methodLink RL 139 yL_order : Cond) ∈ lw_tbl := sub_6 _ (List.mem_of_getElem? (i := 17) (by decide +kernel))
theorem mw_607 : (.selects RX10 yX10_order yX10_order : Cond) ∈ lw_tbl := sub_9 _ (List.mem_of_getElem? (i := 200) (by decide +kernel))
theorem mw_608 : (.instanceMethod yX10_order : Cond) ∈ lw_tbl := sub_9 _ (List.mem_of_getElem? (i := 199) (by decide +kernel))
theorem mw_609 : (.methodLink RL 141 yX10_order : Cond) ∈ lw_tbl := sub_9 _ (List.mem_of_getElem? (i := 198) (by decide +kernel))
theorem mw_610 : (.selects RX9 yX9_rank yX9_rank : Cond) ∈ lw_tbl := sub_3 _ (List.mem_of_getElem? (i := 6) (by decide +kernel))
theorem mw_611 : (.instanceMethod yX9_rank : Cond) ∈ lw_tbl := sub_3 _ (List.mem_of_getElem? (i := 5) (by decide +kernel))
theorem mw_612 : (.methodLink RL 142 yX9_rank : Cond) ∈ lw_tbl := sub_3 _ (List.mem_of_getElem? (i := 4) (by decide +kernel))
theorem mw_613 : (.selects RX10 yX10_rank yX10_rank : Cond) ∈ lw_tbl := sub_9 _ (List.mem_of_getElem? (i := 204) (by decide +kernel))
theorem mw_614 : (.instanceMethod yX10_rank : Cond) ∈ lw_tbl := sub_9 _ (List.mem_of_getElem? (i := 203) (by decide +kernel))
theorem mw_615 : (.methodLink RL 145 yX10_rank : Cond) ∈ lw_tbl := sub_9 _ (List.mem_of_getElem? (i := 202) (by decide +kernel))
theorem mw_616 : (.static yL_show : Cond) ∈ lw_tbl := sub_6 _ (List.mem_of_getElem? (i := 26) (by decide +kernel))
theorem mw_617 : (.methodLink RL 146 yL_show : Cond) ∈ lw_tbl := sub_6 _ (List.mem_of_getElem? (i := 25) (by decide +kernel))
theorem mw_618 : (.selects RX10 yX10_show yX10_show : Cond) ∈ lw_tbl := sub_8 _ (List.mem_of_getElem? (i := 167) (by decide +kernel))
theorem mw_619 : (.instanceMethod yX10_show : Cond) ∈ lw_tbl := sub_8 _ (List.mem_of_getElem? (i := 166) (by decide +kernel))
theorem mw_620 : (.methodLink RL 149 yX10_show : Cond) ∈ lw_tbl := sub_8 _ (List.mem_of_getElem? (i := 165) (by decide +kernel))
theorem mw_621 : (.static yL_place : Cond) ∈ lw_tbl := sub_6 _ (List.mem_of_getElem? (i := 62) (by decide +kernel))
theorem mw_622 : (.methodLink RL 150 yL_place : Cond) ∈ lw_tbl := sub_6 _ (List.mem_of_getElem? (i := 61) (by decide +kernel))
theorem mw_623 : (.selects RX10 yX10_place yX10_place : Cond) ∈ lw_tbl := sub_8 _ (List.mem_of_getElem? (i := 191) (by decide +kernel))
theorem mw_624 : (.instanceMethod yX10_place : Cond) ∈ lw_tbl := sub_8 _ (List.mem_of_getElem? (i := 190) (by decide +kernel))
theorem mw_625 : (.methodLink RL 152 yX10_place : Cond) ∈ lw_tbl := sub_8 _ (List.mem_of_getElem? (i := 189) (by decide +kernel))
theorem mw_626 : (.static yL_side : Cond) ∈ lw_tbl := sub_6 _ (List.mem_of_getElem? (i := 72) (by decide +kernel))
theorem mw_627 : (.methodLink RL 153 yL_side : Cond) ∈ lw_tbl := sub_6 _ (List.mem_of_getElem? (i := 71) (by decide +kernel))
theorem mw_628 : (.selects RX10 yX10_side yX10_side : Cond) ∈ lw_tbl := sub_8 _ (List.mem_of_getElem? (i := 195) (by decide +kernel))
theorem mw_629 : (.instanceMethod yX10_side : Cond) ∈ lw_tbl := sub_8 _ (List.mem_of_getElem? (i := 194) (by decide +kernel))
theorem mw_630 : (.methodLink RL 155 yX10_side : Cond) ∈ lw_tbl := sub_8 _ (List.mem_of_getElem? (i := 193) (by decide +kernel))
theorem mw_631 : (.static yL_matches : Cond) ∈ lw_tbl := sub_6 _ (List.mem_of_getElem? (i := 79) (by decide +kernel))
theorem mw_632 : (.methodLink RL 156 yL_matches : Cond) ∈ lw_tbl := sub_6 _ (List.mem_of_getElem? (i := 78) (by decide +kernel))
theorem mw_633 : (.selects RX10 yX10_matches yX10_matches : Cond) ∈ lw_tbl := sub_8 _ (List.mem_of_getElem? (i := 207) (by decide +kernel))
theorem mw_634 : (.instanceMethod yX10_matches : Cond) ∈ lw_tbl := sub_8 _ (List.mem_of_getElem? (i := 206) (by decide +kernel))
theorem mw_635 : (.methodLink RL 158 yX10_matches : Cond) ∈ lw_tbl := sub_8 _ (List.mem_of_getElem? (i := 205) (by decide +kernel))
theorem mw_636 : (.static yL_bound : Cond) ∈ lw_tbl := sub_6 _ (List.mem_of_getElem? (i := 91) (by decide +kernel))
theorem mw_637 : (.methodLink RL 159 yL_bound : Cond) ∈ lw_tbl := sub_6 _ (List.mem_of_getElem? (i := 90) (by decide +kernel))
theorem mw_638 : (.selects RX10 yX10_bound yX10_bound : Cond) ∈ lw_tbl := sub_9 _ (List.mem_of_getElem? (i := 27) (by decide +kernel))
theorem mw_639 : (.instanceMethod yX10_bound : Cond) ∈ lw_tbl := sub_9 _ (List.mem_of_getElem? (i := 26) (by decide +kernel))
theorem mw_640 : (.methodLink RL 162 yX10_bound : Cond) ∈ lw_tbl := sub_9 _ (List.mem_of_getElem? (i := 25) (by decide +kernel))
theorem mw_641 : (.static yL_fill : Cond) ∈ lw_tbl := sub_6 _ (List.mem_of_getElem? (i := 113) (by decide +kernel))
theorem mw_642 : (.methodLink RL 163 yL_fill : Cond) ∈ lw_tbl := sub_6 _ (List.mem_of_getElem? (i := 112) (by decide +kernel))
theorem mw_643 : (.selects RX10 yX10_fill yX10_fill : Cond) ∈ lw_tbl := sub_9 _ (List.mem_of_getElem? (i := 39) (by decide +kernel))
theorem mw_644 : (.instanceMethod yX10_fill : Cond) ∈ lw_tbl := sub_9 _ (List.mem_of_getElem? (i := 38) (by decide +kernel))
theorem mw_645 : (.methodLink RL 166 yX10_fill : Cond) ∈ lw_tbl := sub_9 _ (List.mem_of_getElem? (i := 37) (by decide +kernel))
theorem mw_646 : (.static yL_join : Cond) ∈ lw_tbl := sub_6 _ (List.mem_of_getElem? (i := 126) (by decide +kernel))
theorem mw_647 : (.methodLink RL 167 yL_join : Cond) ∈ lw_tbl := sub_6 _ (List.mem_of_getElem? (i := 125) (by decide +kernel))
theorem mw_648 : (.selects RX10 yX10_join yX10_join : Cond) ∈ lw_tbl := sub_9 _ (List.mem_of_getElem? (i := 43) (by decide +kernel))
theorem mw_649 : (.instanceMethod yX10_join : Cond) ∈ lw_tbl := sub_9 _ (List.mem_of_getElem? (i := 42) (by decide +kernel))
theorem mw_650 : (.methodLink RL 169 yX10_join : Cond) ∈ lw_tbl := sub_9 _ (List.mem_of_getElem? (i := 41) (by decide +kernel))
theorem mw_651 : (.static yL_steps : Cond) ∈ lw_tbl := sub_6 _ (List.mem_of_getElem? (i := 137) (by decide +kernel))
theorem mw_652 : (.methodLink RL 170 yL_steps : Cond) ∈ lw_tbl := sub_6 _ (List.mem_of_getElem? (i := 136) (by decide +kernel))
theorem mw_653 : (.selects RX10 yX10_steps yX10_steps : Cond) ∈ lw_tbl := sub_9 _ (List.mem_of_getElem? (i := 51) (by decide +kernel))
theorem mw_654 : (.instanceMethod yX10_steps : Cond) ∈ lw_tbl := sub_9 _ (List.mem_of_getElem? (i := 50) (by decide +kernel))
theorem mw_655 : (.methodLink RL 172 yX10_steps : Cond) ∈ lw_tbl := sub_9 _ (List.mem_of_getElem? (i := 49) (by decide +kernel))
theorem mw_656 : (.static yL_step : Cond) ∈ lw_tbl := sub_6 _ (List.mem_of_getElem? (i := 149) (by decide +kernel))
theorem mw_657 : (.methodLink RL 173 yL_step : Cond) ∈ lw_tbl := sub_6 _ (List.mem_of_getElem? (i := 148) (by decide +kernel))
theorem mw_658 : (.selects RX10 yX10_step yX10_step : Cond) ∈ lw_tbl := sub_9 _ (List.mem_of_getElem? (i := 91) (by decide +kernel))
theorem mw_659 : (.instanceMethod yX10_step : Cond) ∈ lw_tbl := sub_9 _ (List.mem_of_getElem? (i := 90) (by decide +kernel))
theorem mw_660 : (.methodLink RL 175 yX10_step : Cond) ∈ lw_tbl := sub_9 _ (List.mem_of_getElem? (i := 89) (by decide +kernel))
theorem mw_661 : (.static yL_stepAt : Cond) ∈ lw_tbl := sub_6 _ (List.mem_of_getElem? (i := 165) (by decide +kernel))
theorem mw_662 : (.methodLink RL 176 yL_stepAt : Cond) ∈ lw_tbl := sub_6 _ (List.mem_of_getElem? (i := 164) (by decide +kernel))
theorem mw_663 : (.selects RX10 yX10_stepAt yX10_stepAt : Cond) ∈ lw_tbl := sub_9 _ (List.mem_of_getElem? (i := 99) (by decide +kernel))
theorem mw_664 : (.instanceMethod yX10_stepAt : Cond) ∈ lw_tbl := sub_9 _ (List.mem_of_getElem? (i := 98) (by decide +kernel))
theorem mw_665 : (.methodLink RL 178 yX10_stepAt : Cond) ∈ lw_tbl := sub_9 _ (List.mem_of_getElem? (i := 97) (by decide +kernel))
theorem mw_666 : (.static yL_atTop : Cond) ∈ lw_tbl := sub_6 _ (List.mem_of_getElem? (i := 181) (by decide +kernel))
theorem mw_667 : (.methodLink RL 179 yL_atTop : Cond) ∈ lw_tbl := sub_6 _ (List.mem_of_getElem? (i := 180) (by decide +kernel))
theorem mw_668 : (.selects RX10 yX10_atTop yX10_atTop : Cond) ∈ lw_tbl := sub_9 _ (List.mem_of_getElem? (i := 103) (by decide +kernel))
theorem mw_669 : (.instanceMethod yX10_atTop : Cond) ∈ lw_tbl := sub_9 _ (List.mem_of_getElem? (i := 102) (by decide +kernel))
theorem mw_670 : (.methodLink RL 181 yX10_atTop : Cond) ∈ lw_tbl := sub_9 _ (List.mem_of_getElem? (i := 101) (by decide +kernel))
theorem mw_671 : (.static yL_walk : Cond) ∈ lw_tbl := sub_6 _ (List.mem_of_getElem? (i := 188) (by decide +kernel))
theorem mw_672 : (.methodLink RL 182 yL_walk : Cond) ∈ lw_tbl := sub_6 _ (List.mem_of_getElem? (i := 187) (by decide +kernel))
theorem mw_673 : (.selects RX10 yX10_walk yX10_walk : Cond) ∈ lw_tbl := sub_9 _ (List.mem_of_getElem? (i := 107) (by decide +kernel))
theorem mw_674 : (.instanceMethod yX10_walk : Cond) ∈ lw_tbl := sub_9 _ (List.mem_of_getElem? (i := 106) (by decide +kernel))
theorem mw_675 : (.methodLink RL 184 yX10_walk : Cond) ∈ lw_tbl := sub_9 _ (List.mem_of_getElem? (i := 105) (by decide +kernel))
theorem mw_676 : (.static yL_reach : Cond) ∈ lw_tbl := sub_6 _ (List.mem_of_getElem? (i := 195) (by decide +kernel))
theorem mw_677 : (.methodLink RL 185 yL_reach : Cond) ∈ lw_tbl := sub_6 _ (List.mem_of_getElem? (i := 194) (by decide +kernel))
theorem mw_678 : (.selects RX10 yX10_reach yX10_reach : Cond) ∈ lw_tbl := sub_9 _ (List.mem_of_getElem? (i := 111) (by decide +kernel))
theorem mw_679 : (.instanceMethod yX10_reach : Cond) ∈ lw_tbl := sub_9 _ (List.mem_of_getElem? (i := 110) (by decide +kernel))
theorem mw_680 : (.methodLink RL 188 yX10_reach : Cond) ∈ lw_tbl := sub_9 _ (List.mem_of_getElem? (i := 109) (by decide +kernel))
theorem mw_681 : (.static yL_reached : Cond) ∈ lw_tbl := sub_6 _ (List.mem_of_getElem? (i := 235) (by decide +kernel))
theorem mw_682 : (.methodLink RL 189 yL_reached : Cond) ∈ lw_tbl := sub_6 _ (List.mem_of_getElem? (i := 234) (by decide +kernel))
theorem mw_683 : (.selects RX10 yX10_reached yX10_reached : Cond) ∈ lw_tbl := sub_9 _ (List.mem_of_getElem? (i := 152) (by decide +kernel))
theorem mw_684 : (.instanceMethod yX10_reached : Cond) ∈ lw_tbl := sub_9 _ (List.mem_of_getElem? (i := 151) (by decide +kernel))
theorem mw_685 : (.methodLink RL 192 yX10_reached : Cond) ∈ lw_tbl := sub_9 _ (List.mem_of_getElem? (i := 150) (by decide +kernel))
theorem mw_686 : (.static yL_meet : Cond) ∈ lw_tbl := sub_7 _ (List.mem_of_getElem? (i := 3) (by decide +kernel))
theorem mw_687 : (.methodLink RL 193 yL_meet : Cond) ∈ lw_tbl := sub_7 _ (List.mem_of_getElem? (i := 2) (by decide +kernel))
theorem mw_688 : (.selects RX10 yX10_meet yX10_meet : Cond) ∈ lw_tbl := sub_9 _ (List.mem_of_getElem? (i := 156) (by decide +kernel))
theorem mw_689 : (.instanceMethod yX10_meet : Cond) ∈ lw_tbl := sub_9 _ (List.mem_of_getElem? (i := 155) (by decide +kernel))
theorem mw_690 : (.methodLink RL 195 yX10_meet : Cond) ∈ lw_tbl := sub_9 _ (List.mem_of_getElem? (i := 154) (by decide +kernel))
theorem mw_691 : (.static yL_keep : Cond) ∈ lw_tbl := sub_7 _ (List.mem_of_getElem? (i := 14) (by decide +kernel))
theorem mw_692 : (.methodLink RL 196 yL_keep : Cond) ∈ lw_tbl := sub_7 _ (List.mem_of_getElem? (i := 13) (by decide +kernel))
theorem mw_693 : (.selects RX10 yX10_keep yX10_keep : Cond) ∈ lw_tbl := sub_8 _ (List.mem_of_getElem? (i := 203) (by decide +kernel))
theorem mw_694 : (.instanceMethod yX10_keep : Cond) ∈ lw_tbl := sub_8 _ (List.mem_of_getElem? (i := 202) (by decide +kernel))
theorem mw_695 : (.methodLink RL 198 yX10_keep : Cond) ∈ lw_tbl := sub_8 _ (List.mem_of_getElem? (i := 201) (by decide +kernel))
theorem mw_696 : (.selects RX9 yX9_octet yX9_octet : Cond) ∈ lw_tbl := sub_3 _ (List.mem_of_getElem? (i := 34) (by decide +kernel))
theorem mw_697 : (.instanceMethod yX9_octet : Cond) ∈ lw_tbl := sub_3 _ (List.mem_of_getElem? (i := 33) (by decide +kernel))
theorem mw_698 : (.methodLink RL 199 yX9_octet : Cond) ∈ lw_tbl := sub_3 _ (List.mem_of_getElem? (i := 32) (by decide +kernel))
theorem mw_699 : (.selects RX10 yX10_octet yX10_octet : Cond) ∈ lw_tbl := sub_8 _ (List.mem_of_getElem? (i := 199) (by decide +kernel))
theorem mw_700 : (.instanceMethod yX10_octet : Cond) ∈ lw_tbl := sub_8 _ (List.mem_of_getElem? (i := 198) (by decide +kernel))
theorem mw_701 : (.methodLink RL 202 yX10_octet : Cond) ∈ lw_tbl := sub_8 _ (List.mem_of_getElem? (i := 197) (by decide +kernel))
theorem mw_702 : (.selects RX9 yX9_count yX9_count : Cond) ∈ lw_tbl := sub_3 _ (List.mem_of_getElem? (i := 42) (by decide +kernel))
theorem mw_703 : (.instanceMethod yX9_count : Cond) ∈ lw_tbl := sub_3 _ (List.mem_of_getElem? (i := 41) (by decide +kernel))
theorem mw_704 : (.methodLink RL 203 yX9_count : Cond) ∈ lw_tbl := sub_3 _ (List.mem_of_getElem? (i := 40) (by decide +kernel))
theorem mw_705 : (.selects RX10 yX10_count yX10_count : Cond) ∈ lw_tbl := sub_9 _ (List.mem_of_getElem? (i := 208) (by decide +kernel))
theorem mw_706 : (.instanceMethod yX10_count : Cond) ∈ lw_tbl := sub_9 _ (List.mem_of_getElem? (i := 207) (by decide +kernel))
theorem mw_707 : (.methodLink RL 206 yX10_count : Cond) ∈ lw_tbl := sub_9 _ (List.mem_of_getElem? (i := 206) (by decide +kernel))
theorem mw_708 : (.instanceMethod yX10_init : Cond) ∈ lw_tbl := sub_7 _ (List.mem_of_getElem? (i := 24) (by decide +kernel))
theorem mw_709 : (.methodLink RL 98 yX10_init : Cond) ∈ lw_tbl := sub_7 _ (List.mem_of_getElem? (i := 23) (by decide +kernel))
theorem mw_710 : (.instantiable RX10 50 : Cond) ∈ lw_tbl := sub_7 _ (List.mem_of_getElem? (i := 22) (by decide +kernel))
theorem mw_711 : (.classLink RL 96 RX10 : Cond) ∈ lw_tbl := sub_7 _ (List.mem_of_getElem? (i := 21) (by decide +kernel))
theorem mw_712 : (.instanceMethod yX9_init : Cond) ∈ lw_tbl := sub_1 _ (List.mem_of_getElem? (i := 30) (by decide +kernel))
theorem mw_713 : (.methodLink RL 95 yX9_init : Cond) ∈ lw_tbl := sub_1 _ (List.mem_of_getElem? (i := 29) (by decide +kernel))
theorem mw_714 : (.instantiable RX9 16 : Cond) ∈ lw_tbl := sub_1 _ (List.mem_of_getElem? (i := 28) (by decide +kernel))
theorem mw_715 : (.classLink RL 8 RX9 : Cond) ∈ lw_tbl := sub_1 _ (List.mem_of_getElem? (i := 27) (by decide +kernel))
set_option maxRecDepth 20000 in
theorem in_wo_X3_init : ∀ w ∈ wo_X3_init, w ∈ lw_tbl := List.forall_mem_cons.mpr ⟨mw_5, List.forall_mem_append.mpr ⟨(List.forall_mem_cons.mpr ⟨mw_4, (List.forall_mem_cons.mpr ⟨mw_3, (List.forall_mem_cons.mpr ⟨mw_2, (List.forall_mem_cons.mpr ⟨mw_1, (List.forall_mem_cons.mpr ⟨mw_0, (fun _ h => absurd h List.not_mem_nil)⟩)⟩)⟩)⟩)⟩), lin_wsX30⟩⟩
set_option maxRecDepth 20000 in
theorem in_wo_X5_init : ∀ w ∈ wo_X5_init, w ∈ lw_tbl := List.forall_mem_cons.mpr ⟨mw_12, List.forall_mem_append.mpr ⟨(List.forall_mem_cons.mpr ⟨mw_11, (List.forall_mem_cons.mpr ⟨mw_10, (List.forall_mem_cons.mpr ⟨mw_9, (List.forall_mem_cons.mpr ⟨mw_8, (List.forall_mem_cons.mpr ⟨mw_7, (List.forall_mem_cons.mpr ⟨mw_6, (List.forall_mem_cons.mpr ⟨mw_2, (List.forall_mem_cons.mpr ⟨mw_1, (List.forall_mem_cons.mpr ⟨mw_0, (fun _ h => absurd h List.not_mem_nil)⟩)⟩)⟩)⟩)⟩)⟩)⟩)⟩)⟩), lin_wsX50⟩⟩
set_option maxRecDepth 20000 in
theorem in_wo_X8_init : ∀ w ∈ wo_X8_init, w ∈ lw_tbl := List.forall_mem_cons.mpr ⟨mw_27, List.forall_mem_append.mpr ⟨(List.forall_mem_cons.mpr ⟨mw_26, (List.forall_mem_cons.mpr ⟨mw_25, (List.forall_mem_cons.mpr ⟨mw_24, (List.forall_mem_cons.mpr ⟨mw_23, (List.forall_mem_cons.mpr ⟨mw_22, (List.forall_mem_cons.mpr ⟨mw_21, (List.forall_mem_cons.mpr ⟨mw_20, (List.forall_mem_cons.mpr ⟨mw_19, (List.forall_mem_cons.mpr ⟨mw_18, (List.forall_mem_cons.mpr ⟨mw_17, (List.forall_mem_cons.mpr ⟨mw_16, (List.forall_mem_cons.mpr ⟨mw_15, (List.forall_mem_cons.mpr ⟨mw_14, (List.forall_mem_cons.mpr ⟨mw_2, (List.forall_mem_cons.mpr ⟨mw_1, (List.forall_mem_cons.mpr ⟨mw_0, (List.forall_mem_cons.mpr ⟨mw_13, (fun _ h => absurd h List.not_mem_nil)⟩)⟩)⟩)⟩)⟩)⟩)⟩)⟩)⟩)⟩)⟩)⟩)⟩)⟩)⟩)⟩)⟩), lin_wsX80⟩⟩
set_option maxRecDepth 20000 in
theorem in_wo_X1_init : ∀ w ∈ wo_X1_init, w ∈ lw_tbl := List.forall_mem_cons.mpr ⟨mw_35, List.forall_mem_append.mpr ⟨(List.forall_mem_cons.mpr ⟨mw_34, (List.forall_mem_cons.mpr ⟨mw_33, (List.forall_mem_cons.mpr ⟨mw_32, (List.forall_mem_cons.mpr ⟨mw_31, (List.forall_mem_cons.mpr ⟨mw_30, (List.forall_mem_cons.mpr ⟨mw_29, (List.forall_mem_cons.mpr ⟨mw_28, (List.forall_mem_cons.mpr ⟨mw_2, (List.forall_mem_cons.mpr ⟨mw_1, (List.forall_mem_cons.mpr ⟨mw_0, (fun _ h => absurd h List.not_mem_nil)⟩)⟩)⟩)⟩)⟩)⟩)⟩)⟩)⟩)⟩), lin_wsX10⟩⟩
set_option maxRecDepth 20000 in
theorem in_wo_X2_init_1 : ∀ w ∈ wo_X2_init_1, w ∈ lw_tbl := List.forall_mem_cons.mpr ⟨mw_47, List.forall_mem_append.mpr ⟨(List.forall_mem_cons.mpr ⟨mw_46, (List.forall_mem_cons.mpr ⟨mw_45, (List.forall_mem_cons.mpr ⟨mw_44, (List.forall_mem_cons.mpr ⟨mw_43, (List.forall_mem_cons.mpr ⟨mw_42, (List.forall_mem_cons.mpr ⟨mw_41, (List.forall_mem_cons.mpr ⟨mw_40, (List.forall_mem_cons.mpr ⟨mw_39, (List.forall_mem_cons.mpr ⟨mw_38, (List.forall_mem_cons.mpr ⟨mw_37, (List.forall_mem_cons.mpr ⟨mw_36, (List.forall_mem_cons.mpr ⟨mw_2, (List.forall_mem_cons.mpr ⟨mw_1, (List.forall_mem_cons.mpr ⟨mw_0, (fun _ h => absurd h List.not_mem_nil)⟩)⟩)⟩)⟩)⟩)⟩)⟩)⟩)⟩)⟩)⟩)⟩)⟩)⟩), lin_wsX20⟩⟩
set_option maxRecDepth 20000 in
theorem in_wo_X2_init_16 : ∀ w ∈ wo_X2_init_16, w ∈ lw_tbl := List.forall_mem_cons.mpr ⟨mw_47, List.forall_mem_append.mpr ⟨(List.forall_mem_cons.mpr ⟨mw_46, (List.forall_mem_cons.mpr ⟨mw_45, (List.forall_mem_cons.mpr ⟨mw_44, (List.forall_mem_cons.mpr ⟨mw_43, (List.forall_mem_cons.mpr ⟨mw_42, (List.forall_mem_cons.mpr ⟨mw_41, (List.forall_mem_cons.mpr ⟨mw_40, (List.forall_mem_cons.mpr ⟨mw_39, (List.forall_mem_cons.mpr ⟨mw_38, (List.forall_mem_cons.mpr ⟨mw_37, (List.forall_mem_cons.mpr ⟨mw_36, (List.forall_mem_cons.mpr ⟨mw_2, (List.forall_mem_cons.mpr ⟨mw_1, (List.forall_mem_cons.mpr ⟨mw_0, (fun _ h => absurd h List.not_mem_nil)⟩)⟩)⟩)⟩)⟩)⟩)⟩)⟩)⟩)⟩)⟩)⟩)⟩)⟩), lin_wsX20⟩⟩
set_option maxRecDepth 20000 in
theorem in_wo_X2_init_30 : ∀ w ∈ wo_X2_init_30, w ∈ lw_tbl := List.forall_mem_cons.mpr ⟨mw_47, List.forall_mem_append.mpr ⟨(List.forall_mem_cons.mpr ⟨mw_46, (List.forall_mem_cons.mpr ⟨mw_45, (List.forall_mem_cons.mpr ⟨mw_44, (List.forall_mem_cons.mpr ⟨mw_43, (List.forall_mem_cons.mpr ⟨mw_42, (List.forall_mem_cons.mpr ⟨mw_41, (List.forall_mem_cons.mpr ⟨mw_40, (List.forall_mem_cons.mpr ⟨mw_39, (List.forall_mem_cons.mpr ⟨mw_38, (List.forall_mem_cons.mpr ⟨mw_37, (List.forall_mem_cons.mpr ⟨mw_36, (List.forall_mem_cons.mpr ⟨mw_2, (List.forall_mem_cons.mpr ⟨mw_1, (List.forall_mem_cons.mpr ⟨mw_0, (fun _ h => absurd h List.not_mem_nil)⟩)⟩)⟩)⟩)⟩)⟩)⟩)⟩)⟩)⟩)⟩)⟩)⟩)⟩), lin_wsX20⟩⟩
set_option maxRecDepth 20000 in
theorem in_wo_X2_init_51 : ∀ w ∈ wo_X2_init_51, w ∈ lw_tbl := List.forall_mem_cons.mpr ⟨mw_47, List.forall_mem_append.mpr ⟨(List.forall_mem_cons.mpr ⟨mw_46, (List.forall_mem_cons.mpr ⟨mw_45, (List.forall_mem_cons.mpr ⟨mw_44, (List.forall_mem_cons.mpr ⟨mw_43, (List.forall_mem_cons.mpr ⟨mw_42, (List.forall_mem_cons.mpr ⟨mw_41, (List.forall_mem_cons.mpr ⟨mw_40, (List.forall_mem_cons.mpr ⟨mw_39, (List.forall_mem_cons.mpr ⟨mw_38, (List.forall_mem_cons.mpr ⟨mw_37, (List.forall_mem_cons.mpr ⟨mw_36, (List.forall_mem_cons.mpr ⟨mw_2, (List.forall_mem_cons.mpr ⟨mw_1, (List.forall_mem_cons.mpr ⟨mw_0, (fun _ h => absurd h List.not_mem_nil)⟩)⟩)⟩)⟩)⟩)⟩)⟩)⟩)⟩)⟩)⟩)⟩)⟩)⟩), lin_wsX20⟩⟩
set_option maxRecDepth 20000 in
theorem in_wo_X2_init_201 : ∀ w ∈ wo_X2_init_201, w ∈ lw_tbl := List.forall_mem_cons.mpr ⟨mw_47, List.forall_mem_append.mpr ⟨(List.forall_mem_cons.mpr ⟨mw_46, (List.forall_mem_cons.mpr ⟨mw_45, (List.forall_mem_cons.mpr ⟨mw_44, (List.forall_mem_cons.mpr ⟨mw_43, (List.forall_mem_cons.mpr ⟨mw_42, (List.forall_mem_cons.mpr ⟨mw_41, (List.forall_mem_cons.mpr ⟨mw_40, (List.forall_mem_cons.mpr ⟨mw_39, (List.forall_mem_cons.mpr ⟨mw_38, (List.forall_mem_cons.mpr ⟨mw_37, (List.forall_mem_cons.mpr ⟨mw_36, (List.forall_mem_cons.mpr ⟨mw_2, (List.forall_mem_cons.mpr ⟨mw_1, (List.forall_mem_cons.mpr ⟨mw_0, (fun _ h => absurd h List.not_mem_nil)⟩)⟩)⟩)⟩)⟩)⟩)⟩)⟩)⟩)⟩)⟩)⟩)⟩)⟩), lin_wsX20⟩⟩
set_option maxRecDepth 20000 in
theorem in_wo_X4_init : ∀ w ∈ wo_X4_init, w ∈ lw_tbl := List.forall_mem_cons.mpr ⟨mw_58, List.forall_mem_append.mpr ⟨(List.forall_mem_cons.mpr ⟨mw_57, (List.forall_mem_cons.mpr ⟨mw_56, (List.forall_mem_cons.mpr ⟨mw_55, (List.forall_mem_cons.mpr ⟨mw_54, (List.forall_mem_cons.mpr ⟨mw_53, (List.forall_mem_cons.mpr ⟨mw_2, (List.forall_mem_cons.mpr ⟨mw_1, (List.forall_mem_cons.mpr ⟨mw_52, (List.forall_mem_cons.mpr ⟨mw_51, (List.forall_mem_cons.mpr ⟨mw_50, (List.forall_mem_cons.mpr ⟨mw_49, (List.forall_mem_cons.mpr ⟨mw_48, (List.forall_mem_cons.mpr ⟨mw_0, (fun _ h => absurd h List.not_mem_nil)⟩)⟩)⟩)⟩)⟩)⟩)⟩)⟩)⟩)⟩)⟩)⟩)⟩), List.forall_mem_append.mpr ⟨lin_wsX20, List.forall_mem_append.mpr ⟨lin_wsX40, in_wo_X2_init_1⟩⟩⟩⟩
set_option maxRecDepth 20000 in
theorem in_wo_X0_init : ∀ w ∈ wo_X0_init, w ∈ lw_tbl := List.forall_mem_cons.mpr ⟨mw_74, List.forall_mem_append.mpr ⟨(List.forall_mem_cons.mpr ⟨mw_73, (List.forall_mem_cons.mpr ⟨mw_72, (List.forall_mem_cons.mpr ⟨mw_71, (List.forall_mem_cons.mpr ⟨mw_70, (List.forall_mem_cons.mpr ⟨mw_69, (List.forall_mem_cons.mpr ⟨mw_68, (List.forall_mem_cons.mpr ⟨mw_67, (List.forall_mem_cons.mpr ⟨mw_66, (List.forall_mem_cons.mpr ⟨mw_65, (List.forall_mem_cons.mpr ⟨mw_64, (List.forall_mem_cons.mpr ⟨mw_63, (List.forall_mem_cons.mpr ⟨mw_62, (List.forall_mem_cons.mpr ⟨mw_61, (List.forall_mem_cons.mpr ⟨mw_60, (List.forall_mem_cons.mpr ⟨mw_59, (List.forall_mem_cons.mpr ⟨mw_2, (List.forall_mem_cons.mpr ⟨mw_1, (List.forall_mem_cons.mpr ⟨mw_0, (fun _ h => absurd h List.not_mem_nil)⟩)⟩)⟩)⟩)⟩)⟩)⟩)⟩)⟩)⟩)⟩)⟩)⟩)⟩)⟩)⟩)⟩)⟩), lin_wsX00⟩⟩
set_option maxRecDepth 20000 in
theorem in_wo_X7_init : ∀ w ∈ wo_X7_init, w ∈ lw_tbl := List.forall_mem_cons.mpr ⟨mw_90, List.forall_mem_append.mpr ⟨(List.forall_mem_cons.mpr ⟨mw_89, (List.forall_mem_cons.mpr ⟨mw_88, (List.forall_mem_cons.mpr ⟨mw_87, (List.forall_mem_cons.mpr ⟨mw_86, (List.forall_mem_cons.mpr ⟨mw_85, (List.forall_mem_cons.mpr ⟨mw_84, (List.forall_mem_cons.mpr ⟨mw_83, (List.forall_mem_cons.mpr ⟨mw_82, (List.forall_mem_cons.mpr ⟨mw_81, (List.forall_mem_cons.mpr ⟨mw_80, (List.forall_mem_cons.mpr ⟨mw_79, (List.forall_mem_cons.mpr ⟨mw_78, (List.forall_mem_cons.mpr ⟨mw_77, (List.forall_mem_cons.mpr ⟨mw_2, (List.forall_mem_cons.mpr ⟨mw_1, (List.forall_mem_cons.mpr ⟨mw_76, (List.forall_mem_cons.mpr ⟨mw_51, (List.forall_mem_cons.mpr ⟨mw_50, (List.forall_mem_cons.mpr ⟨mw_75, (List.forall_mem_cons.mpr ⟨mw_48, (List.forall_mem_cons.mpr ⟨mw_0, (fun _ h => absurd h List.not_mem_nil)⟩)⟩)⟩)⟩)⟩)⟩)⟩)⟩)⟩)⟩)⟩)⟩)⟩)⟩)⟩)⟩)⟩)⟩)⟩)⟩)⟩), List.forall_mem_append.mpr ⟨lin_wsX20, List.forall_mem_append.mpr ⟨lin_wsX70, in_wo_X2_init_201⟩⟩⟩⟩
set_option maxRecDepth 20000 in
theorem in_wo_X6_init : ∀ w ∈ wo_X6_init, w ∈ lw_tbl := List.forall_mem_cons.mpr ⟨mw_96, List.forall_mem_append.mpr ⟨(List.forall_mem_cons.mpr ⟨mw_95, (List.forall_mem_cons.mpr ⟨mw_94, (List.forall_mem_cons.mpr ⟨mw_93, (List.forall_mem_cons.mpr ⟨mw_2, (List.forall_mem_cons.mpr ⟨mw_1, (List.forall_mem_cons.mpr ⟨mw_92, (List.forall_mem_cons.mpr ⟨mw_51, (List.forall_mem_cons.mpr ⟨mw_50, (List.forall_mem_cons.mpr ⟨mw_91, (List.forall_mem_cons.mpr ⟨mw_48, (fun _ h => absurd h List.not_mem_nil)⟩)⟩)⟩)⟩)⟩)⟩)⟩)⟩)⟩)⟩), List.forall_mem_append.mpr ⟨lin_wsX20, List.forall_mem_append.mpr ⟨lin_wsX60, in_wo_X2_init_51⟩⟩⟩⟩
set_option maxRecDepth 20000 in
theorem in_wo_X9_init : ∀ w ∈ wo_X9_init, w ∈ lw_tbl := List.forall_mem_cons.mpr ⟨mw_154, List.forall_mem_append.mpr ⟨(List.forall_mem_cons.mpr ⟨mw_153, (List.forall_mem_cons.mpr ⟨mw_152, (List.forall_mem_cons.mpr ⟨mw_151, (List.forall_mem_cons.mpr ⟨mw_150, (List.forall_mem_cons.mpr ⟨mw_149, (List.forall_mem_cons.mpr ⟨mw_148, (List.forall_mem_cons.mpr ⟨mw_147, (List.forall_mem_cons.mpr ⟨mw_146, (List.forall_mem_cons.mpr ⟨mw_145, (List.forall_mem_cons.mpr ⟨mw_144, (List.forall_mem_cons.mpr ⟨mw_143, (List.forall_mem_cons.mpr ⟨mw_142, (List.forall_mem_cons.mpr ⟨mw_141, (List.forall_mem_cons.mpr ⟨mw_140, (List.forall_mem_cons.mpr ⟨mw_139, (List.forall_mem_cons.mpr ⟨mw_138, (List.forall_mem_cons.mpr ⟨mw_137, (List.forall_mem_cons.mpr ⟨mw_2, (List.forall_mem_cons.mpr ⟨mw_1, (List.forall_mem_cons.mpr ⟨mw_136, (List.forall_mem_cons.mpr ⟨mw_135, (List.forall_mem_cons.mpr ⟨mw_134, (List.forall_mem_cons.mpr ⟨mw_133, (List.forall_mem_cons.mpr ⟨mw_132, (List.forall_mem_cons.mpr ⟨mw_131, (List.forall_mem_cons.mpr ⟨mw_130, (List.forall_mem_cons.mpr ⟨mw_129, (List.forall_mem_cons.mpr ⟨mw_128, (List.forall_mem_cons.mpr ⟨mw_127, (List.forall_mem_cons.mpr ⟨mw_126, (List.forall_mem_cons.mpr ⟨mw_125, (List.forall_mem_cons.mpr ⟨mw_124, (List.forall_mem_cons.mpr ⟨mw_123, (List.forall_mem_cons.mpr ⟨mw_122, (List.forall_mem_cons.mpr ⟨mw_121, (List.forall_mem_cons.mpr ⟨mw_120, (List.forall_mem_cons.mpr ⟨mw_119, (List.forall_mem_cons.mpr ⟨mw_118, (List.forall_mem_cons.mpr ⟨mw_51, (List.forall_mem_cons.mpr ⟨mw_50, (List.forall_mem_cons.mpr ⟨mw_117, (List.forall_mem_cons.mpr ⟨mw_48, (List.forall_mem_cons.mpr ⟨mw_116, (List.forall_mem_cons.mpr ⟨mw_115, (List.forall_mem_cons.mpr ⟨mw_114, (List.forall_mem_cons.mpr ⟨mw_113, (List.forall_mem_cons.mpr ⟨mw_112, (List.forall_mem_cons.mpr ⟨mw_111, (List.forall_mem_cons.mpr ⟨mw_110, (List.forall_mem_cons.mpr ⟨mw_109, (List.forall_mem_cons.mpr ⟨mw_108, (List.forall_mem_cons.mpr ⟨mw_107, (List.forall_mem_cons.mpr ⟨mw_106, (List.forall_mem_cons.mpr ⟨mw_105, (List.forall_mem_cons.mpr ⟨mw_104, (List.forall_mem_cons.mpr ⟨mw_103, (List.forall_mem_cons.mpr ⟨mw_102, (List.forall_mem_cons.mpr ⟨mw_101, (List.forall_mem_cons.mpr ⟨mw_100, (List.forall_mem_cons.mpr ⟨mw_99, (List.forall_mem_cons.mpr ⟨mw_98, (List.forall_mem_cons.mpr ⟨mw_97, (List.forall_mem_cons.mpr ⟨mw_0, (fun _ h => absurd h List.not_mem_nil)⟩)⟩)⟩)⟩)⟩)⟩)⟩)⟩)⟩)⟩)⟩)⟩)⟩)⟩)⟩)⟩)⟩)⟩)⟩)⟩)⟩)⟩)⟩)⟩)⟩)⟩)⟩)⟩)⟩)⟩)⟩)⟩)⟩)⟩)⟩)⟩)⟩)⟩)⟩)⟩)⟩)⟩)⟩)⟩)⟩)⟩)⟩)⟩)⟩)⟩)⟩)⟩)⟩)⟩)⟩)⟩)⟩)⟩)⟩)⟩)⟩)⟩)⟩), List.forall_mem_append.mpr ⟨lin_wsX30, List.forall_mem_append.mpr ⟨lin_wsX90, List.forall_mem_append.mpr ⟨lin_wsX50, List.forall_mem_append.mpr ⟨lin_wsX80, List.forall_mem_append.mpr ⟨lin_wsX10, List.forall_mem_append.mpr ⟨lin_wsX20, List.forall_mem_append.mpr ⟨lin_wsX40, List.forall_mem_append.mpr ⟨lin_wsX00, List.forall_mem_append.mpr ⟨lin_wsX70, List.forall_mem_append.mpr ⟨lin_wsX60, List.forall_mem_append.mpr ⟨in_wo_X3_init, List.forall_mem_append.mpr ⟨in_wo_X5_init, List.forall_mem_append.mpr ⟨in_wo_X8_init, List.forall_mem_append.mpr ⟨in_wo_X1_init, List.forall_mem_append.mpr ⟨in_wo_X2_init_30, List.forall_mem_append.mpr ⟨in_wo_X2_init_16, List.forall_mem_append.mpr ⟨in_wo_X2_init_1, List.forall_mem_append.mpr ⟨in_wo_X4_init, List.forall_mem_append.mpr ⟨in_wo_X0_init, List.forall_mem_append.mpr ⟨in_wo_X7_init, in_wo_X6_init⟩⟩⟩⟩⟩⟩⟩⟩⟩⟩⟩⟩⟩⟩⟩⟩⟩⟩⟩⟩⟩⟩
set_option maxRecDepth 20000 in
theorem in_wo_X10_init : ∀ w ∈ wo_X10_init, w ∈ lw_tbl := List.forall_mem_cons.mpr ⟨mw_187, List.forall_mem_append.mpr ⟨(List.forall_mem_cons.mpr ⟨mw_186, (List.forall_mem_cons.mpr ⟨mw_185, (List.forall_mem_cons.mpr ⟨mw_184, (List.forall_mem_cons.mpr ⟨mw_183, (List.forall_mem_cons.mpr ⟨mw_182, (List.forall_mem_cons.mpr ⟨mw_181, (List.forall_mem_cons.mpr ⟨mw_180, (List.forall_mem_cons.mpr ⟨mw_179, (List.forall_mem_cons.mpr ⟨mw_178, (List.forall_mem_cons.mpr ⟨mw_177, (List.forall_mem_cons.mpr ⟨mw_176, (List.forall_mem_cons.mpr ⟨mw_175, (List.forall_mem_cons.mpr ⟨mw_174, (List.forall_mem_cons.mpr ⟨mw_173, (List.forall_mem_cons.mpr ⟨mw_172, (List.forall_mem_cons.mpr ⟨mw_171, (List.forall_mem_cons.mpr ⟨mw_170, (List.forall_mem_cons.mpr ⟨mw_169, (List.forall_mem_cons.mpr ⟨mw_168, (List.forall_mem_cons.mpr ⟨mw_167, (List.forall_mem_cons.mpr ⟨mw_166, (List.forall_mem_cons.mpr ⟨mw_165, (List.forall_mem_cons.mpr ⟨mw_164, (List.forall_mem_cons.mpr ⟨mw_163, (List.forall_mem_cons.mpr ⟨mw_162, (List.forall_mem_cons.mpr ⟨mw_161, (List.forall_mem_cons.mpr ⟨mw_160, (List.forall_mem_cons.mpr ⟨mw_159, (List.forall_mem_cons.mpr ⟨mw_158, (List.forall_mem_cons.mpr ⟨mw_157, (List.forall_mem_cons.mpr ⟨mw_156, (List.forall_mem_cons.mpr ⟨mw_2, (List.forall_mem_cons.mpr ⟨mw_1, (List.forall_mem_cons.mpr ⟨mw_155, (List.forall_mem_cons.mpr ⟨mw_0, (fun _ h => absurd h List.not_mem_nil)⟩)⟩)⟩)⟩)⟩)⟩)⟩)⟩)⟩)⟩)⟩)⟩)⟩)⟩)⟩)⟩)⟩)⟩)⟩)⟩)⟩)⟩)⟩)⟩)⟩)⟩)⟩)⟩)⟩)⟩)⟩)⟩)⟩)⟩)⟩), lin_wsX100⟩⟩
set_option maxRecDepth 20000 in
theorem in_wo_X3_write : ∀ w ∈ wo_X3_write, w ∈ lw_tbl := List.forall_mem_cons.mpr ⟨mw_189, List.forall_mem_append.mpr ⟨(List.forall_mem_cons.mpr ⟨mw_188, (List.forall_mem_cons.mpr ⟨mw_4, (fun _ h => absurd h List.not_mem_nil)⟩)⟩), lin_wsX30⟩⟩
set_option maxRecDepth 20000 in
theorem in_wo_X3_append : ∀ w ∈ wo_X3_append, w ∈ lw_tbl := List.forall_mem_cons.mpr ⟨mw_193, List.forall_mem_append.mpr ⟨(List.forall_mem_cons.mpr ⟨mw_188, (fun _ h => absurd h List.not_mem_nil)⟩), List.forall_mem_append.mpr ⟨lin_wsX30, List.forall_mem_append.mpr ⟨(List.forall_mem_cons.mpr ⟨mw_192, (List.forall_mem_cons.mpr ⟨mw_191, (List.forall_mem_cons.mpr ⟨mw_190, (List.forall_mem_cons.mpr ⟨mw_134, (fun _ h => absurd h List.not_mem_nil)⟩)⟩)⟩)⟩), in_wo_X3_write⟩⟩⟩⟩
set_option maxRecDepth 20000 in
theorem in_wo_X3_cut : ∀ w ∈ wo_X3_cut, w ∈ lw_tbl := List.forall_mem_cons.mpr ⟨mw_194, List.forall_mem_append.mpr ⟨(List.forall_mem_cons.mpr ⟨mw_188, (fun _ h => absurd h List.not_mem_nil)⟩), lin_wsX30⟩⟩
set_option maxRecDepth 20000 in
theorem in_wo_X9_feed : ∀ w ∈ wo_X9_feed, w ∈ lw_tbl := List.forall_mem_cons.mpr ⟨mw_198, List.forall_mem_append.mpr ⟨(List.forall_mem_cons.mpr ⟨mw_153, (fun _ h => absurd h List.not_mem_nil)⟩), List.forall_mem_append.mpr ⟨lin_wsX90, List.forall_mem_append.mpr ⟨(List.forall_mem_cons.mpr ⟨mw_197, (List.forall_mem_cons.mpr ⟨mw_196, (List.forall_mem_cons.mpr ⟨mw_195, (List.forall_mem_cons.mpr ⟨mw_134, (fun _ h => absurd h List.not_mem_nil)⟩)⟩)⟩)⟩), in_wo_X3_append⟩⟩⟩⟩
set_option maxRecDepth 20000 in
theorem in_wo_X9_end : ∀ w ∈ wo_X9_end, w ∈ lw_tbl := List.forall_mem_cons.mpr ⟨mw_202, List.forall_mem_append.mpr ⟨(List.forall_mem_cons.mpr ⟨mw_153, (fun _ h => absurd h List.not_mem_nil)⟩), List.forall_mem_append.mpr ⟨lin_wsX90, List.forall_mem_append.mpr ⟨(List.forall_mem_cons.mpr ⟨mw_201, (List.forall_mem_cons.mpr ⟨mw_200, (List.forall_mem_cons.mpr ⟨mw_199, (List.forall_mem_cons.mpr ⟨mw_134, (fun _ h => absurd h List.not_mem_nil)⟩)⟩)⟩)⟩), in_wo_X3_cut⟩⟩⟩⟩
set_option maxRecDepth 20000 in
theorem in_wo_X3_look_f : ∀ w ∈ wo_X3_look_f, w ∈ lw_tbl := List.forall_mem_cons.mpr ⟨mw_205, List.forall_mem_append.mpr ⟨(List.forall_mem_cons.mpr ⟨mw_204, (List.forall_mem_cons.mpr ⟨mw_203, (fun _ h => absurd h List.not_mem_nil)⟩)⟩), lin_wsX30⟩⟩
set_option maxRecDepth 20000 in
theorem in_wo_X3_isBlank_f : ∀ w ∈ wo_X3_isBlank_f, w ∈ lw_tbl := List.forall_mem_cons.mpr ⟨mw_206, (fun _ h => absurd h List.not_mem_nil)⟩
set_option maxRecDepth 20000 in
theorem in_wo_X3_advance_f : ∀ w ∈ wo_X3_advance_f, w ∈ lw_tbl := List.forall_mem_cons.mpr ⟨mw_215, List.forall_mem_append.mpr ⟨(List.forall_mem_cons.mpr ⟨mw_204, (List.forall_mem_cons.mpr ⟨mw_209, (List.forall_mem_cons.mpr ⟨mw_208, (List.forall_mem_cons.mpr ⟨mw_207, (fun _ h => absurd h List.not_mem_nil)⟩)⟩)⟩)⟩), List.forall_mem_append.mpr ⟨lin_wsX30, List.forall_mem_append.mpr ⟨List.forall_mem_append.mpr ⟨(List.forall_mem_cons.mpr ⟨mw_212, (List.forall_mem_cons.mpr ⟨mw_211, (List.forall_mem_cons.mpr ⟨mw_210, (List.forall_mem_cons.mpr ⟨mw_134, (fun _ h => absurd h List.not_mem_nil)⟩)⟩)⟩)⟩), in_wo_X3_look_f⟩, List.forall_mem_append.mpr ⟨(List.forall_mem_cons.mpr ⟨mw_214, (List.forall_mem_cons.mpr ⟨mw_213, (List.forall_mem_cons.mpr ⟨mw_134, (fun _ h => absurd h List.not_mem_nil)⟩)⟩)⟩), in_wo_X3_isBlank_f⟩⟩⟩⟩⟩
set_option maxRecDepth 20000 in
theorem in_wo_X3_open_f : ∀ w ∈ wo_X3_open_f, w ∈ lw_tbl := List.forall_mem_cons.mpr ⟨mw_219, List.forall_mem_append.mpr ⟨(List.forall_mem_cons.mpr ⟨mw_188, (List.forall_mem_cons.mpr ⟨mw_203, (List.forall_mem_cons.mpr ⟨mw_204, (fun _ h => absurd h List.not_mem_nil)⟩)⟩)⟩), List.forall_mem_append.mpr ⟨lin_wsX30, List.forall_mem_append.mpr ⟨(List.forall_mem_cons.mpr ⟨mw_218, (List.forall_mem_cons.mpr ⟨mw_217, (List.forall_mem_cons.mpr ⟨mw_216, (List.forall_mem_cons.mpr ⟨mw_134, (fun _ h => absurd h List.not_mem_nil)⟩)⟩)⟩)⟩), in_wo_X3_advance_f⟩⟩⟩⟩
set_option maxRecDepth 20000 in
theorem in_wo_X5_read_f : ∀ w ∈ wo_X5_read_f, w ∈ lw_tbl := List.forall_mem_cons.mpr ⟨mw_223, List.forall_mem_append.mpr ⟨(List.forall_mem_cons.mpr ⟨mw_222, (List.forall_mem_cons.mpr ⟨mw_221, (List.forall_mem_cons.mpr ⟨mw_220, (fun _ h => absurd h List.not_mem_nil)⟩)⟩)⟩), List.forall_mem_append.mpr ⟨lin_wsX50, lin_wsX30⟩⟩⟩
set_option maxRecDepth 20000 in
theorem in_wo_X5_takeOver_f : ∀ w ∈ wo_X5_takeOver_f, w ∈ lw_tbl := List.forall_mem_cons.mpr ⟨mw_228, List.forall_mem_append.mpr ⟨(List.forall_mem_cons.mpr ⟨mw_11, (List.forall_mem_cons.mpr ⟨mw_227, (List.forall_mem_cons.mpr ⟨mw_226, (List.forall_mem_cons.mpr ⟨mw_225, (List.forall_mem_cons.mpr ⟨mw_224, (List.forall_mem_cons.mpr ⟨mw_10, (List.forall_mem_cons.mpr ⟨mw_9, (List.forall_mem_cons.mpr ⟨mw_8, (List.forall_mem_cons.mpr ⟨mw_7, (List.forall_mem_cons.mpr ⟨mw_222, (List.forall_mem_cons.mpr ⟨mw_221, (List.forall_mem_cons.mpr ⟨mw_220, (fun _ h => absurd h List.not_mem_nil)⟩)⟩)⟩)⟩)⟩)⟩)⟩)⟩)⟩)⟩)⟩)⟩), lin_wsX50⟩⟩
set_option maxRecDepth 20000 in
theorem in_wo_X2_clear_f : ∀ w ∈ wo_X2_clear_f, w ∈ lw_tbl := List.forall_mem_cons.mpr ⟨mw_230, List.forall_mem_append.mpr ⟨(List.forall_mem_cons.mpr ⟨mw_229, (fun _ h => absurd h List.not_mem_nil)⟩), lin_wsX20⟩⟩
set_option maxRecDepth 20000 in
theorem in_wo_X4_clear_f : ∀ w ∈ wo_X4_clear_f, w ∈ lw_tbl := List.forall_mem_cons.mpr ⟨mw_235, List.forall_mem_append.mpr ⟨(List.forall_mem_cons.mpr ⟨mw_57, (List.forall_mem_cons.mpr ⟨mw_231, (fun _ h => absurd h List.not_mem_nil)⟩)⟩), List.forall_mem_append.mpr ⟨lin_wsX40, List.forall_mem_append.mpr ⟨(List.forall_mem_cons.mpr ⟨mw_234, (List.forall_mem_cons.mpr ⟨mw_233, (List.forall_mem_cons.mpr ⟨mw_232, (List.forall_mem_cons.mpr ⟨mw_50, (fun _ h => absurd h List.not_mem_nil)⟩)⟩)⟩)⟩), in_wo_X2_clear_f⟩⟩⟩⟩
set_option maxRecDepth 20000 in
theorem in_wo_X9_signature_f : ∀ w ∈ wo_X9_signature_f, w ∈ lw_tbl := List.forall_mem_cons.mpr ⟨mw_249, List.forall_mem_append.mpr ⟨(List.forall_mem_cons.mpr ⟨mw_153, (List.forall_mem_cons.mpr ⟨mw_151, (List.forall_mem_cons.mpr ⟨mw_138, (List.forall_mem_cons.mpr ⟨mw_152, (List.forall_mem_cons.mpr ⟨mw_148, (List.forall_mem_cons.mpr ⟨mw_147, (List.forall_mem_cons.mpr ⟨mw_145, (List.forall_mem_cons.mpr ⟨mw_139, (fun _ h => absurd h List.not_mem_nil)⟩)⟩)⟩)⟩)⟩)⟩)⟩)⟩), List.forall_mem_append.mpr ⟨lin_wsX90, List.forall_mem_append.mpr ⟨lin_wsX50, List.forall_mem_append.mpr ⟨List.forall_mem_append.mpr ⟨(List.forall_mem_cons.mpr ⟨mw_238, (List.forall_mem_cons.mpr ⟨mw_237, (List.forall_mem_cons.mpr ⟨mw_236, (List.forall_mem_cons.mpr ⟨mw_134, (fun _ h => absurd h List.not_mem_nil)⟩)⟩)⟩)⟩), in_wo_X3_open_f⟩, List.forall_mem_append.mpr ⟨List.forall_mem_append.mpr ⟨(List.forall_mem_cons.mpr ⟨mw_241, (List.forall_mem_cons.mpr ⟨mw_240, (List.forall_mem_cons.mpr ⟨mw_239, (List.forall_mem_cons.mpr ⟨mw_130, (fun _ h => absurd h List.not_mem_nil)⟩)⟩)⟩)⟩), in_wo_X5_read_f⟩, List.forall_mem_append.mpr ⟨List.forall_mem_append.mpr ⟨(List.forall_mem_cons.mpr ⟨mw_244, (List.forall_mem_cons.mpr ⟨mw_243, (List.forall_mem_cons.mpr ⟨mw_242, (List.forall_mem_cons.mpr ⟨mw_130, (fun _ h => absurd h List.not_mem_nil)⟩)⟩)⟩)⟩), in_wo_X5_takeOver_f⟩, List.forall_mem_append.mpr ⟨List.forall_mem_append.mpr ⟨(List.forall_mem_cons.mpr ⟨mw_245, (List.forall_mem_cons.mpr ⟨mw_233, (List.forall_mem_cons.mpr ⟨mw_232, (List.forall_mem_cons.mpr ⟨mw_50, (fun _ h => absurd h List.not_mem_nil)⟩)⟩)⟩)⟩), in_wo_X2_clear_f⟩, List.forall_mem_append.mpr ⟨(List.forall_mem_cons.mpr ⟨mw_248, (List.forall_mem_cons.mpr ⟨mw_247, (List.forall_mem_cons.mpr ⟨mw_246, (List.forall_mem_cons.mpr ⟨mw_114, (fun _ h => absurd h List.not_mem_nil)⟩)⟩)⟩)⟩), in_wo_X4_clear_f⟩⟩⟩⟩⟩⟩⟩⟩⟩
set_option maxRecDepth 20000 in
theorem in_wo_X8_giveBack_f : ∀ w ∈ wo_X8_giveBack_f, w ∈ lw_tbl := List.forall_mem_cons.mpr ⟨mw_253, List.forall_mem_append.mpr ⟨(List.forall_mem_cons.mpr ⟨mw_252, (List.forall_mem_cons.mpr ⟨mw_251, (List.forall_mem_cons.mpr ⟨mw_45, (List.forall_mem_cons.mpr ⟨mw_44, (List.forall_mem_cons.mpr ⟨mw_43, (List.forall_mem_cons.mpr ⟨mw_250, (List.forall_mem_cons.mpr ⟨mw_41, (List.forall_mem_cons.mpr ⟨mw_40, (fun _ h => absurd h List.not_mem_nil)⟩)⟩)⟩)⟩)⟩)⟩)⟩)⟩), lin_wsX80⟩⟩
set_option maxRecDepth 20000 in
theorem in_wo_X8_clear_f : ∀ w ∈ wo_X8_clear_f, w ∈ lw_tbl := List.forall_mem_cons.mpr ⟨mw_258, List.forall_mem_append.mpr ⟨(List.forall_mem_cons.mpr ⟨mw_254, (fun _ h => absurd h List.not_mem_nil)⟩), List.forall_mem_append.mpr ⟨lin_wsX80, List.forall_mem_append.mpr ⟨(List.forall_mem_cons.mpr ⟨mw_257, (List.forall_mem_cons.mpr ⟨mw_256, (List.forall_mem_cons.mpr ⟨mw_255, (List.forall_mem_cons.mpr ⟨mw_126, (fun _ h => absurd h List.not_mem_nil)⟩)⟩)⟩)⟩), in_wo_X8_giveBack_f⟩⟩⟩⟩
set_option maxRecDepth 20000 in
theorem in_wo_X1_readHead_f : ∀ w ∈ wo_X1_readHead_f, w ∈ lw_tbl := List.forall_mem_cons.mpr ⟨mw_259, List.forall_mem_append.mpr ⟨(List.forall_mem_cons.mpr ⟨mw_31, (fun _ h => absurd h List.not_mem_nil)⟩), List.forall_mem_append.mpr ⟨lin_wsX10, lin_wsX30⟩⟩⟩
set_option maxRecDepth 20000 in
theorem in_wo_X1_read_f : ∀ w ∈ wo_X1_read_f, w ∈ lw_tbl := List.forall_mem_cons.mpr ⟨mw_265, List.forall_mem_append.mpr ⟨(List.forall_mem_cons.mpr ⟨mw_261, (List.forall_mem_cons.mpr ⟨mw_260, (fun _ h => absurd h List.not_mem_nil)⟩)⟩), List.forall_mem_append.mpr ⟨lin_wsX10, List.forall_mem_append.mpr ⟨(List.forall_mem_cons.mpr ⟨mw_264, (List.forall_mem_cons.mpr ⟨mw_263, (List.forall_mem_cons.mpr ⟨mw_262, (List.forall_mem_cons.mpr ⟨mw_121, (fun _ h => absurd h List.not_mem_nil)⟩)⟩)⟩)⟩), in_wo_X1_readHead_f⟩⟩⟩⟩
set_option maxRecDepth 20000 in
theorem in_wo_X9_checkText_f : ∀ w ∈ wo_X9_checkText_f, w ∈ lw_tbl := List.forall_mem_cons.mpr ⟨mw_268, List.forall_mem_append.mpr ⟨(List.forall_mem_cons.mpr ⟨mw_153, (List.forall_mem_cons.mpr ⟨mw_138, (List.forall_mem_cons.mpr ⟨mw_267, (List.forall_mem_cons.mpr ⟨mw_266, (fun _ h => absurd h List.not_mem_nil)⟩)⟩)⟩)⟩), List.forall_mem_append.mpr ⟨lin_wsX90, List.forall_mem_append.mpr ⟨lin_wsX30, at_129⟩⟩⟩⟩
set_option maxRecDepth 20000 in
theorem in_wo_X9_term_f : ∀ w ∈ wo_X9_term_f, w ∈ lw_tbl := List.forall_mem_cons.mpr ⟨mw_279, List.forall_mem_append.mpr ⟨(List.forall_mem_cons.mpr ⟨mw_153, (List.forall_mem_cons.mpr ⟨mw_150, (List.forall_mem_cons.mpr ⟨mw_149, (fun _ h => absurd h List.not_mem_nil)⟩)⟩)⟩), List.forall_mem_append.mpr ⟨lin_wsX90, List.forall_mem_append.mpr ⟨List.forall_mem_append.mpr ⟨(List.forall_mem_cons.mpr ⟨mw_238, (List.forall_mem_cons.mpr ⟨mw_237, (List.forall_mem_cons.mpr ⟨mw_236, (List.forall_mem_cons.mpr ⟨mw_134, (fun _ h => absurd h List.not_mem_nil)⟩)⟩)⟩)⟩), in_wo_X3_open_f⟩, List.forall_mem_append.mpr ⟨List.forall_mem_append.mpr ⟨(List.forall_mem_cons.mpr ⟨mw_271, (List.forall_mem_cons.mpr ⟨mw_270, (List.forall_mem_cons.mpr ⟨mw_269, (List.forall_mem_cons.mpr ⟨mw_126, (fun _ h => absurd h List.not_mem_nil)⟩)⟩)⟩)⟩), in_wo_X8_clear_f⟩, List.forall_mem_append.mpr ⟨List.forall_mem_append.mpr ⟨(List.forall_mem_cons.mpr ⟨mw_274, (List.forall_mem_cons.mpr ⟨mw_273, (List.forall_mem_cons.mpr ⟨mw_272, (List.forall_mem_cons.mpr ⟨mw_121, (fun _ h => absurd h List.not_mem_nil)⟩)⟩)⟩)⟩), in_wo_X1_read_f⟩, List.forall_mem_append.mpr ⟨(List.forall_mem_cons.mpr ⟨mw_278, (List.forall_mem_cons.mpr ⟨mw_277, (List.forall_mem_cons.mpr ⟨mw_276, (List.forall_mem_cons.mpr ⟨mw_275, (fun _ h => absurd h List.not_mem_nil)⟩)⟩)⟩)⟩), in_wo_X9_checkText_f⟩⟩⟩⟩⟩⟩⟩
set_option maxRecDepth 20000 in
theorem in_wo_X9_rule_f : ∀ w ∈ wo_X9_rule_f, w ∈ lw_tbl := List.forall_mem_cons.mpr ⟨mw_280, List.forall_mem_append.mpr ⟨(List.forall_mem_cons.mpr ⟨mw_153, (List.forall_mem_cons.mpr ⟨mw_150, (List.forall_mem_cons.mpr ⟨mw_149, (fun _ h => absurd h List.not_mem_nil)⟩)⟩)⟩), List.forall_mem_append.mpr ⟨lin_wsX90, List.forall_mem_append.mpr ⟨List.forall_mem_append.mpr ⟨(List.forall_mem_cons.mpr ⟨mw_238, (List.forall_mem_cons.mpr ⟨mw_237, (List.forall_mem_cons.mpr ⟨mw_236, (List.forall_mem_cons.mpr ⟨mw_134, (fun _ h => absurd h List.not_mem_nil)⟩)⟩)⟩)⟩), in_wo_X3_open_f⟩, List.forall_mem_append.mpr ⟨List.forall_mem_append.mpr ⟨(List.forall_mem_cons.mpr ⟨mw_271, (List.forall_mem_cons.mpr ⟨mw_270, (List.forall_mem_cons.mpr ⟨mw_269, (List.forall_mem_cons.mpr ⟨mw_126, (fun _ h => absurd h List.not_mem_nil)⟩)⟩)⟩)⟩), in_wo_X8_clear_f⟩, List.forall_mem_append.mpr ⟨List.forall_mem_append.mpr ⟨(List.forall_mem_cons.mpr ⟨mw_274, (List.forall_mem_cons.mpr ⟨mw_273, (List.forall_mem_cons.mpr ⟨mw_272, (List.forall_mem_cons.mpr ⟨mw_121, (fun _ h => absurd h List.not_mem_nil)⟩)⟩)⟩)⟩), in_wo_X1_read_f⟩, List.forall_mem_append.mpr ⟨(List.forall_mem_cons.mpr ⟨mw_278, (List.forall_mem_cons.mpr ⟨mw_277, (List.forall_mem_cons.mpr ⟨mw_276, (List.forall_mem_cons.mpr ⟨mw_275, (fun _ h => absurd h List.not_mem_nil)⟩)⟩)⟩)⟩), in_wo_X9_checkText_f⟩⟩⟩⟩⟩⟩⟩
set_option maxRecDepth 20000 in
theorem in_wo_X9_fault_f : ∀ w ∈ wo_X9_fault_f, w ∈ lw_tbl := List.forall_mem_cons.mpr ⟨mw_281, List.forall_mem_append.mpr ⟨(List.forall_mem_cons.mpr ⟨mw_138, (fun _ h => absurd h List.not_mem_nil)⟩), lin_wsX90⟩⟩
set_option maxRecDepth 20000 in
theorem in_wo_X9_rules_f : ∀ w ∈ wo_X9_rules_f, w ∈ lw_tbl := List.forall_mem_cons.mpr ⟨mw_282, List.forall_mem_append.mpr ⟨(List.forall_mem_cons.mpr ⟨mw_147, (fun _ h => absurd h List.not_mem_nil)⟩), List.forall_mem_append.mpr ⟨lin_wsX90, lin_wsX20⟩⟩⟩
set_option maxRecDepth 20000 in
theorem in_wo_X9_checkTerm_f : ∀ w ∈ wo_X9_checkTerm_f, w ∈ lw_tbl := List.forall_mem_cons.mpr ⟨mw_285, List.forall_mem_append.mpr ⟨(List.forall_mem_cons.mpr ⟨mw_148, (List.forall_mem_cons.mpr ⟨mw_284, (List.forall_mem_cons.mpr ⟨mw_283, (fun _ h => absurd h List.not_mem_nil)⟩)⟩)⟩), List.forall_mem_append.mpr ⟨lin_wsX90, List.forall_mem_append.mpr ⟨lin_wsX20, at_419⟩⟩⟩⟩
set_option maxRecDepth 20000 in
theorem in_wo_X9_checkRule_f : ∀ w ∈ wo_X9_checkRule_f, w ∈ lw_tbl := List.forall_mem_cons.mpr ⟨mw_289, List.forall_mem_append.mpr ⟨(List.forall_mem_cons.mpr ⟨mw_284, (List.forall_mem_cons.mpr ⟨mw_283, (fun _ h => absurd h List.not_mem_nil)⟩)⟩), List.forall_mem_append.mpr ⟨at_419, List.forall_mem_append.mpr ⟨(List.forall_mem_cons.mpr ⟨mw_288, (List.forall_mem_cons.mpr ⟨mw_287, (List.forall_mem_cons.mpr ⟨mw_286, (List.forall_mem_cons.mpr ⟨mw_275, (fun _ h => absurd h List.not_mem_nil)⟩)⟩)⟩)⟩), in_wo_X9_rules_f⟩⟩⟩⟩
set_option maxRecDepth 20000 in
theorem in_wo_X9_checkOperator_f : ∀ w ∈ wo_X9_checkOperator_f, w ∈ lw_tbl := List.forall_mem_cons.mpr ⟨mw_290, List.forall_mem_append.mpr ⟨(List.forall_mem_cons.mpr ⟨mw_152, (List.forall_mem_cons.mpr ⟨mw_284, (List.forall_mem_cons.mpr ⟨mw_283, (fun _ h => absurd h List.not_mem_nil)⟩)⟩)⟩), List.forall_mem_append.mpr ⟨lin_wsX90, List.forall_mem_append.mpr ⟨lin_wsX50, at_419⟩⟩⟩⟩
set_option maxRecDepth 20000 in
theorem in_wo_X9_about_f : ∀ w ∈ wo_X9_about_f, w ∈ lw_tbl := List.forall_mem_cons.mpr ⟨mw_294, List.forall_mem_append.mpr ⟨(fun _ h => absurd h List.not_mem_nil), List.forall_mem_append.mpr ⟨(List.forall_mem_cons.mpr ⟨mw_293, (List.forall_mem_cons.mpr ⟨mw_292, (List.forall_mem_cons.mpr ⟨mw_291, (List.forall_mem_cons.mpr ⟨mw_275, (fun _ h => absurd h List.not_mem_nil)⟩)⟩)⟩)⟩), in_wo_X9_checkTerm_f⟩⟩⟩
set_option maxRecDepth 20000 in
theorem in_wo_X9_order_f : ∀ w ∈ wo_X9_order_f, w ∈ lw_tbl := List.forall_mem_cons.mpr ⟨mw_295, List.forall_mem_append.mpr ⟨(fun _ h => absurd h List.not_mem_nil), List.forall_mem_append.mpr ⟨(List.forall_mem_cons.mpr ⟨mw_293, (List.forall_mem_cons.mpr ⟨mw_292, (List.forall_mem_cons.mpr ⟨mw_291, (List.forall_mem_cons.mpr ⟨mw_275, (fun _ h => absurd h List.not_mem_nil)⟩)⟩)⟩)⟩), in_wo_X9_checkTerm_f⟩⟩⟩
set_option maxRecDepth 20000 in
theorem in_wo_X9_show_f : ∀ w ∈ wo_X9_show_f, w ∈ lw_tbl := List.forall_mem_cons.mpr ⟨mw_296, List.forall_mem_append.mpr ⟨(fun _ h => absurd h List.not_mem_nil), List.forall_mem_append.mpr ⟨(List.forall_mem_cons.mpr ⟨mw_293, (List.forall_mem_cons.mpr ⟨mw_292, (List.forall_mem_cons.mpr ⟨mw_291, (List.forall_mem_cons.mpr ⟨mw_275, (fun _ h => absurd h List.not_mem_nil)⟩)⟩)⟩)⟩), in_wo_X9_checkTerm_f⟩⟩⟩
set_option maxRecDepth 20000 in
theorem in_wo_X9_place_f : ∀ w ∈ wo_X9_place_f, w ∈ lw_tbl := List.forall_mem_cons.mpr ⟨mw_297, List.forall_mem_append.mpr ⟨(fun _ h => absurd h List.not_mem_nil), List.forall_mem_append.mpr ⟨(List.forall_mem_cons.mpr ⟨mw_293, (List.forall_mem_cons.mpr ⟨mw_292, (List.forall_mem_cons.mpr ⟨mw_291, (List.forall_mem_cons.mpr ⟨mw_275, (fun _ h => absurd h List.not_mem_nil)⟩)⟩)⟩)⟩), in_wo_X9_checkTerm_f⟩⟩⟩
set_option maxRecDepth 20000 in
theorem in_wo_X9_matches_f : ∀ w ∈ wo_X9_matches_f, w ∈ lw_tbl := List.forall_mem_cons.mpr ⟨mw_298, List.forall_mem_append.mpr ⟨(fun _ h => absurd h List.not_mem_nil), List.forall_mem_append.mpr ⟨(List.forall_mem_cons.mpr ⟨mw_293, (List.forall_mem_cons.mpr ⟨mw_292, (List.forall_mem_cons.mpr ⟨mw_291, (List.forall_mem_cons.mpr ⟨mw_275, (fun _ h => absurd h List.not_mem_nil)⟩)⟩)⟩)⟩), in_wo_X9_checkTerm_f⟩⟩⟩
set_option maxRecDepth 20000 in
theorem in_wo_X9_bound_f : ∀ w ∈ wo_X9_bound_f, w ∈ lw_tbl := List.forall_mem_cons.mpr ⟨mw_299, List.forall_mem_append.mpr ⟨(fun _ h => absurd h List.not_mem_nil), List.forall_mem_append.mpr ⟨(List.forall_mem_cons.mpr ⟨mw_293, (List.forall_mem_cons.mpr ⟨mw_292, (List.forall_mem_cons.mpr ⟨mw_291, (List.forall_mem_cons.mpr ⟨mw_275, (fun _ h => absurd h List.not_mem_nil)⟩)⟩)⟩)⟩), in_wo_X9_checkTerm_f⟩⟩⟩
set_option maxRecDepth 20000 in
theorem in_wo_X9_fill_f : ∀ w ∈ wo_X9_fill_f, w ∈ lw_tbl := List.forall_mem_cons.mpr ⟨mw_300, List.forall_mem_append.mpr ⟨(fun _ h => absurd h List.not_mem_nil), List.forall_mem_append.mpr ⟨(List.forall_mem_cons.mpr ⟨mw_293, (List.forall_mem_cons.mpr ⟨mw_292, (List.forall_mem_cons.mpr ⟨mw_291, (List.forall_mem_cons.mpr ⟨mw_275, (fun _ h => absurd h List.not_mem_nil)⟩)⟩)⟩)⟩), in_wo_X9_checkTerm_f⟩⟩⟩
set_option maxRecDepth 20000 in
theorem in_wo_X9_steps_f : ∀ w ∈ wo_X9_steps_f, w ∈ lw_tbl := List.forall_mem_cons.mpr ⟨mw_301, List.forall_mem_append.mpr ⟨(fun _ h => absurd h List.not_mem_nil), List.forall_mem_append.mpr ⟨(List.forall_mem_cons.mpr ⟨mw_293, (List.forall_mem_cons.mpr ⟨mw_292, (List.forall_mem_cons.mpr ⟨mw_291, (List.forall_mem_cons.mpr ⟨mw_275, (fun _ h => absurd h List.not_mem_nil)⟩)⟩)⟩)⟩), in_wo_X9_checkTerm_f⟩⟩⟩
set_option maxRecDepth 20000 in
theorem in_wo_X9_step_f : ∀ w ∈ wo_X9_step_f, w ∈ lw_tbl := List.forall_mem_cons.mpr ⟨mw_302, List.forall_mem_append.mpr ⟨(fun _ h => absurd h List.not_mem_nil), List.forall_mem_append.mpr ⟨(List.forall_mem_cons.mpr ⟨mw_293, (List.forall_mem_cons.mpr ⟨mw_292, (List.forall_mem_cons.mpr ⟨mw_291, (List.forall_mem_cons.mpr ⟨mw_275, (fun _ h => absurd h List.not_mem_nil)⟩)⟩)⟩)⟩), in_wo_X9_checkTerm_f⟩⟩⟩
set_option maxRecDepth 20000 in
theorem in_wo_X9_stepAt_f : ∀ w ∈ wo_X9_stepAt_f, w ∈ lw_tbl := List.forall_mem_cons.mpr ⟨mw_303, List.forall_mem_append.mpr ⟨(fun _ h => absurd h List.not_mem_nil), List.forall_mem_append.mpr ⟨(List.forall_mem_cons.mpr ⟨mw_293, (List.forall_mem_cons.mpr ⟨mw_292, (List.forall_mem_cons.mpr ⟨mw_291, (List.forall_mem_cons.mpr ⟨mw_275, (fun _ h => absurd h List.not_mem_nil)⟩)⟩)⟩)⟩), in_wo_X9_checkTerm_f⟩⟩⟩
set_option maxRecDepth 20000 in
theorem in_wo_X9_atTop_f : ∀ w ∈ wo_X9_atTop_f, w ∈ lw_tbl := List.forall_mem_cons.mpr ⟨mw_304, List.forall_mem_append.mpr ⟨(fun _ h => absurd h List.not_mem_nil), List.forall_mem_append.mpr ⟨(List.forall_mem_cons.mpr ⟨mw_293, (List.forall_mem_cons.mpr ⟨mw_292, (List.forall_mem_cons.mpr ⟨mw_291, (List.forall_mem_cons.mpr ⟨mw_275, (fun _ h => absurd h List.not_mem_nil)⟩)⟩)⟩)⟩), in_wo_X9_checkTerm_f⟩⟩⟩
set_option maxRecDepth 20000 in
theorem in_wo_X9_walk_f : ∀ w ∈ wo_X9_walk_f, w ∈ lw_tbl := List.forall_mem_cons.mpr ⟨mw_305, List.forall_mem_append.mpr ⟨(fun _ h => absurd h List.not_mem_nil), List.forall_mem_append.mpr ⟨(List.forall_mem_cons.mpr ⟨mw_293, (List.forall_mem_cons.mpr ⟨mw_292, (List.forall_mem_cons.mpr ⟨mw_291, (List.forall_mem_cons.mpr ⟨mw_275, (fun _ h => absurd h List.not_mem_nil)⟩)⟩)⟩)⟩), in_wo_X9_checkTerm_f⟩⟩⟩
set_option maxRecDepth 20000 in
theorem in_wo_X9_reach_f : ∀ w ∈ wo_X9_reach_f, w ∈ lw_tbl := List.forall_mem_cons.mpr ⟨mw_306, List.forall_mem_append.mpr ⟨(fun _ h => absurd h List.not_mem_nil), List.forall_mem_append.mpr ⟨(List.forall_mem_cons.mpr ⟨mw_293, (List.forall_mem_cons.mpr ⟨mw_292, (List.forall_mem_cons.mpr ⟨mw_291, (List.forall_mem_cons.mpr ⟨mw_275, (fun _ h => absurd h List.not_mem_nil)⟩)⟩)⟩)⟩), in_wo_X9_checkTerm_f⟩⟩⟩
set_option maxRecDepth 20000 in
theorem in_wo_X9_reached_f : ∀ w ∈ wo_X9_reached_f, w ∈ lw_tbl := List.forall_mem_cons.mpr ⟨mw_307, List.forall_mem_append.mpr ⟨(fun _ h => absurd h List.not_mem_nil), List.forall_mem_append.mpr ⟨(List.forall_mem_cons.mpr ⟨mw_293, (List.forall_mem_cons.mpr ⟨mw_292, (List.forall_mem_cons.mpr ⟨mw_291, (List.forall_mem_cons.mpr ⟨mw_275, (fun _ h => absurd h List.not_mem_nil)⟩)⟩)⟩)⟩), in_wo_X9_checkTerm_f⟩⟩⟩
set_option maxRecDepth 20000 in
theorem in_wo_X9_meet_f : ∀ w ∈ wo_X9_meet_f, w ∈ lw_tbl := List.forall_mem_cons.mpr ⟨mw_308, List.forall_mem_append.mpr ⟨(fun _ h => absurd h List.not_mem_nil), List.forall_mem_append.mpr ⟨(List.forall_mem_cons.mpr ⟨mw_293, (List.forall_mem_cons.mpr ⟨mw_292, (List.forall_mem_cons.mpr ⟨mw_291, (List.forall_mem_cons.mpr ⟨mw_275, (fun _ h => absurd h List.not_mem_nil)⟩)⟩)⟩)⟩), in_wo_X9_checkTerm_f⟩⟩⟩
set_option maxRecDepth 20000 in
theorem in_wo_X9_turn_f : ∀ w ∈ wo_X9_turn_f, w ∈ lw_tbl := List.forall_mem_cons.mpr ⟨mw_312, List.forall_mem_append.mpr ⟨(fun _ h => absurd h List.not_mem_nil), List.forall_mem_append.mpr ⟨(List.forall_mem_cons.mpr ⟨mw_311, (List.forall_mem_cons.mpr ⟨mw_310, (List.forall_mem_cons.mpr ⟨mw_309, (List.forall_mem_cons.mpr ⟨mw_275, (fun _ h => absurd h List.not_mem_nil)⟩)⟩)⟩)⟩), in_wo_X9_checkRule_f⟩⟩⟩
set_option maxRecDepth 20000 in
theorem in_wo_X9_side_f : ∀ w ∈ wo_X9_side_f, w ∈ lw_tbl := List.forall_mem_cons.mpr ⟨mw_313, List.forall_mem_append.mpr ⟨(fun _ h => absurd h List.not_mem_nil), List.forall_mem_append.mpr ⟨(List.forall_mem_cons.mpr ⟨mw_311, (List.forall_mem_cons.mpr ⟨mw_310, (List.forall_mem_cons.mpr ⟨mw_309, (List.forall_mem_cons.mpr ⟨mw_275, (fun _ h => absurd h List.not_mem_nil)⟩)⟩)⟩)⟩), in_wo_X9_checkRule_f⟩⟩⟩
set_option maxRecDepth 20000 in
theorem in_wo_X9_operator_f : ∀ w ∈ wo_X9_operator_f, w ∈ lw_tbl := List.forall_mem_cons.mpr ⟨mw_317, List.forall_mem_append.mpr ⟨(fun _ h => absurd h List.not_mem_nil), List.forall_mem_append.mpr ⟨(List.forall_mem_cons.mpr ⟨mw_316, (List.forall_mem_cons.mpr ⟨mw_315, (List.forall_mem_cons.mpr ⟨mw_314, (List.forall_mem_cons.mpr ⟨mw_275, (fun _ h => absurd h List.not_mem_nil)⟩)⟩)⟩)⟩), in_wo_X9_checkOperator_f⟩⟩⟩
set_option maxRecDepth 20000 in
theorem in_wo_X9_join_f : ∀ w ∈ wo_X9_join_f, w ∈ lw_tbl := List.forall_mem_cons.mpr ⟨mw_318, List.forall_mem_append.mpr ⟨(fun _ h => absurd h List.not_mem_nil), List.forall_mem_append.mpr ⟨(List.forall_mem_cons.mpr ⟨mw_316, (List.forall_mem_cons.mpr ⟨mw_315, (List.forall_mem_cons.mpr ⟨mw_314, (List.forall_mem_cons.mpr ⟨mw_275, (fun _ h => absurd h List.not_mem_nil)⟩)⟩)⟩)⟩), in_wo_X9_checkOperator_f⟩⟩⟩
set_option maxRecDepth 20000 in
theorem in_wo_X9_keep_f : ∀ w ∈ wo_X9_keep_f, w ∈ lw_tbl := List.forall_mem_cons.mpr ⟨mw_321, List.forall_mem_append.mpr ⟨(List.forall_mem_cons.mpr ⟨mw_145, (List.forall_mem_cons.mpr ⟨mw_320, (List.forall_mem_cons.mpr ⟨mw_319, (fun _ h => absurd h List.not_mem_nil)⟩)⟩)⟩), List.forall_mem_append.mpr ⟨lin_wsX90, List.forall_mem_append.mpr ⟨lin_wsX40, List.forall_mem_append.mpr ⟨lin_wsX20, at_157⟩⟩⟩⟩⟩
set_option maxRecDepth 20000 in
theorem in_wo_X4_byteAt_f : ∀ w ∈ wo_X4_byteAt_f, w ∈ lw_tbl := List.forall_mem_cons.mpr ⟨mw_322, List.forall_mem_append.mpr ⟨(List.forall_mem_cons.mpr ⟨mw_231, (fun _ h => absurd h List.not_mem_nil)⟩), lin_wsX40⟩⟩
set_option maxRecDepth 20000 in
theorem in_wo_X9_octet_f : ∀ w ∈ wo_X9_octet_f, w ∈ lw_tbl := List.forall_mem_cons.mpr ⟨mw_326, List.forall_mem_append.mpr ⟨(List.forall_mem_cons.mpr ⟨mw_145, (fun _ h => absurd h List.not_mem_nil)⟩), List.forall_mem_append.mpr ⟨lin_wsX90, List.forall_mem_append.mpr ⟨(List.forall_mem_cons.mpr ⟨mw_325, (List.forall_mem_cons.mpr ⟨mw_324, (List.forall_mem_cons.mpr ⟨mw_323, (List.forall_mem_cons.mpr ⟨mw_114, (fun _ h => absurd h List.not_mem_nil)⟩)⟩)⟩)⟩), in_wo_X4_byteAt_f⟩⟩⟩⟩
set_option maxRecDepth 20000 in
theorem in_wo_X2_nth_f : ∀ w ∈ wo_X2_nth_f, w ∈ lw_tbl := List.forall_mem_cons.mpr ⟨mw_327, List.forall_mem_append.mpr ⟨(List.forall_mem_cons.mpr ⟨mw_229, (fun _ h => absurd h List.not_mem_nil)⟩), lin_wsX20⟩⟩
set_option maxRecDepth 20000 in
theorem in_wo_X9_rank_f : ∀ w ∈ wo_X9_rank_f, w ∈ lw_tbl := List.forall_mem_cons.mpr ⟨mw_332, List.forall_mem_append.mpr ⟨(List.forall_mem_cons.mpr ⟨mw_148, (List.forall_mem_cons.mpr ⟨mw_328, (fun _ h => absurd h List.not_mem_nil)⟩)⟩), List.forall_mem_append.mpr ⟨lin_wsX90, List.forall_mem_append.mpr ⟨(List.forall_mem_cons.mpr ⟨mw_331, (List.forall_mem_cons.mpr ⟨mw_330, (List.forall_mem_cons.mpr ⟨mw_329, (List.forall_mem_cons.mpr ⟨mw_50, (fun _ h => absurd h List.not_mem_nil)⟩)⟩)⟩)⟩), in_wo_X2_nth_f⟩⟩⟩⟩
set_option maxRecDepth 20000 in
theorem in_wo_X7_prepare_f : ∀ w ∈ wo_X7_prepare_f, w ∈ lw_tbl := List.forall_mem_cons.mpr ⟨mw_336, List.forall_mem_append.mpr ⟨(List.forall_mem_cons.mpr ⟨mw_334, (List.forall_mem_cons.mpr ⟨mw_79, (List.forall_mem_cons.mpr ⟨mw_333, (fun _ h => absurd h List.not_mem_nil)⟩)⟩)⟩), List.forall_mem_append.mpr ⟨lin_wsX70, List.forall_mem_append.mpr ⟨lin_wsX80, List.forall_mem_append.mpr ⟨(List.forall_mem_cons.mpr ⟨mw_335, (List.forall_mem_cons.mpr ⟨mw_270, (List.forall_mem_cons.mpr ⟨mw_269, (List.forall_mem_cons.mpr ⟨mw_126, (fun _ h => absurd h List.not_mem_nil)⟩)⟩)⟩)⟩), in_wo_X8_clear_f⟩⟩⟩⟩⟩
set_option maxRecDepth 20000 in
theorem in_wo_X9_normalTerms_f : ∀ w ∈ wo_X9_normalTerms_f, w ∈ lw_tbl := List.forall_mem_cons.mpr ⟨mw_340, List.forall_mem_append.mpr ⟨(List.forall_mem_cons.mpr ⟨mw_143, (List.forall_mem_cons.mpr ⟨mw_147, (List.forall_mem_cons.mpr ⟨mw_139, (List.forall_mem_cons.mpr ⟨mw_148, (fun _ h => absurd h List.not_mem_nil)⟩)⟩)⟩)⟩), List.forall_mem_append.mpr ⟨lin_wsX90, List.forall_mem_append.mpr ⟨lin_wsX20, List.forall_mem_append.mpr ⟨(List.forall_mem_cons.mpr ⟨mw_339, (List.forall_mem_cons.mpr ⟨mw_338, (List.forall_mem_cons.mpr ⟨mw_337, (List.forall_mem_cons.mpr ⟨mw_104, (fun _ h => absurd h List.not_mem_nil)⟩)⟩)⟩)⟩), in_wo_X7_prepare_f⟩⟩⟩⟩⟩
set_option maxRecDepth 20000 in
theorem in_wo_X9_greatestSize_f : ∀ w ∈ wo_X9_greatestSize_f, w ∈ lw_tbl := List.forall_mem_cons.mpr ⟨mw_341, List.forall_mem_append.mpr ⟨(List.forall_mem_cons.mpr ⟨mw_148, (fun _ h => absurd h List.not_mem_nil)⟩), List.forall_mem_append.mpr ⟨lin_wsX90, lin_wsX20⟩⟩⟩
set_option maxRecDepth 20000 in
theorem in_wo_X9_matchesOfAll_f : ∀ w ∈ wo_X9_matchesOfAll_f, w ∈ lw_tbl := List.forall_mem_cons.mpr ⟨mw_342, List.forall_mem_append.mpr ⟨(fun _ h => absurd h List.not_mem_nil), List.forall_mem_append.mpr ⟨(List.forall_mem_cons.mpr ⟨mw_288, (List.forall_mem_cons.mpr ⟨mw_287, (List.forall_mem_cons.mpr ⟨mw_286, (List.forall_mem_cons.mpr ⟨mw_275, (fun _ h => absurd h List.not_mem_nil)⟩)⟩)⟩)⟩), in_wo_X9_rules_f⟩⟩⟩
set_option maxRecDepth 20000 in
theorem in_wo_X9_count_f : ∀ w ∈ wo_X9_count_f, w ∈ lw_tbl := List.forall_mem_cons.mpr ⟨mw_352, List.forall_mem_append.mpr ⟨(List.forall_mem_cons.mpr ⟨mw_152, (List.forall_mem_cons.mpr ⟨mw_148, (List.forall_mem_cons.mpr ⟨mw_139, (List.forall_mem_cons.mpr ⟨mw_145, (fun _ h => absurd h List.not_mem_nil)⟩)⟩)⟩)⟩), List.forall_mem_append.mpr ⟨lin_wsX90, List.forall_mem_append.mpr ⟨lin_wsX50, List.forall_mem_append.mpr ⟨lin_wsX20, List.forall_mem_append.mpr ⟨lin_wsX40, List.forall_mem_append.mpr ⟨List.forall_mem_append.mpr ⟨(List.forall_mem_cons.mpr ⟨mw_288, (List.forall_mem_cons.mpr ⟨mw_287, (List.forall_mem_cons.mpr ⟨mw_286, (List.forall_mem_cons.mpr ⟨mw_275, (fun _ h => absurd h List.not_mem_nil)⟩)⟩)⟩)⟩), in_wo_X9_rules_f⟩, List.forall_mem_append.mpr ⟨List.forall_mem_append.mpr ⟨(List.forall_mem_cons.mpr ⟨mw_345, (List.forall_mem_cons.mpr ⟨mw_344, (List.forall_mem_cons.mpr ⟨mw_343, (List.forall_mem_cons.mpr ⟨mw_275, (fun _ h => absurd h List.not_mem_nil)⟩)⟩)⟩)⟩), in_wo_X9_normalTerms_f⟩, List.forall_mem_append.mpr ⟨List.forall_mem_append.mpr ⟨(List.forall_mem_cons.mpr ⟨mw_348, (List.forall_mem_cons.mpr ⟨mw_347, (List.forall_mem_cons.mpr ⟨mw_346, (List.forall_mem_cons.mpr ⟨mw_275, (fun _ h => absurd h List.not_mem_nil)⟩)⟩)⟩)⟩), in_wo_X9_greatestSize_f⟩, List.forall_mem_append.mpr ⟨(List.forall_mem_cons.mpr ⟨mw_351, (List.forall_mem_cons.mpr ⟨mw_350, (List.forall_mem_cons.mpr ⟨mw_349, (List.forall_mem_cons.mpr ⟨mw_275, (fun _ h => absurd h List.not_mem_nil)⟩)⟩)⟩)⟩), in_wo_X9_matchesOfAll_f⟩⟩⟩⟩⟩⟩⟩⟩⟩⟩
set_option maxRecDepth 20000 in
theorem in_wo_X10_thrown_f : ∀ w ∈ wo_X10_thrown_f, w ∈ lw_tbl := List.forall_mem_cons.mpr ⟨mw_354, List.forall_mem_append.mpr ⟨(List.forall_mem_cons.mpr ⟨mw_353, (fun _ h => absurd h List.not_mem_nil)⟩), lin_wsX100⟩⟩
set_option maxRecDepth 20000 in
theorem in_wo_X10_thrown_g : ∀ w ∈ wo_X10_thrown_g, w ∈ lw_tbl := List.forall_mem_cons.mpr ⟨mw_354, List.forall_mem_append.mpr ⟨(List.forall_mem_cons.mpr ⟨mw_353, (fun _ h => absurd h List.not_mem_nil)⟩), lin_wsX100⟩⟩
set_option maxRecDepth 20000 in
theorem in_wo_X10_feed_f : ∀ w ∈ wo_X10_feed_f, w ∈ lw_tbl := List.forall_mem_cons.mpr ⟨mw_356, List.forall_mem_append.mpr ⟨(List.forall_mem_cons.mpr ⟨mw_353, (List.forall_mem_cons.mpr ⟨mw_355, (List.forall_mem_cons.mpr ⟨mw_185, (List.forall_mem_cons.mpr ⟨mw_186, (fun _ h => absurd h List.not_mem_nil)⟩)⟩)⟩)⟩), lin_wsX100⟩⟩
set_option maxRecDepth 20000 in
theorem in_wo_X10_end_f : ∀ w ∈ wo_X10_end_f, w ∈ lw_tbl := List.forall_mem_cons.mpr ⟨mw_357, List.forall_mem_append.mpr ⟨(List.forall_mem_cons.mpr ⟨mw_353, (List.forall_mem_cons.mpr ⟨mw_355, (fun _ h => absurd h List.not_mem_nil)⟩)⟩), lin_wsX100⟩⟩
set_option maxRecDepth 20000 in
theorem in_wo_X10_begins_f : ∀ w ∈ wo_X10_begins_f, w ∈ lw_tbl := List.forall_mem_cons.mpr ⟨mw_361, List.forall_mem_append.mpr ⟨(List.forall_mem_cons.mpr ⟨mw_353, (List.forall_mem_cons.mpr ⟨mw_355, (List.forall_mem_cons.mpr ⟨mw_360, (List.forall_mem_cons.mpr ⟨mw_359, (List.forall_mem_cons.mpr ⟨mw_184, (List.forall_mem_cons.mpr ⟨mw_358, (fun _ h => absurd h List.not_mem_nil)⟩)⟩)⟩)⟩)⟩)⟩), lin_wsX100⟩⟩
set_option maxRecDepth 20000 in
theorem in_wo_X10_isAt_f : ∀ w ∈ wo_X10_isAt_f, w ∈ lw_tbl := List.forall_mem_cons.mpr ⟨mw_362, List.forall_mem_append.mpr ⟨(List.forall_mem_cons.mpr ⟨mw_359, (List.forall_mem_cons.mpr ⟨mw_360, (fun _ h => absurd h List.not_mem_nil)⟩)⟩), lin_wsX100⟩⟩
set_option maxRecDepth 20000 in
theorem in_wo_X10_blanks_f : ∀ w ∈ wo_X10_blanks_f, w ∈ lw_tbl := List.forall_mem_cons.mpr ⟨mw_368, List.forall_mem_append.mpr ⟨(List.forall_mem_cons.mpr ⟨mw_359, (List.forall_mem_cons.mpr ⟨mw_363, (fun _ h => absurd h List.not_mem_nil)⟩)⟩), List.forall_mem_append.mpr ⟨lin_wsX100, List.forall_mem_append.mpr ⟨(List.forall_mem_cons.mpr ⟨mw_367, (List.forall_mem_cons.mpr ⟨mw_366, (List.forall_mem_cons.mpr ⟨mw_365, (List.forall_mem_cons.mpr ⟨mw_364, (fun _ h => absurd h List.not_mem_nil)⟩)⟩)⟩)⟩), in_wo_X10_isAt_f⟩⟩⟩⟩
set_option maxRecDepth 20000 in
theorem in_wo_X10_word_f : ∀ w ∈ wo_X10_word_f, w ∈ lw_tbl := List.forall_mem_cons.mpr ⟨mw_372, List.forall_mem_append.mpr ⟨(List.forall_mem_cons.mpr ⟨mw_359, (List.forall_mem_cons.mpr ⟨mw_363, (fun _ h => absurd h List.not_mem_nil)⟩)⟩), List.forall_mem_append.mpr ⟨lin_wsX100, List.forall_mem_append.mpr ⟨List.forall_mem_append.mpr ⟨(List.forall_mem_cons.mpr ⟨mw_371, (List.forall_mem_cons.mpr ⟨mw_370, (List.forall_mem_cons.mpr ⟨mw_369, (List.forall_mem_cons.mpr ⟨mw_364, (fun _ h => absurd h List.not_mem_nil)⟩)⟩)⟩)⟩), in_wo_X10_blanks_f⟩, List.forall_mem_append.mpr ⟨(List.forall_mem_cons.mpr ⟨mw_367, (List.forall_mem_cons.mpr ⟨mw_366, (List.forall_mem_cons.mpr ⟨mw_365, (List.forall_mem_cons.mpr ⟨mw_364, (fun _ h => absurd h List.not_mem_nil)⟩)⟩)⟩)⟩), in_wo_X10_isAt_f⟩⟩⟩⟩⟩
set_option maxRecDepth 20000 in
theorem in_wo_X10_readsTerm_f : ∀ w ∈ wo_X10_readsTerm_f, w ∈ lw_tbl := List.forall_mem_cons.mpr ⟨mw_376, List.forall_mem_append.mpr ⟨(fun _ h => absurd h List.not_mem_nil), List.forall_mem_append.mpr ⟨(List.forall_mem_cons.mpr ⟨mw_375, (List.forall_mem_cons.mpr ⟨mw_374, (List.forall_mem_cons.mpr ⟨mw_373, (List.forall_mem_cons.mpr ⟨mw_364, (fun _ h => absurd h List.not_mem_nil)⟩)⟩)⟩)⟩), in_wo_X10_word_f⟩⟩⟩
set_option maxRecDepth 20000 in
theorem in_wo_X10_wrong_f : ∀ w ∈ wo_X10_wrong_f, w ∈ lw_tbl := List.forall_mem_cons.mpr ⟨mw_377, List.forall_mem_append.mpr ⟨(List.forall_mem_cons.mpr ⟨mw_363, (List.forall_mem_cons.mpr ⟨mw_184, (List.forall_mem_cons.mpr ⟨mw_353, (fun _ h => absurd h List.not_mem_nil)⟩)⟩)⟩), lin_wsX100⟩⟩
set_option maxRecDepth 20000 in
theorem in_wo_X10_signature_f : ∀ w ∈ wo_X10_signature_f, w ∈ lw_tbl := List.forall_mem_cons.mpr ⟨mw_389, List.forall_mem_append.mpr ⟨(List.forall_mem_cons.mpr ⟨mw_385, (List.forall_mem_cons.mpr ⟨mw_384, (List.forall_mem_cons.mpr ⟨mw_383, (List.forall_mem_cons.mpr ⟨mw_382, (List.forall_mem_cons.mpr ⟨mw_381, (List.forall_mem_cons.mpr ⟨mw_183, (List.forall_mem_cons.mpr ⟨mw_182, (List.forall_mem_cons.mpr ⟨mw_181, (List.forall_mem_cons.mpr ⟨mw_180, (List.forall_mem_cons.mpr ⟨mw_179, (List.forall_mem_cons.mpr ⟨mw_176, (List.forall_mem_cons.mpr ⟨mw_178, (List.forall_mem_cons.mpr ⟨mw_175, (List.forall_mem_cons.mpr ⟨mw_177, (List.forall_mem_cons.mpr ⟨mw_174, (List.forall_mem_cons.mpr ⟨mw_380, (List.forall_mem_cons.mpr ⟨mw_379, (List.forall_mem_cons.mpr ⟨mw_359, (List.forall_mem_cons.mpr ⟨mw_360, (List.forall_mem_cons.mpr ⟨mw_378, (fun _ h => absurd h List.not_mem_nil)⟩)⟩)⟩)⟩)⟩)⟩)⟩)⟩)⟩)⟩)⟩)⟩)⟩)⟩)⟩)⟩)⟩)⟩)⟩)⟩), List.forall_mem_append.mpr ⟨lin_wsX100, List.forall_mem_append.mpr ⟨List.forall_mem_append.mpr ⟨(List.forall_mem_cons.mpr ⟨mw_388, (List.forall_mem_cons.mpr ⟨mw_387, (List.forall_mem_cons.mpr ⟨mw_386, (List.forall_mem_cons.mpr ⟨mw_364, (fun _ h => absurd h List.not_mem_nil)⟩)⟩)⟩)⟩), in_wo_X10_begins_f⟩, List.forall_mem_append.mpr ⟨(List.forall_mem_cons.mpr ⟨mw_371, (List.forall_mem_cons.mpr ⟨mw_370, (List.forall_mem_cons.mpr ⟨mw_369, (List.forall_mem_cons.mpr ⟨mw_364, (fun _ h => absurd h List.not_mem_nil)⟩)⟩)⟩)⟩), in_wo_X10_blanks_f⟩⟩⟩⟩⟩
set_option maxRecDepth 20000 in
theorem in_wo_X10_term_f : ∀ w ∈ wo_X10_term_f, w ∈ lw_tbl := List.forall_mem_cons.mpr ⟨mw_396, List.forall_mem_append.mpr ⟨(fun _ h => absurd h List.not_mem_nil), List.forall_mem_append.mpr ⟨List.forall_mem_append.mpr ⟨(List.forall_mem_cons.mpr ⟨mw_388, (List.forall_mem_cons.mpr ⟨mw_387, (List.forall_mem_cons.mpr ⟨mw_386, (List.forall_mem_cons.mpr ⟨mw_364, (fun _ h => absurd h List.not_mem_nil)⟩)⟩)⟩)⟩), in_wo_X10_begins_f⟩, List.forall_mem_append.mpr ⟨List.forall_mem_append.mpr ⟨(List.forall_mem_cons.mpr ⟨mw_392, (List.forall_mem_cons.mpr ⟨mw_391, (List.forall_mem_cons.mpr ⟨mw_390, (List.forall_mem_cons.mpr ⟨mw_364, (fun _ h => absurd h List.not_mem_nil)⟩)⟩)⟩)⟩), in_wo_X10_readsTerm_f⟩, List.forall_mem_append.mpr ⟨(List.forall_mem_cons.mpr ⟨mw_395, (List.forall_mem_cons.mpr ⟨mw_394, (List.forall_mem_cons.mpr ⟨mw_393, (List.forall_mem_cons.mpr ⟨mw_364, (fun _ h => absurd h List.not_mem_nil)⟩)⟩)⟩)⟩), in_wo_X10_wrong_f⟩⟩⟩⟩⟩
set_option maxRecDepth 20000 in
theorem in_wo_X10_rule_f : ∀ w ∈ wo_X10_rule_f, w ∈ lw_tbl := List.forall_mem_cons.mpr ⟨mw_397, List.forall_mem_append.mpr ⟨(fun _ h => absurd h List.not_mem_nil), List.forall_mem_append.mpr ⟨List.forall_mem_append.mpr ⟨(List.forall_mem_cons.mpr ⟨mw_388, (List.forall_mem_cons.mpr ⟨mw_387, (List.forall_mem_cons.mpr ⟨mw_386, (List.forall_mem_cons.mpr ⟨mw_364, (fun _ h => absurd h List.not_mem_nil)⟩)⟩)⟩)⟩), in_wo_X10_begins_f⟩, List.forall_mem_append.mpr ⟨List.forall_mem_append.mpr ⟨(List.forall_mem_cons.mpr ⟨mw_392, (List.forall_mem_cons.mpr ⟨mw_391, (List.forall_mem_cons.mpr ⟨mw_390, (List.forall_mem_cons.mpr ⟨mw_364, (fun _ h => absurd h List.not_mem_nil)⟩)⟩)⟩)⟩), in_wo_X10_readsTerm_f⟩, List.forall_mem_append.mpr ⟨(List.forall_mem_cons.mpr ⟨mw_395, (List.forall_mem_cons.mpr ⟨mw_394, (List.forall_mem_cons.mpr ⟨mw_393, (List.forall_mem_cons.mpr ⟨mw_364, (fun _ h => absurd h List.not_mem_nil)⟩)⟩)⟩)⟩), in_wo_X10_wrong_f⟩⟩⟩⟩⟩
set_option maxRecDepth 20000 in
theorem in_wo_X10_fault_f : ∀ w ∈ wo_X10_fault_f, w ∈ lw_tbl := List.forall_mem_cons.mpr ⟨mw_398, List.forall_mem_append.mpr ⟨(List.forall_mem_cons.mpr ⟨mw_353, (List.forall_mem_cons.mpr ⟨mw_184, (fun _ h => absurd h List.not_mem_nil)⟩)⟩), lin_wsX100⟩⟩
set_option maxRecDepth 20000 in
theorem in_wo_X10_in_f : ∀ w ∈ wo_X10_in_f, w ∈ lw_tbl := List.forall_mem_cons.mpr ⟨mw_399, (fun _ h => absurd h List.not_mem_nil)⟩
set_option maxRecDepth 20000 in
theorem in_wo_X10_throwsIf_f : ∀ w ∈ wo_X10_throwsIf_f, w ∈ lw_tbl := List.forall_mem_cons.mpr ⟨mw_400, List.forall_mem_append.mpr ⟨(List.forall_mem_cons.mpr ⟨mw_353, (fun _ h => absurd h List.not_mem_nil)⟩), lin_wsX100⟩⟩
set_option maxRecDepth 20000 in
theorem in_wo_X10_noTerm_f : ∀ w ∈ wo_X10_noTerm_f, w ∈ lw_tbl := List.forall_mem_cons.mpr ⟨mw_406, List.forall_mem_append.mpr ⟨(List.forall_mem_cons.mpr ⟨mw_385, (fun _ h => absurd h List.not_mem_nil)⟩), List.forall_mem_append.mpr ⟨lin_wsX100, List.forall_mem_append.mpr ⟨List.forall_mem_append.mpr ⟨(List.forall_mem_cons.mpr ⟨mw_402, (List.forall_mem_cons.mpr ⟨mw_401, (List.forall_mem_cons.mpr ⟨mw_364, (fun _ h => absurd h List.not_mem_nil)⟩)⟩)⟩), in_wo_X10_in_f⟩, List.forall_mem_append.mpr ⟨(List.forall_mem_cons.mpr ⟨mw_405, (List.forall_mem_cons.mpr ⟨mw_404, (List.forall_mem_cons.mpr ⟨mw_403, (List.forall_mem_cons.mpr ⟨mw_364, (fun _ h => absurd h List.not_mem_nil)⟩)⟩)⟩)⟩), in_wo_X10_throwsIf_f⟩⟩⟩⟩⟩
set_option maxRecDepth 20000 in
theorem in_wo_X10_noRule_f : ∀ w ∈ wo_X10_noRule_f, w ∈ lw_tbl := List.forall_mem_cons.mpr ⟨mw_407, List.forall_mem_append.mpr ⟨(List.forall_mem_cons.mpr ⟨mw_384, (fun _ h => absurd h List.not_mem_nil)⟩), List.forall_mem_append.mpr ⟨lin_wsX100, List.forall_mem_append.mpr ⟨List.forall_mem_append.mpr ⟨(List.forall_mem_cons.mpr ⟨mw_402, (List.forall_mem_cons.mpr ⟨mw_401, (List.forall_mem_cons.mpr ⟨mw_364, (fun _ h => absurd h List.not_mem_nil)⟩)⟩)⟩), in_wo_X10_in_f⟩, List.forall_mem_append.mpr ⟨(List.forall_mem_cons.mpr ⟨mw_405, (List.forall_mem_cons.mpr ⟨mw_404, (List.forall_mem_cons.mpr ⟨mw_403, (List.forall_mem_cons.mpr ⟨mw_364, (fun _ h => absurd h List.not_mem_nil)⟩)⟩)⟩)⟩), in_wo_X10_throwsIf_f⟩⟩⟩⟩⟩
set_option maxRecDepth 20000 in
theorem in_wo_X10_noOperator_f : ∀ w ∈ wo_X10_noOperator_f, w ∈ lw_tbl := List.forall_mem_cons.mpr ⟨mw_408, List.forall_mem_append.mpr ⟨(List.forall_mem_cons.mpr ⟨mw_381, (fun _ h => absurd h List.not_mem_nil)⟩), List.forall_mem_append.mpr ⟨lin_wsX100, List.forall_mem_append.mpr ⟨List.forall_mem_append.mpr ⟨(List.forall_mem_cons.mpr ⟨mw_402, (List.forall_mem_cons.mpr ⟨mw_401, (List.forall_mem_cons.mpr ⟨mw_364, (fun _ h => absurd h List.not_mem_nil)⟩)⟩)⟩), in_wo_X10_in_f⟩, List.forall_mem_append.mpr ⟨(List.forall_mem_cons.mpr ⟨mw_405, (List.forall_mem_cons.mpr ⟨mw_404, (List.forall_mem_cons.mpr ⟨mw_403, (List.forall_mem_cons.mpr ⟨mw_364, (fun _ h => absurd h List.not_mem_nil)⟩)⟩)⟩)⟩), in_wo_X10_throwsIf_f⟩⟩⟩⟩⟩
set_option maxRecDepth 20000 in
theorem in_wo_X10_turn_f : ∀ w ∈ wo_X10_turn_f, w ∈ lw_tbl := List.forall_mem_cons.mpr ⟨mw_412, List.forall_mem_append.mpr ⟨(List.forall_mem_cons.mpr ⟨mw_353, (fun _ h => absurd h List.not_mem_nil)⟩), List.forall_mem_append.mpr ⟨lin_wsX100, List.forall_mem_append.mpr ⟨(List.forall_mem_cons.mpr ⟨mw_411, (List.forall_mem_cons.mpr ⟨mw_410, (List.forall_mem_cons.mpr ⟨mw_409, (List.forall_mem_cons.mpr ⟨mw_364, (fun _ h => absurd h List.not_mem_nil)⟩)⟩)⟩)⟩), in_wo_X10_noRule_f⟩⟩⟩⟩
set_option maxRecDepth 20000 in
theorem in_wo_X10_about_f : ∀ w ∈ wo_X10_about_f, w ∈ lw_tbl := List.forall_mem_cons.mpr ⟨mw_416, List.forall_mem_append.mpr ⟨(List.forall_mem_cons.mpr ⟨mw_353, (fun _ h => absurd h List.not_mem_nil)⟩), List.forall_mem_append.mpr ⟨lin_wsX100, List.forall_mem_append.mpr ⟨(List.forall_mem_cons.mpr ⟨mw_415, (List.forall_mem_cons.mpr ⟨mw_414, (List.forall_mem_cons.mpr ⟨mw_413, (List.forall_mem_cons.mpr ⟨mw_364, (fun _ h => absurd h List.not_mem_nil)⟩)⟩)⟩)⟩), in_wo_X10_noTerm_f⟩⟩⟩⟩
set_option maxRecDepth 20000 in
theorem in_wo_X10_order_f : ∀ w ∈ wo_X10_order_f, w ∈ lw_tbl := List.forall_mem_cons.mpr ⟨mw_417, List.forall_mem_append.mpr ⟨(List.forall_mem_cons.mpr ⟨mw_353, (fun _ h => absurd h List.not_mem_nil)⟩), List.forall_mem_append.mpr ⟨lin_wsX100, List.forall_mem_append.mpr ⟨(List.forall_mem_cons.mpr ⟨mw_415, (List.forall_mem_cons.mpr ⟨mw_414, (List.forall_mem_cons.mpr ⟨mw_413, (List.forall_mem_cons.mpr ⟨mw_364, (fun _ h => absurd h List.not_mem_nil)⟩)⟩)⟩)⟩), in_wo_X10_noTerm_f⟩⟩⟩⟩
set_option maxRecDepth 20000 in
theorem in_wo_X10_show_f : ∀ w ∈ wo_X10_show_f, w ∈ lw_tbl := List.forall_mem_cons.mpr ⟨mw_418, List.forall_mem_append.mpr ⟨(List.forall_mem_cons.mpr ⟨mw_353, (fun _ h => absurd h List.not_mem_nil)⟩), List.forall_mem_append.mpr ⟨lin_wsX100, List.forall_mem_append.mpr ⟨(List.forall_mem_cons.mpr ⟨mw_415, (List.forall_mem_cons.mpr ⟨mw_414, (List.forall_mem_cons.mpr ⟨mw_413, (List.forall_mem_cons.mpr ⟨mw_364, (fun _ h => absurd h List.not_mem_nil)⟩)⟩)⟩)⟩), in_wo_X10_noTerm_f⟩⟩⟩⟩
set_option maxRecDepth 20000 in
theorem in_wo_X10_place_f : ∀ w ∈ wo_X10_place_f, w ∈ lw_tbl := List.forall_mem_cons.mpr ⟨mw_419, List.forall_mem_append.mpr ⟨(List.forall_mem_cons.mpr ⟨mw_353, (fun _ h => absurd h List.not_mem_nil)⟩), List.forall_mem_append.mpr ⟨lin_wsX100, List.forall_mem_append.mpr ⟨(List.forall_mem_cons.mpr ⟨mw_415, (List.forall_mem_cons.mpr ⟨mw_414, (List.forall_mem_cons.mpr ⟨mw_413, (List.forall_mem_cons.mpr ⟨mw_364, (fun _ h => absurd h List.not_mem_nil)⟩)⟩)⟩)⟩), in_wo_X10_noTerm_f⟩⟩⟩⟩
set_option maxRecDepth 20000 in
theorem in_wo_X10_matches_f : ∀ w ∈ wo_X10_matches_f, w ∈ lw_tbl := List.forall_mem_cons.mpr ⟨mw_420, List.forall_mem_append.mpr ⟨(List.forall_mem_cons.mpr ⟨mw_353, (fun _ h => absurd h List.not_mem_nil)⟩), List.forall_mem_append.mpr ⟨lin_wsX100, List.forall_mem_append.mpr ⟨(List.forall_mem_cons.mpr ⟨mw_415, (List.forall_mem_cons.mpr ⟨mw_414, (List.forall_mem_cons.mpr ⟨mw_413, (List.forall_mem_cons.mpr ⟨mw_364, (fun _ h => absurd h List.not_mem_nil)⟩)⟩)⟩)⟩), in_wo_X10_noTerm_f⟩⟩⟩⟩
set_option maxRecDepth 20000 in
theorem in_wo_X10_bound_f : ∀ w ∈ wo_X10_bound_f, w ∈ lw_tbl := List.forall_mem_cons.mpr ⟨mw_421, List.forall_mem_append.mpr ⟨(List.forall_mem_cons.mpr ⟨mw_353, (fun _ h => absurd h List.not_mem_nil)⟩), List.forall_mem_append.mpr ⟨lin_wsX100, List.forall_mem_append.mpr ⟨(List.forall_mem_cons.mpr ⟨mw_415, (List.forall_mem_cons.mpr ⟨mw_414, (List.forall_mem_cons.mpr ⟨mw_413, (List.forall_mem_cons.mpr ⟨mw_364, (fun _ h => absurd h List.not_mem_nil)⟩)⟩)⟩)⟩), in_wo_X10_noTerm_f⟩⟩⟩⟩
set_option maxRecDepth 20000 in
theorem in_wo_X10_fill_f : ∀ w ∈ wo_X10_fill_f, w ∈ lw_tbl := List.forall_mem_cons.mpr ⟨mw_422, List.forall_mem_append.mpr ⟨(List.forall_mem_cons.mpr ⟨mw_353, (fun _ h => absurd h List.not_mem_nil)⟩), List.forall_mem_append.mpr ⟨lin_wsX100, List.forall_mem_append.mpr ⟨(List.forall_mem_cons.mpr ⟨mw_415, (List.forall_mem_cons.mpr ⟨mw_414, (List.forall_mem_cons.mpr ⟨mw_413, (List.forall_mem_cons.mpr ⟨mw_364, (fun _ h => absurd h List.not_mem_nil)⟩)⟩)⟩)⟩), in_wo_X10_noTerm_f⟩⟩⟩⟩
set_option maxRecDepth 20000 in
theorem in_wo_X10_steps_f : ∀ w ∈ wo_X10_steps_f, w ∈ lw_tbl := List.forall_mem_cons.mpr ⟨mw_423, List.forall_mem_append.mpr ⟨(List.forall_mem_cons.mpr ⟨mw_353, (fun _ h => absurd h List.not_mem_nil)⟩), List.forall_mem_append.mpr ⟨lin_wsX100, List.forall_mem_append.mpr ⟨(List.forall_mem_cons.mpr ⟨mw_415, (List.forall_mem_cons.mpr ⟨mw_414, (List.forall_mem_cons.mpr ⟨mw_413, (List.forall_mem_cons.mpr ⟨mw_364, (fun _ h => absurd h List.not_mem_nil)⟩)⟩)⟩)⟩), in_wo_X10_noTerm_f⟩⟩⟩⟩
set_option maxRecDepth 20000 in
theorem in_wo_X10_step_f : ∀ w ∈ wo_X10_step_f, w ∈ lw_tbl := List.forall_mem_cons.mpr ⟨mw_424, List.forall_mem_append.mpr ⟨(List.forall_mem_cons.mpr ⟨mw_353, (fun _ h => absurd h List.not_mem_nil)⟩), List.forall_mem_append.mpr ⟨lin_wsX100, List.forall_mem_append.mpr ⟨(List.forall_mem_cons.mpr ⟨mw_415, (List.forall_mem_cons.mpr ⟨mw_414, (List.forall_mem_cons.mpr ⟨mw_413, (List.forall_mem_cons.mpr ⟨mw_364, (fun _ h => absurd h List.not_mem_nil)⟩)⟩)⟩)⟩), in_wo_X10_noTerm_f⟩⟩⟩⟩
set_option maxRecDepth 20000 in
theorem in_wo_X10_stepAt_f : ∀ w ∈ wo_X10_stepAt_f, w ∈ lw_tbl := List.forall_mem_cons.mpr ⟨mw_425, List.forall_mem_append.mpr ⟨(List.forall_mem_cons.mpr ⟨mw_353, (fun _ h => absurd h List.not_mem_nil)⟩), List.forall_mem_append.mpr ⟨lin_wsX100, List.forall_mem_append.mpr ⟨(List.forall_mem_cons.mpr ⟨mw_415, (List.forall_mem_cons.mpr ⟨mw_414, (List.forall_mem_cons.mpr ⟨mw_413, (List.forall_mem_cons.mpr ⟨mw_364, (fun _ h => absurd h List.not_mem_nil)⟩)⟩)⟩)⟩), in_wo_X10_noTerm_f⟩⟩⟩⟩
set_option maxRecDepth 20000 in
theorem in_wo_X10_atTop_f : ∀ w ∈ wo_X10_atTop_f, w ∈ lw_tbl := List.forall_mem_cons.mpr ⟨mw_426, List.forall_mem_append.mpr ⟨(List.forall_mem_cons.mpr ⟨mw_353, (fun _ h => absurd h List.not_mem_nil)⟩), List.forall_mem_append.mpr ⟨lin_wsX100, List.forall_mem_append.mpr ⟨(List.forall_mem_cons.mpr ⟨mw_415, (List.forall_mem_cons.mpr ⟨mw_414, (List.forall_mem_cons.mpr ⟨mw_413, (List.forall_mem_cons.mpr ⟨mw_364, (fun _ h => absurd h List.not_mem_nil)⟩)⟩)⟩)⟩), in_wo_X10_noTerm_f⟩⟩⟩⟩
set_option maxRecDepth 20000 in
theorem in_wo_X10_walk_f : ∀ w ∈ wo_X10_walk_f, w ∈ lw_tbl := List.forall_mem_cons.mpr ⟨mw_427, List.forall_mem_append.mpr ⟨(List.forall_mem_cons.mpr ⟨mw_353, (fun _ h => absurd h List.not_mem_nil)⟩), List.forall_mem_append.mpr ⟨lin_wsX100, List.forall_mem_append.mpr ⟨(List.forall_mem_cons.mpr ⟨mw_415, (List.forall_mem_cons.mpr ⟨mw_414, (List.forall_mem_cons.mpr ⟨mw_413, (List.forall_mem_cons.mpr ⟨mw_364, (fun _ h => absurd h List.not_mem_nil)⟩)⟩)⟩)⟩), in_wo_X10_noTerm_f⟩⟩⟩⟩
set_option maxRecDepth 20000 in
theorem in_wo_X10_reach_f : ∀ w ∈ wo_X10_reach_f, w ∈ lw_tbl := List.forall_mem_cons.mpr ⟨mw_428, List.forall_mem_append.mpr ⟨(List.forall_mem_cons.mpr ⟨mw_353, (fun _ h => absurd h List.not_mem_nil)⟩), List.forall_mem_append.mpr ⟨lin_wsX100, List.forall_mem_append.mpr ⟨(List.forall_mem_cons.mpr ⟨mw_415, (List.forall_mem_cons.mpr ⟨mw_414, (List.forall_mem_cons.mpr ⟨mw_413, (List.forall_mem_cons.mpr ⟨mw_364, (fun _ h => absurd h List.not_mem_nil)⟩)⟩)⟩)⟩), in_wo_X10_noTerm_f⟩⟩⟩⟩
set_option maxRecDepth 20000 in
theorem in_wo_X10_reached_f : ∀ w ∈ wo_X10_reached_f, w ∈ lw_tbl := List.forall_mem_cons.mpr ⟨mw_429, List.forall_mem_append.mpr ⟨(List.forall_mem_cons.mpr ⟨mw_353, (fun _ h => absurd h List.not_mem_nil)⟩), List.forall_mem_append.mpr ⟨lin_wsX100, List.forall_mem_append.mpr ⟨(List.forall_mem_cons.mpr ⟨mw_415, (List.forall_mem_cons.mpr ⟨mw_414, (List.forall_mem_cons.mpr ⟨mw_413, (List.forall_mem_cons.mpr ⟨mw_364, (fun _ h => absurd h List.not_mem_nil)⟩)⟩)⟩)⟩), in_wo_X10_noTerm_f⟩⟩⟩⟩
set_option maxRecDepth 20000 in
theorem in_wo_X10_meet_f : ∀ w ∈ wo_X10_meet_f, w ∈ lw_tbl := List.forall_mem_cons.mpr ⟨mw_430, List.forall_mem_append.mpr ⟨(List.forall_mem_cons.mpr ⟨mw_353, (fun _ h => absurd h List.not_mem_nil)⟩), List.forall_mem_append.mpr ⟨lin_wsX100, List.forall_mem_append.mpr ⟨(List.forall_mem_cons.mpr ⟨mw_415, (List.forall_mem_cons.mpr ⟨mw_414, (List.forall_mem_cons.mpr ⟨mw_413, (List.forall_mem_cons.mpr ⟨mw_364, (fun _ h => absurd h List.not_mem_nil)⟩)⟩)⟩)⟩), in_wo_X10_noTerm_f⟩⟩⟩⟩
set_option maxRecDepth 20000 in
theorem in_wo_X10_side_f : ∀ w ∈ wo_X10_side_f, w ∈ lw_tbl := List.forall_mem_cons.mpr ⟨mw_431, List.forall_mem_append.mpr ⟨(List.forall_mem_cons.mpr ⟨mw_353, (fun _ h => absurd h List.not_mem_nil)⟩), List.forall_mem_append.mpr ⟨lin_wsX100, List.forall_mem_append.mpr ⟨(List.forall_mem_cons.mpr ⟨mw_411, (List.forall_mem_cons.mpr ⟨mw_410, (List.forall_mem_cons.mpr ⟨mw_409, (List.forall_mem_cons.mpr ⟨mw_364, (fun _ h => absurd h List.not_mem_nil)⟩)⟩)⟩)⟩), in_wo_X10_noRule_f⟩⟩⟩⟩
set_option maxRecDepth 20000 in
theorem in_wo_X10_operator_f : ∀ w ∈ wo_X10_operator_f, w ∈ lw_tbl := List.forall_mem_cons.mpr ⟨mw_435, List.forall_mem_append.mpr ⟨(List.forall_mem_cons.mpr ⟨mw_353, (fun _ h => absurd h List.not_mem_nil)⟩), List.forall_mem_append.mpr ⟨lin_wsX100, List.forall_mem_append.mpr ⟨(List.forall_mem_cons.mpr ⟨mw_434, (List.forall_mem_cons.mpr ⟨mw_433, (List.forall_mem_cons.mpr ⟨mw_432, (List.forall_mem_cons.mpr ⟨mw_364, (fun _ h => absurd h List.not_mem_nil)⟩)⟩)⟩)⟩), in_wo_X10_noOperator_f⟩⟩⟩⟩
set_option maxRecDepth 20000 in
theorem in_wo_X10_join_f : ∀ w ∈ wo_X10_join_f, w ∈ lw_tbl := List.forall_mem_cons.mpr ⟨mw_436, List.forall_mem_append.mpr ⟨(List.forall_mem_cons.mpr ⟨mw_353, (fun _ h => absurd h List.not_mem_nil)⟩), List.forall_mem_append.mpr ⟨lin_wsX100, List.forall_mem_append.mpr ⟨(List.forall_mem_cons.mpr ⟨mw_434, (List.forall_mem_cons.mpr ⟨mw_433, (List.forall_mem_cons.mpr ⟨mw_432, (List.forall_mem_cons.mpr ⟨mw_364, (fun _ h => absurd h List.not_mem_nil)⟩)⟩)⟩)⟩), in_wo_X10_noOperator_f⟩⟩⟩⟩
set_option maxRecDepth 20000 in
theorem in_wo_X10_rank_f : ∀ w ∈ wo_X10_rank_f, w ∈ lw_tbl := List.forall_mem_cons.mpr ⟨mw_437, List.forall_mem_append.mpr ⟨(List.forall_mem_cons.mpr ⟨mw_353, (List.forall_mem_cons.mpr ⟨mw_385, (fun _ h => absurd h List.not_mem_nil)⟩)⟩), lin_wsX100⟩⟩
set_option maxRecDepth 20000 in
theorem in_wo_X10_keep_f : ∀ w ∈ wo_X10_keep_f, w ∈ lw_tbl := List.forall_mem_cons.mpr ⟨mw_438, List.forall_mem_append.mpr ⟨(List.forall_mem_cons.mpr ⟨mw_353, (List.forall_mem_cons.mpr ⟨mw_383, (fun _ h => absurd h List.not_mem_nil)⟩)⟩), List.forall_mem_append.mpr ⟨lin_wsX100, List.forall_mem_append.mpr ⟨(List.forall_mem_cons.mpr ⟨mw_405, (List.forall_mem_cons.mpr ⟨mw_404, (List.forall_mem_cons.mpr ⟨mw_403, (List.forall_mem_cons.mpr ⟨mw_364, (fun _ h => absurd h List.not_mem_nil)⟩)⟩)⟩)⟩), in_wo_X10_throwsIf_f⟩⟩⟩⟩
set_option maxRecDepth 20000 in
theorem in_wo_X10_octet_f : ∀ w ∈ wo_X10_octet_f, w ∈ lw_tbl := List.forall_mem_cons.mpr ⟨mw_439, List.forall_mem_append.mpr ⟨(List.forall_mem_cons.mpr ⟨mw_353, (List.forall_mem_cons.mpr ⟨mw_382, (fun _ h => absurd h List.not_mem_nil)⟩)⟩), List.forall_mem_append.mpr ⟨lin_wsX100, List.forall_mem_append.mpr ⟨(List.forall_mem_cons.mpr ⟨mw_402, (List.forall_mem_cons.mpr ⟨mw_401, (List.forall_mem_cons.mpr ⟨mw_364, (fun _ h => absurd h List.not_mem_nil)⟩)⟩)⟩), in_wo_X10_in_f⟩⟩⟩⟩
set_option maxRecDepth 20000 in
theorem in_wo_X10_rulesOn_f : ∀ w ∈ wo_X10_rulesOn_f, w ∈ lw_tbl := List.forall_mem_cons.mpr ⟨mw_441, List.forall_mem_append.mpr ⟨(List.forall_mem_cons.mpr ⟨mw_440, (List.forall_mem_cons.mpr ⟨mw_384, (fun _ h => absurd h List.not_mem_nil)⟩)⟩), lin_wsX100⟩⟩
set_option maxRecDepth 20000 in
theorem in_wo_X10_normalTerms_f : ∀ w ∈ wo_X10_normalTerms_f, w ∈ lw_tbl := List.forall_mem_cons.mpr ⟨mw_442, List.forall_mem_append.mpr ⟨(List.forall_mem_cons.mpr ⟨mw_385, (fun _ h => absurd h List.not_mem_nil)⟩), lin_wsX100⟩⟩
set_option maxRecDepth 20000 in
theorem in_wo_X10_greatest_f : ∀ w ∈ wo_X10_greatest_f, w ∈ lw_tbl := List.forall_mem_cons.mpr ⟨mw_443, List.forall_mem_append.mpr ⟨(List.forall_mem_cons.mpr ⟨mw_385, (fun _ h => absurd h List.not_mem_nil)⟩), lin_wsX100⟩⟩
set_option maxRecDepth 20000 in
theorem in_wo_X10_allMatches_f : ∀ w ∈ wo_X10_allMatches_f, w ∈ lw_tbl := List.forall_mem_cons.mpr ⟨mw_444, List.forall_mem_append.mpr ⟨(List.forall_mem_cons.mpr ⟨mw_385, (fun _ h => absurd h List.not_mem_nil)⟩), lin_wsX100⟩⟩
set_option maxRecDepth 20000 in
theorem in_wo_X10_count_f : ∀ w ∈ wo_X10_count_f, w ∈ lw_tbl := List.forall_mem_cons.mpr ⟨mw_457, List.forall_mem_append.mpr ⟨(List.forall_mem_cons.mpr ⟨mw_353, (List.forall_mem_cons.mpr ⟨mw_381, (List.forall_mem_cons.mpr ⟨mw_378, (List.forall_mem_cons.mpr ⟨mw_385, (List.forall_mem_cons.mpr ⟨mw_384, (List.forall_mem_cons.mpr ⟨mw_382, (fun _ h => absurd h List.not_mem_nil)⟩)⟩)⟩)⟩)⟩)⟩), List.forall_mem_append.mpr ⟨lin_wsX100, List.forall_mem_append.mpr ⟨List.forall_mem_append.mpr ⟨(List.forall_mem_cons.mpr ⟨mw_447, (List.forall_mem_cons.mpr ⟨mw_446, (List.forall_mem_cons.mpr ⟨mw_445, (List.forall_mem_cons.mpr ⟨mw_364, (fun _ h => absurd h List.not_mem_nil)⟩)⟩)⟩)⟩), in_wo_X10_rulesOn_f⟩, List.forall_mem_append.mpr ⟨List.forall_mem_append.mpr ⟨(List.forall_mem_cons.mpr ⟨mw_450, (List.forall_mem_cons.mpr ⟨mw_449, (List.forall_mem_cons.mpr ⟨mw_448, (List.forall_mem_cons.mpr ⟨mw_364, (fun _ h => absurd h List.not_mem_nil)⟩)⟩)⟩)⟩), in_wo_X10_normalTerms_f⟩, List.forall_mem_append.mpr ⟨List.forall_mem_append.mpr ⟨(List.forall_mem_cons.mpr ⟨mw_453, (List.forall_mem_cons.mpr ⟨mw_452, (List.forall_mem_cons.mpr ⟨mw_451, (List.forall_mem_cons.mpr ⟨mw_364, (fun _ h => absurd h List.not_mem_nil)⟩)⟩)⟩)⟩), in_wo_X10_greatest_f⟩, List.forall_mem_append.mpr ⟨(List.forall_mem_cons.mpr ⟨mw_456, (List.forall_mem_cons.mpr ⟨mw_455, (List.forall_mem_cons.mpr ⟨mw_454, (List.forall_mem_cons.mpr ⟨mw_364, (fun _ h => absurd h List.not_mem_nil)⟩)⟩)⟩)⟩), in_wo_X10_allMatches_f⟩⟩⟩⟩⟩⟩⟩
set_option maxRecDepth 20000 in
theorem in_wo_L_signature_f : ∀ w ∈ wo_L_signature_f, w ∈ lw_tbl := List.forall_mem_cons.mpr ⟨mw_461, List.forall_mem_append.mpr ⟨(fun _ h => absurd h List.not_mem_nil), List.forall_mem_append.mpr ⟨(List.forall_mem_cons.mpr ⟨mw_460, (List.forall_mem_cons.mpr ⟨mw_459, (List.forall_mem_cons.mpr ⟨mw_458, (List.forall_mem_cons.mpr ⟨mw_275, (fun _ h => absurd h List.not_mem_nil)⟩)⟩)⟩)⟩), in_wo_X9_signature_f⟩⟩⟩
set_option maxRecDepth 20000 in
theorem in_wo_L_term_f : ∀ w ∈ wo_L_term_f, w ∈ lw_tbl := List.forall_mem_cons.mpr ⟨mw_466, List.forall_mem_append.mpr ⟨(List.forall_mem_cons.mpr ⟨mw_462, (fun _ h => absurd h List.not_mem_nil)⟩), List.forall_mem_append.mpr ⟨(List.forall_mem_cons.mpr ⟨mw_465, (List.forall_mem_cons.mpr ⟨mw_464, (List.forall_mem_cons.mpr ⟨mw_463, (List.forall_mem_cons.mpr ⟨mw_275, (fun _ h => absurd h List.not_mem_nil)⟩)⟩)⟩)⟩), in_wo_X9_term_f⟩⟩⟩
set_option maxRecDepth 20000 in
theorem in_wo_L_rule_f : ∀ w ∈ wo_L_rule_f, w ∈ lw_tbl := List.forall_mem_cons.mpr ⟨mw_470, List.forall_mem_append.mpr ⟨(List.forall_mem_cons.mpr ⟨mw_462, (fun _ h => absurd h List.not_mem_nil)⟩), List.forall_mem_append.mpr ⟨(List.forall_mem_cons.mpr ⟨mw_469, (List.forall_mem_cons.mpr ⟨mw_468, (List.forall_mem_cons.mpr ⟨mw_467, (List.forall_mem_cons.mpr ⟨mw_275, (fun _ h => absurd h List.not_mem_nil)⟩)⟩)⟩)⟩), in_wo_X9_rule_f⟩⟩⟩
set_option maxRecDepth 20000 in
theorem in_wo_L_turn_f : ∀ w ∈ wo_L_turn_f, w ∈ lw_tbl := List.forall_mem_cons.mpr ⟨mw_475, List.forall_mem_append.mpr ⟨(List.forall_mem_cons.mpr ⟨mw_471, (fun _ h => absurd h List.not_mem_nil)⟩), List.forall_mem_append.mpr ⟨(List.forall_mem_cons.mpr ⟨mw_474, (List.forall_mem_cons.mpr ⟨mw_473, (List.forall_mem_cons.mpr ⟨mw_472, (List.forall_mem_cons.mpr ⟨mw_275, (fun _ h => absurd h List.not_mem_nil)⟩)⟩)⟩)⟩), in_wo_X9_turn_f⟩⟩⟩
set_option maxRecDepth 20000 in
theorem in_wo_L_operator_f : ∀ w ∈ wo_L_operator_f, w ∈ lw_tbl := List.forall_mem_cons.mpr ⟨mw_479, List.forall_mem_append.mpr ⟨(List.forall_mem_cons.mpr ⟨mw_471, (fun _ h => absurd h List.not_mem_nil)⟩), List.forall_mem_append.mpr ⟨(List.forall_mem_cons.mpr ⟨mw_478, (List.forall_mem_cons.mpr ⟨mw_477, (List.forall_mem_cons.mpr ⟨mw_476, (List.forall_mem_cons.mpr ⟨mw_275, (fun _ h => absurd h List.not_mem_nil)⟩)⟩)⟩)⟩), in_wo_X9_operator_f⟩⟩⟩
set_option maxRecDepth 20000 in
theorem in_wo_L_about_f : ∀ w ∈ wo_L_about_f, w ∈ lw_tbl := List.forall_mem_cons.mpr ⟨mw_483, List.forall_mem_append.mpr ⟨(List.forall_mem_cons.mpr ⟨mw_471, (fun _ h => absurd h List.not_mem_nil)⟩), List.forall_mem_append.mpr ⟨(List.forall_mem_cons.mpr ⟨mw_482, (List.forall_mem_cons.mpr ⟨mw_481, (List.forall_mem_cons.mpr ⟨mw_480, (List.forall_mem_cons.mpr ⟨mw_275, (fun _ h => absurd h List.not_mem_nil)⟩)⟩)⟩)⟩), in_wo_X9_about_f⟩⟩⟩
set_option maxRecDepth 20000 in
theorem in_wo_L_order_f : ∀ w ∈ wo_L_order_f, w ∈ lw_tbl := List.forall_mem_cons.mpr ⟨mw_487, List.forall_mem_append.mpr ⟨(List.forall_mem_cons.mpr ⟨mw_471, (fun _ h => absurd h List.not_mem_nil)⟩), List.forall_mem_append.mpr ⟨(List.forall_mem_cons.mpr ⟨mw_486, (List.forall_mem_cons.mpr ⟨mw_485, (List.forall_mem_cons.mpr ⟨mw_484, (List.forall_mem_cons.mpr ⟨mw_275, (fun _ h => absurd h List.not_mem_nil)⟩)⟩)⟩)⟩), in_wo_X9_order_f⟩⟩⟩
set_option maxRecDepth 20000 in
theorem in_wo_L_show_f : ∀ w ∈ wo_L_show_f, w ∈ lw_tbl := List.forall_mem_cons.mpr ⟨mw_491, List.forall_mem_append.mpr ⟨(List.forall_mem_cons.mpr ⟨mw_471, (fun _ h => absurd h List.not_mem_nil)⟩), List.forall_mem_append.mpr ⟨(List.forall_mem_cons.mpr ⟨mw_490, (List.forall_mem_cons.mpr ⟨mw_489, (List.forall_mem_cons.mpr ⟨mw_488, (List.forall_mem_cons.mpr ⟨mw_275, (fun _ h => absurd h List.not_mem_nil)⟩)⟩)⟩)⟩), in_wo_X9_show_f⟩⟩⟩
set_option maxRecDepth 20000 in
theorem in_wo_L_place_f : ∀ w ∈ wo_L_place_f, w ∈ lw_tbl := List.forall_mem_cons.mpr ⟨mw_495, List.forall_mem_append.mpr ⟨(List.forall_mem_cons.mpr ⟨mw_471, (fun _ h => absurd h List.not_mem_nil)⟩), List.forall_mem_append.mpr ⟨(List.forall_mem_cons.mpr ⟨mw_494, (List.forall_mem_cons.mpr ⟨mw_493, (List.forall_mem_cons.mpr ⟨mw_492, (List.forall_mem_cons.mpr ⟨mw_275, (fun _ h => absurd h List.not_mem_nil)⟩)⟩)⟩)⟩), in_wo_X9_place_f⟩⟩⟩
set_option maxRecDepth 20000 in
theorem in_wo_L_side_f : ∀ w ∈ wo_L_side_f, w ∈ lw_tbl := List.forall_mem_cons.mpr ⟨mw_499, List.forall_mem_append.mpr ⟨(List.forall_mem_cons.mpr ⟨mw_471, (fun _ h => absurd h List.not_mem_nil)⟩), List.forall_mem_append.mpr ⟨(List.forall_mem_cons.mpr ⟨mw_498, (List.forall_mem_cons.mpr ⟨mw_497, (List.forall_mem_cons.mpr ⟨mw_496, (List.forall_mem_cons.mpr ⟨mw_275, (fun _ h => absurd h List.not_mem_nil)⟩)⟩)⟩)⟩), in_wo_X9_side_f⟩⟩⟩
set_option maxRecDepth 20000 in
theorem in_wo_L_matches_f : ∀ w ∈ wo_L_matches_f, w ∈ lw_tbl := List.forall_mem_cons.mpr ⟨mw_503, List.forall_mem_append.mpr ⟨(List.forall_mem_cons.mpr ⟨mw_471, (fun _ h => absurd h List.not_mem_nil)⟩), List.forall_mem_append.mpr ⟨(List.forall_mem_cons.mpr ⟨mw_502, (List.forall_mem_cons.mpr ⟨mw_501, (List.forall_mem_cons.mpr ⟨mw_500, (List.forall_mem_cons.mpr ⟨mw_275, (fun _ h => absurd h List.not_mem_nil)⟩)⟩)⟩)⟩), in_wo_X9_matches_f⟩⟩⟩
set_option maxRecDepth 20000 in
theorem in_wo_L_bound_f : ∀ w ∈ wo_L_bound_f, w ∈ lw_tbl := List.forall_mem_cons.mpr ⟨mw_507, List.forall_mem_append.mpr ⟨(List.forall_mem_cons.mpr ⟨mw_471, (fun _ h => absurd h List.not_mem_nil)⟩), List.forall_mem_append.mpr ⟨(List.forall_mem_cons.mpr ⟨mw_506, (List.forall_mem_cons.mpr ⟨mw_505, (List.forall_mem_cons.mpr ⟨mw_504, (List.forall_mem_cons.mpr ⟨mw_275, (fun _ h => absurd h List.not_mem_nil)⟩)⟩)⟩)⟩), in_wo_X9_bound_f⟩⟩⟩
set_option maxRecDepth 20000 in
theorem in_wo_L_fill_f : ∀ w ∈ wo_L_fill_f, w ∈ lw_tbl := List.forall_mem_cons.mpr ⟨mw_511, List.forall_mem_append.mpr ⟨(List.forall_mem_cons.mpr ⟨mw_471, (fun _ h => absurd h List.not_mem_nil)⟩), List.forall_mem_append.mpr ⟨(List.forall_mem_cons.mpr ⟨mw_510, (List.forall_mem_cons.mpr ⟨mw_509, (List.forall_mem_cons.mpr ⟨mw_508, (List.forall_mem_cons.mpr ⟨mw_275, (fun _ h => absurd h List.not_mem_nil)⟩)⟩)⟩)⟩), in_wo_X9_fill_f⟩⟩⟩
set_option maxRecDepth 20000 in
theorem in_wo_L_join_f : ∀ w ∈ wo_L_join_f, w ∈ lw_tbl := List.forall_mem_cons.mpr ⟨mw_515, List.forall_mem_append.mpr ⟨(List.forall_mem_cons.mpr ⟨mw_471, (fun _ h => absurd h List.not_mem_nil)⟩), List.forall_mem_append.mpr ⟨(List.forall_mem_cons.mpr ⟨mw_514, (List.forall_mem_cons.mpr ⟨mw_513, (List.forall_mem_cons.mpr ⟨mw_512, (List.forall_mem_cons.mpr ⟨mw_275, (fun _ h => absurd h List.not_mem_nil)⟩)⟩)⟩)⟩), in_wo_X9_join_f⟩⟩⟩
set_option maxRecDepth 20000 in
theorem in_wo_L_steps_f : ∀ w ∈ wo_L_steps_f, w ∈ lw_tbl := List.forall_mem_cons.mpr ⟨mw_519, List.forall_mem_append.mpr ⟨(List.forall_mem_cons.mpr ⟨mw_471, (fun _ h => absurd h List.not_mem_nil)⟩), List.forall_mem_append.mpr ⟨(List.forall_mem_cons.mpr ⟨mw_518, (List.forall_mem_cons.mpr ⟨mw_517, (List.forall_mem_cons.mpr ⟨mw_516, (List.forall_mem_cons.mpr ⟨mw_275, (fun _ h => absurd h List.not_mem_nil)⟩)⟩)⟩)⟩), in_wo_X9_steps_f⟩⟩⟩
set_option maxRecDepth 20000 in
theorem in_wo_L_step_f : ∀ w ∈ wo_L_step_f, w ∈ lw_tbl := List.forall_mem_cons.mpr ⟨mw_523, List.forall_mem_append.mpr ⟨(List.forall_mem_cons.mpr ⟨mw_471, (fun _ h => absurd h List.not_mem_nil)⟩), List.forall_mem_append.mpr ⟨(List.forall_mem_cons.mpr ⟨mw_522, (List.forall_mem_cons.mpr ⟨mw_521, (List.forall_mem_cons.mpr ⟨mw_520, (List.forall_mem_cons.mpr ⟨mw_275, (fun _ h => absurd h List.not_mem_nil)⟩)⟩)⟩)⟩), in_wo_X9_step_f⟩⟩⟩
set_option maxRecDepth 20000 in
theorem in_wo_L_stepAt_f : ∀ w ∈ wo_L_stepAt_f, w ∈ lw_tbl := List.forall_mem_cons.mpr ⟨mw_527, List.forall_mem_append.mpr ⟨(List.forall_mem_cons.mpr ⟨mw_471, (fun _ h => absurd h List.not_mem_nil)⟩), List.forall_mem_append.mpr ⟨(List.forall_mem_cons.mpr ⟨mw_526, (List.forall_mem_cons.mpr ⟨mw_525, (List.forall_mem_cons.mpr ⟨mw_524, (List.forall_mem_cons.mpr ⟨mw_275, (fun _ h => absurd h List.not_mem_nil)⟩)⟩)⟩)⟩), in_wo_X9_stepAt_f⟩⟩⟩
set_option maxRecDepth 20000 in
theorem in_wo_L_atTop_f : ∀ w ∈ wo_L_atTop_f, w ∈ lw_tbl := List.forall_mem_cons.mpr ⟨mw_531, List.forall_mem_append.mpr ⟨(List.forall_mem_cons.mpr ⟨mw_471, (fun _ h => absurd h List.not_mem_nil)⟩), List.forall_mem_append.mpr ⟨(List.forall_mem_cons.mpr ⟨mw_530, (List.forall_mem_cons.mpr ⟨mw_529, (List.forall_mem_cons.mpr ⟨mw_528, (List.forall_mem_cons.mpr ⟨mw_275, (fun _ h => absurd h List.not_mem_nil)⟩)⟩)⟩)⟩), in_wo_X9_atTop_f⟩⟩⟩
set_option maxRecDepth 20000 in
theorem in_wo_L_walk_f : ∀ w ∈ wo_L_walk_f, w ∈ lw_tbl := List.forall_mem_cons.mpr ⟨mw_535, List.forall_mem_append.mpr ⟨(List.forall_mem_cons.mpr ⟨mw_471, (fun _ h => absurd h List.not_mem_nil)⟩), List.forall_mem_append.mpr ⟨(List.forall_mem_cons.mpr ⟨mw_534, (List.forall_mem_cons.mpr ⟨mw_533, (List.forall_mem_cons.mpr ⟨mw_532, (List.forall_mem_cons.mpr ⟨mw_275, (fun _ h => absurd h List.not_mem_nil)⟩)⟩)⟩)⟩), in_wo_X9_walk_f⟩⟩⟩
set_option maxRecDepth 20000 in
theorem in_wo_L_reach_f : ∀ w ∈ wo_L_reach_f, w ∈ lw_tbl := List.forall_mem_cons.mpr ⟨mw_539, List.forall_mem_append.mpr ⟨(List.forall_mem_cons.mpr ⟨mw_471, (fun _ h => absurd h List.not_mem_nil)⟩), List.forall_mem_append.mpr ⟨(List.forall_mem_cons.mpr ⟨mw_538, (List.forall_mem_cons.mpr ⟨mw_537, (List.forall_mem_cons.mpr ⟨mw_536, (List.forall_mem_cons.mpr ⟨mw_275, (fun _ h => absurd h List.not_mem_nil)⟩)⟩)⟩)⟩), in_wo_X9_reach_f⟩⟩⟩
set_option maxRecDepth 20000 in
theorem in_wo_L_reached_f : ∀ w ∈ wo_L_reached_f, w ∈ lw_tbl := List.forall_mem_cons.mpr ⟨mw_543, List.forall_mem_append.mpr ⟨(List.forall_mem_cons.mpr ⟨mw_471, (fun _ h => absurd h List.not_mem_nil)⟩), List.forall_mem_append.mpr ⟨(List.forall_mem_cons.mpr ⟨mw_542, (List.forall_mem_cons.mpr ⟨mw_541, (List.forall_mem_cons.mpr ⟨mw_540, (List.forall_mem_cons.mpr ⟨mw_275, (fun _ h => absurd h List.not_mem_nil)⟩)⟩)⟩)⟩), in_wo_X9_reached_f⟩⟩⟩
set_option maxRecDepth 20000 in
theorem in_wo_L_meet_f : ∀ w ∈ wo_L_meet_f, w ∈ lw_tbl := List.forall_mem_cons.mpr ⟨mw_547, List.forall_mem_append.mpr ⟨(List.forall_mem_cons.mpr ⟨mw_471, (fun _ h => absurd h List.not_mem_nil)⟩), List.forall_mem_append.mpr ⟨(List.forall_mem_cons.mpr ⟨mw_546, (List.forall_mem_cons.mpr ⟨mw_545, (List.forall_mem_cons.mpr ⟨mw_544, (List.forall_mem_cons.mpr ⟨mw_275, (fun _ h => absurd h List.not_mem_nil)⟩)⟩)⟩)⟩), in_wo_X9_meet_f⟩⟩⟩
set_option maxRecDepth 20000 in
theorem in_wo_L_keep_f : ∀ w ∈ wo_L_keep_f, w ∈ lw_tbl := List.forall_mem_cons.mpr ⟨mw_552, List.forall_mem_append.mpr ⟨(List.forall_mem_cons.mpr ⟨mw_548, (fun _ h => absurd h List.not_mem_nil)⟩), List.forall_mem_append.mpr ⟨(List.forall_mem_cons.mpr ⟨mw_551, (List.forall_mem_cons.mpr ⟨mw_550, (List.forall_mem_cons.mpr ⟨mw_549, (List.forall_mem_cons.mpr ⟨mw_275, (fun _ h => absurd h List.not_mem_nil)⟩)⟩)⟩)⟩), in_wo_X9_keep_f⟩⟩⟩
