set_option maxRecDepth 20000 in
theorem ggX9_init_X3_init : GoodIn wsX9_init wsX3_init := goodIn_r _ [49, 50, 2, 3, 44, 51, 155, 156, 157, 158, 159, 160, 161] rfl (by decide +kernel)
set_option maxRecDepth 20000 in
theorem gX9_init_X3_init_n9 : GoodIn wsX9_init (wsX3_init) := ggX9_init_X3_init
set_option maxRecDepth 20000 in
theorem ggX9_init_X5_init : GoodIn wsX9_init wsX5_init := goodIn_r _ [53, 54, 2, 3, 44, 55, 56, 57, 58, 59, 178, 179, 180, 181, 182, 183, 184, 185] rfl (by decide +kernel)
set_option maxRecDepth 20000 in
theorem gX9_init_X5_init_n18 : GoodIn wsX9_init (wsX5_init) := ggX9_init_X5_init
set_option maxRecDepth 20000 in
theorem ggX9_init_X8_init : GoodIn wsX9_init wsX8_init := goodIn_r _ [62, 63, 2, 3, 44, 64, 65, 66, 67, 68, 69, 70, 71, 72, 73, 74, 75, 76, 186, 187, 188, 189, 190, 191, 192, 193, 194, 195, 196, 197, 198, 199, 200, 201, 202, 203, 204] rfl (by decide +kernel)
set_option maxRecDepth 20000 in
theorem gX9_init_X8_init : GoodIn wsX9_init (wsX8_init) := ggX9_init_X8_init
set_option maxRecDepth 20000 in
theorem ggX9_init_X1_init : GoodIn wsX9_init wsX1_init := goodIn_r _ [79, 80, 2, 3, 44, 81, 82, 83, 84, 85, 86, 205, 206, 207, 208, 209, 210, 211, 212] rfl (by decide +kernel)
set_option maxRecDepth 20000 in
theorem gX9_init_X1_init : GoodIn wsX9_init (wsX1_init) := ggX9_init_X1_init
set_option maxRecDepth 20000 in
theorem ggX9_init_X2_init : GoodIn wsX9_init wsX2_init := goodIn_r _ [89, 90, 2, 3, 91, 92, 93, 94, 95, 96, 97, 44, 98, 99, 100, 213, 214, 215, 216] rfl (by decide +kernel)
set_option maxRecDepth 20000 in
theorem gX9_init_X2_init : GoodIn wsX9_init (wsX2_init) := ggX9_init_X2_init
set_option maxRecDepth 20000 in
theorem ggX9_init_X4_init : GoodIn wsX9_init wsX4_init := goodIn_r _ [103, 104, 2, 3, 105, 22, 23, 106, 44, 107, 108, 109, 110, 88, 89, 90, 91, 92, 93, 94, 95, 96, 97, 98, 99, 100, 213, 214, 215, 216, 217, 218, 219, 220, 221] rfl (by decide +kernel)
set_option maxRecDepth 20000 in
theorem gX9_init_X4_init : GoodIn wsX9_init (wsX4_init) := ggX9_init_X4_init
set_option maxRecDepth 20000 in
theorem ggX9_init_X0_init : GoodIn wsX9_init wsX0_init := goodIn_r _ [113, 114, 2, 3, 44, 115, 116, 117, 118, 119, 120, 121, 122, 123, 124, 125, 126, 127, 128, 222, 223, 224, 225, 226, 227, 228, 229, 230, 231, 232, 233, 234, 235, 236, 237, 238, 239, 240, 241] rfl (by decide +kernel)
set_option maxRecDepth 20000 in
theorem gX9_init_X0_init : GoodIn wsX9_init (wsX0_init) := ggX9_init_X0_init
set_option maxRecDepth 20000 in
theorem ggX9_init_X7_init : GoodIn wsX9_init wsX7_init := goodIn_r _ [131, 132, 2, 3, 133, 22, 23, 134, 44, 135, 136, 137, 138, 139, 140, 141, 142, 143, 144, 145, 146, 88, 89, 90, 91, 92, 93, 94, 95, 96, 97, 98, 99, 100, 213, 214, 215, 216, 242, 243, 244, 245, 246, 247, 248, 249, 250, 251, 252, 253, 254, 255, 256, 257] rfl (by decide +kernel)
set_option maxRecDepth 20000 in
theorem gX9_init_X7_init : GoodIn wsX9_init (wsX7_init) := ggX9_init_X7_init
set_option maxRecDepth 20000 in
theorem ggX9_init_X6_init : GoodIn wsX9_init wsX6_init := goodIn_r _ [149, 150, 2, 3, 151, 22, 23, 152, 153, 154, 88, 89, 90, 91, 92, 93, 94, 95, 96, 97, 44, 98, 99, 100, 213, 214, 215, 216, 258, 259, 260, 261] rfl (by decide +kernel)
set_option maxRecDepth 20000 in
theorem gX9_init_X6_init : GoodIn wsX9_init (wsX6_init) := ggX9_init_X6_init
theorem dX9_init_0 : decode cX9_init 0 = .ok (.aload_n 0, 1) := by decide +kernel
theorem dX9_init_1 : decode cX9_init 1 = .ok (.invokespecial 1, 3) := by decide +kernel
theorem dX9_init_4 : decode cX9_init 4 = .ok (.aload_n 0, 1) := by decide +kernel
theorem dX9_init_5 : decode cX9_init 5 = .ok (.new 7, 3) := by decide +kernel
theorem dX9_init_8 : decode cX9_init 8 = .ok (.dup, 1) := by decide +kernel
theorem dX9_init_9 : decode cX9_init 9 = .ok (.invokespecial 9, 3) := by decide +kernel
theorem dX9_init_12 : decode cX9_init 12 = .ok (.putfield 10, 3) := by decide +kernel
theorem dX9_init_15 : decode cX9_init 15 = .ok (.aload_n 0, 1) := by decide +kernel
theorem dX9_init_16 : decode cX9_init 16 = .ok (.new 16, 3) := by decide +kernel
theorem dX9_init_19 : decode cX9_init 19 = .ok (.dup, 1) := by decide +kernel
theorem dX9_init_20 : decode cX9_init 20 = .ok (.invokespecial 18, 3) := by decide +kernel
theorem dX9_init_23 : decode cX9_init 23 = .ok (.putfield 19, 3) := by decide +kernel
theorem dX9_init_26 : decode cX9_init 26 = .ok (.aload_n 0, 1) := by decide +kernel
theorem dX9_init_27 : decode cX9_init 27 = .ok (.new 16, 3) := by decide +kernel
theorem dX9_init_30 : decode cX9_init 30 = .ok (.dup, 1) := by decide +kernel
theorem dX9_init_31 : decode cX9_init 31 = .ok (.invokespecial 18, 3) := by decide +kernel
theorem dX9_init_34 : decode cX9_init 34 = .ok (.putfield 23, 3) := by decide +kernel
theorem dX9_init_37 : decode cX9_init 37 = .ok (.aload_n 0, 1) := by decide +kernel
theorem dX9_init_38 : decode cX9_init 38 = .ok (.new 26, 3) := by decide +kernel
theorem dX9_init_41 : decode cX9_init 41 = .ok (.dup, 1) := by decide +kernel
theorem dX9_init_42 : decode cX9_init 42 = .ok (.aload_n 0, 1) := by decide +kernel
theorem dX9_init_43 : decode cX9_init 43 = .ok (.getfield 19, 3) := by decide +kernel
theorem dX9_init_46 : decode cX9_init 46 = .ok (.invokespecial 28, 3) := by decide +kernel
theorem dX9_init_49 : decode cX9_init 49 = .ok (.putfield 31, 3) := by decide +kernel
theorem dX9_init_52 : decode cX9_init 52 = .ok (.aload_n 0, 1) := by decide +kernel
theorem dX9_init_53 : decode cX9_init 53 = .ok (.new 35, 3) := by decide +kernel
theorem dX9_init_56 : decode cX9_init 56 = .ok (.dup, 1) := by decide +kernel
theorem dX9_init_57 : decode cX9_init 57 = .ok (.aload_n 0, 1) := by decide +kernel
theorem dX9_init_58 : decode cX9_init 58 = .ok (.getfield 10, 3) := by decide +kernel
theorem dX9_init_61 : decode cX9_init 61 = .ok (.aload_n 0, 1) := by decide +kernel
theorem dX9_init_62 : decode cX9_init 62 = .ok (.getfield 19, 3) := by decide +kernel
theorem dX9_init_65 : decode cX9_init 65 = .ok (.aload_n 0, 1) := by decide +kernel
theorem dX9_init_66 : decode cX9_init 66 = .ok (.getfield 31, 3) := by decide +kernel
theorem dX9_init_69 : decode cX9_init 69 = .ok (.invokespecial 37, 3) := by decide +kernel
theorem dX9_init_72 : decode cX9_init 72 = .ok (.putfield 40, 3) := by decide +kernel
theorem dX9_init_75 : decode cX9_init 75 = .ok (.aload_n 0, 1) := by decide +kernel
theorem dX9_init_76 : decode cX9_init 76 = .ok (.new 44, 3) := by decide +kernel
theorem dX9_init_79 : decode cX9_init 79 = .ok (.dup, 1) := by decide +kernel
theorem dX9_init_80 : decode cX9_init 80 = .ok (.bipush 30, 2) := by decide +kernel
theorem dX9_init_82 : decode cX9_init 82 = .ok (.invokespecial 46, 3) := by decide +kernel
theorem dX9_init_85 : decode cX9_init 85 = .ok (.putfield 49, 3) := by decide +kernel
theorem dX9_init_88 : decode cX9_init 88 = .ok (.aload_n 0, 1) := by decide +kernel
theorem dX9_init_89 : decode cX9_init 89 = .ok (.new 44, 3) := by decide +kernel
theorem dX9_init_92 : decode cX9_init 92 = .ok (.dup, 1) := by decide +kernel
theorem dX9_init_93 : decode cX9_init 93 = .ok (.bipush 16, 2) := by decide +kernel
theorem dX9_init_95 : decode cX9_init 95 = .ok (.invokespecial 46, 3) := by decide +kernel
theorem dX9_init_98 : decode cX9_init 98 = .ok (.putfield 53, 3) := by decide +kernel
theorem dX9_init_101 : decode cX9_init 101 = .ok (.aload_n 0, 1) := by decide +kernel
theorem dX9_init_102 : decode cX9_init 102 = .ok (.new 44, 3) := by decide +kernel
theorem dX9_init_105 : decode cX9_init 105 = .ok (.dup, 1) := by decide +kernel
theorem dX9_init_106 : decode cX9_init 106 = .ok (.iconst 1, 1) := by decide +kernel
theorem dX9_init_107 : decode cX9_init 107 = .ok (.invokespecial 46, 3) := by decide +kernel
theorem dX9_init_110 : decode cX9_init 110 = .ok (.putfield 56, 3) := by decide +kernel
theorem dX9_init_113 : decode cX9_init 113 = .ok (.aload_n 0, 1) := by decide +kernel
theorem dX9_init_114 : decode cX9_init 114 = .ok (.new 59, 3) := by decide +kernel
theorem dX9_init_117 : decode cX9_init 117 = .ok (.dup, 1) := by decide +kernel
theorem dX9_init_118 : decode cX9_init 118 = .ok (.aload_n 0, 1) := by decide +kernel
theorem dX9_init_119 : decode cX9_init 119 = .ok (.getfield 19, 3) := by decide +kernel
theorem dX9_init_122 : decode cX9_init 122 = .ok (.invokespecial 61, 3) := by decide +kernel
theorem dX9_init_125 : decode cX9_init 125 = .ok (.putfield 62, 3) := by decide +kernel
theorem dX9_init_128 : decode cX9_init 128 = .ok (.aload_n 0, 1) := by decide +kernel
theorem dX9_init_129 : decode cX9_init 129 = .ok (.new 66, 3) := by decide +kernel
theorem dX9_init_132 : decode cX9_init 132 = .ok (.dup, 1) := by decide +kernel
theorem dX9_init_133 : decode cX9_init 133 = .ok (.aload_n 0, 1) := by decide +kernel
theorem dX9_init_134 : decode cX9_init 134 = .ok (.getfield 31, 3) := by decide +kernel
theorem dX9_init_137 : decode cX9_init 137 = .ok (.invokespecial 68, 3) := by decide +kernel
theorem dX9_init_140 : decode cX9_init 140 = .ok (.putfield 71, 3) := by decide +kernel
theorem dX9_init_143 : decode cX9_init 143 = .ok (.aload_n 0, 1) := by decide +kernel
theorem dX9_init_144 : decode cX9_init 144 = .ok (.new 75, 3) := by decide +kernel
theorem dX9_init_147 : decode cX9_init 147 = .ok (.dup, 1) := by decide +kernel
theorem dX9_init_148 : decode cX9_init 148 = .ok (.aload_n 0, 1) := by decide +kernel
theorem dX9_init_149 : decode cX9_init 149 = .ok (.getfield 31, 3) := by decide +kernel
theorem dX9_init_152 : decode cX9_init 152 = .ok (.aload_n 0, 1) := by decide +kernel
theorem dX9_init_153 : decode cX9_init 153 = .ok (.getfield 71, 3) := by decide +kernel
theorem dX9_init_156 : decode cX9_init 156 = .ok (.invokespecial 77, 3) := by decide +kernel
theorem dX9_init_159 : decode cX9_init 159 = .ok (.putfield 80, 3) := by decide +kernel
theorem dX9_init_162 : decode cX9_init 162 = .ok (.aload_n 0, 1) := by decide +kernel
theorem dX9_init_163 : decode cX9_init 163 = .ok (.new 84, 3) := by decide +kernel
theorem dX9_init_166 : decode cX9_init 166 = .ok (.dup, 1) := by decide +kernel
theorem dX9_init_167 : decode cX9_init 167 = .ok (.aload_n 0, 1) := by decide +kernel
theorem dX9_init_168 : decode cX9_init 168 = .ok (.getfield 80, 3) := by decide +kernel
theorem dX9_init_171 : decode cX9_init 171 = .ok (.invokespecial 86, 3) := by decide +kernel
theorem dX9_init_174 : decode cX9_init 174 = .ok (.putfield 89, 3) := by decide +kernel
theorem dX9_init_177 : decode cX9_init 177 = .ok (.aload_n 0, 1) := by decide +kernel
theorem dX9_init_178 : decode cX9_init 178 = .ok (.new 84, 3) := by decide +kernel
theorem dX9_init_181 : decode cX9_init 181 = .ok (.dup, 1) := by decide +kernel
theorem dX9_init_182 : decode cX9_init 182 = .ok (.aload_n 0, 1) := by decide +kernel
theorem dX9_init_183 : decode cX9_init 183 = .ok (.getfield 80, 3) := by decide +kernel
theorem dX9_init_186 : decode cX9_init 186 = .ok (.invokespecial 86, 3) := by decide +kernel
theorem dX9_init_189 : decode cX9_init 189 = .ok (.putfield 93, 3) := by decide +kernel
theorem dX9_init_192 : decode cX9_init 192 = .ok (.aload_n 0, 1) := by decide +kernel
theorem dX9_init_193 : decode cX9_init 193 = .ok (.iconst 5, 1) := by decide +kernel
theorem dX9_init_194 : decode cX9_init 194 = .ok (.newarray .int, 2) := by decide +kernel
theorem dX9_init_196 : decode cX9_init 196 = .ok (.putfield 96, 3) := by decide +kernel
theorem dX9_init_199 : decode cX9_init 199 = .ok (.aload_n 0, 1) := by decide +kernel
theorem dX9_init_200 : decode cX9_init 200 = .ok (.iconst 0, 1) := by decide +kernel
theorem dX9_init_201 : decode cX9_init 201 = .ok (.putfield 100, 3) := by decide +kernel
theorem dX9_init_204 : decode cX9_init 204 = .ok (.aload_n 0, 1) := by decide +kernel
theorem dX9_init_205 : decode cX9_init 205 = .ok (.iconst (-1), 1) := by decide +kernel
theorem dX9_init_206 : decode cX9_init 206 = .ok (.putfield 104, 3) := by decide +kernel
theorem dX9_init_209 : decode cX9_init 209 = .ok (.return_, 1) := by decide +kernel
set_option maxRecDepth 20000 in
theorem ggX9_feed_X3_append : GoodIn wsX9_feed wsX3_append := goodIn_r _ [6, 7, 8, 9, 10, 5, 11, 12, 29, 30, 31, 32, 33, 34, 35] rfl (by decide +kernel)
set_option maxRecDepth 20000 in
theorem gX9_feed_X3_append : GoodIn wsX9_feed (wsV RX9 107 RX3 yX3_append wsX3_append) := goodIn_app (goodIn_of _ (by decide +kernel)) ggX9_feed_X3_append
theorem dX9_feed_0 : decode cX9_feed 0 = .ok (.aload_n 0, 1) := by decide +kernel
theorem dX9_feed_1 : decode cX9_feed 1 = .ok (.getfield 10, 3) := by decide +kernel
theorem dX9_feed_4 : decode cX9_feed 4 = .ok (.iload_n 1, 1) := by decide +kernel
theorem dX9_feed_5 : decode cX9_feed 5 = .ok (.iload_n 2, 1) := by decide +kernel
theorem dX9_feed_6 : decode cX9_feed 6 = .ok (.iload_n 3, 1) := by decide +kernel
theorem dX9_feed_7 : decode cX9_feed 7 = .ok (.iload 4, 2) := by decide +kernel
theorem dX9_feed_9 : decode cX9_feed 9 = .ok (.iload 5, 2) := by decide +kernel
theorem dX9_feed_11 : decode cX9_feed 11 = .ok (.invokevirtual 107, 3) := by decide +kernel
theorem dX9_feed_14 : decode cX9_feed 14 = .ok (.ireturn, 1) := by decide +kernel
set_option maxRecDepth 20000 in
theorem ggX9_end_X3_cut : GoodIn wsX9_end wsX3_cut := goodIn_r _ [6, 7, 24, 25, 26, 27, 28, 29, 30] rfl (by decide +kernel)
set_option maxRecDepth 20000 in
theorem gX9_end_X3_cut : GoodIn wsX9_end (wsV RX9 111 RX3 yX3_cut wsX3_cut) := goodIn_app (goodIn_of _ (by decide +kernel)) ggX9_end_X3_cut
theorem dX9_end_0 : decode cX9_end 0 = .ok (.aload_n 0, 1) := by decide +kernel
theorem dX9_end_1 : decode cX9_end 1 = .ok (.getfield 10, 3) := by decide +kernel
theorem dX9_end_4 : decode cX9_end 4 = .ok (.iload_n 1, 1) := by decide +kernel
theorem dX9_end_5 : decode cX9_end 5 = .ok (.invokevirtual 111, 3) := by decide +kernel
theorem dX9_end_8 : decode cX9_end 8 = .ok (.ireturn, 1) := by decide +kernel
set_option maxRecDepth 20000 in
theorem ggX9_signature_X3_open : GoodIn wsX9_signature wsX3_open := goodIn_r _ [15, 16, 17, 18, 19, 20, 21, 14, 22, 23, 24, 25, 26, 27, 28, 29, 30, 31, 32, 33, 34, 35, 36, 37, 38, 39, 40, 41, 42, 43, 44, 45, 46, 47, 142, 143, 144, 145, 146, 147, 148] rfl (by decide +kernel)
set_option maxRecDepth 20000 in
theorem gX9_signature_X3_open : GoodIn wsX9_signature (wsV RX9 115 RX3 yX3_open wsX3_open) := goodIn_app (goodIn_of _ (by decide +kernel)) ggX9_signature_X3_open
set_option maxRecDepth 20000 in
theorem ggX9_signature_X5_read : GoodIn wsX9_signature wsX5_read := goodIn_r _ [52, 53, 54, 55, 56, 57, 58, 51, 59, 60, 61, 20, 21, 14, 22, 18, 23, 24, 25, 26, 27, 28, 29, 17, 30, 31, 32, 33, 34, 35, 36, 37, 38, 39, 40, 41, 42, 43, 44, 45, 46, 47, 62, 63, 64, 65, 66, 67, 68, 69, 70, 71, 72, 73, 74, 75, 76, 77, 78, 79, 80, 81, 82, 83, 84, 85, 86, 87, 88, 89, 90, 91, 92, 93, 94, 95, 96, 97, 98, 99, 100, 101, 102, 103, 149, 150, 151, 152, 153, 154, 155, 156, 142, 143, 144, 145, 146, 147, 148] rfl (by decide +kernel)
set_option maxRecDepth 20000 in
theorem gX9_signature_X5_read : GoodIn wsX9_signature (wsV RX9 118 RX5 yX5_read wsX5_read) := goodIn_app (goodIn_of _ (by decide +kernel)) ggX9_signature_X5_read
set_option maxRecDepth 20000 in
theorem ggX9_signature_X5_takeOver : GoodIn wsX9_signature wsX5_takeOver := goodIn_r _ [107, 71, 108, 109, 110, 111, 89, 90, 91, 76, 53, 54, 55, 149, 150, 151, 152, 153, 154, 155, 156] rfl (by decide +kernel)
set_option maxRecDepth 20000 in
theorem gX9_signature_X5_takeOver : GoodIn wsX9_signature (wsV RX9 132 RX5 yX5_takeOver wsX5_takeOver) := goodIn_app (goodIn_of _ (by decide +kernel)) ggX9_signature_X5_takeOver
set_option maxRecDepth 20000 in
theorem ggX9_signature_X2_clear : GoodIn wsX9_signature wsX2_clear := goodIn_r _ [116, 117, 157, 158, 159, 160] rfl (by decide +kernel)
set_option maxRecDepth 20000 in
theorem gX9_signature_X2_clear : GoodIn wsX9_signature (wsV RX9 135 RX2 yX2_clear wsX2_clear) := goodIn_app (goodIn_of _ (by decide +kernel)) ggX9_signature_X2_clear
set_option maxRecDepth 20000 in
theorem ggX9_signature_X4_clear : GoodIn wsX9_signature wsX4_clear := goodIn_r _ [122, 123, 124, 125, 113, 114, 115, 116, 117, 161, 162, 163, 164, 165, 157, 158, 159, 160] rfl (by decide +kernel)
set_option maxRecDepth 20000 in
theorem gX9_signature_X4_clear : GoodIn wsX9_signature (wsV RX9 138 RX4 yX4_clear wsX4_clear) := goodIn_app (goodIn_of _ (by decide +kernel)) ggX9_signature_X4_clear
theorem dX9_signature_0 : decode cX9_signature 0 = .ok (.aload_n 0, 1) := by decide +kernel
theorem dX9_signature_1 : decode cX9_signature 1 = .ok (.getfield 10, 3) := by decide +kernel
theorem dX9_signature_4 : decode cX9_signature 4 = .ok (.invokevirtual 115, 3) := by decide +kernel
theorem dX9_signature_7 : decode cX9_signature 7 = .ok (.aload_n 0, 1) := by decide +kernel
theorem dX9_signature_8 : decode cX9_signature 8 = .ok (.getfield 23, 3) := by decide +kernel
theorem dX9_signature_11 : decode cX9_signature 11 = .ok (.aload_n 0, 1) := by decide +kernel
theorem dX9_signature_12 : decode cX9_signature 12 = .ok (.getfield 10, 3) := by decide +kernel
theorem dX9_signature_15 : decode cX9_signature 15 = .ok (.invokevirtual 118, 3) := by decide +kernel
theorem dX9_signature_18 : decode cX9_signature 18 = .ok (.ifCond .ne 24, 3) := by decide +kernel
theorem dX9_signature_21 : decode cX9_signature 21 = .ok (.aload_n 0, 1) := by decide +kernel
theorem dX9_signature_22 : decode cX9_signature 22 = .ok (.aload_n 0, 1) := by decide +kernel
theorem dX9_signature_23 : decode cX9_signature 23 = .ok (.getfield 10, 3) := by decide +kernel
theorem dX9_signature_26 : decode cX9_signature 26 = .ok (.getfield 122, 3) := by decide +kernel
theorem dX9_signature_29 : decode cX9_signature 29 = .ok (.putfield 104, 3) := by decide +kernel
theorem dX9_signature_32 : decode cX9_signature 32 = .ok (.new 125, 3) := by decide +kernel
theorem dX9_signature_35 : decode cX9_signature 35 = .ok (.dup, 1) := by decide +kernel
theorem dX9_signature_36 : decode cX9_signature 36 = .ok (.ldc 127, 2) := by decide +kernel
theorem dX9_signature_38 : decode cX9_signature 38 = .ok (.invokespecial 129, 3) := by decide +kernel
theorem dX9_signature_41 : decode cX9_signature 41 = .ok (.athrow, 1) := by decide +kernel
theorem dX9_signature_42 : decode cX9_signature 42 = .ok (.aload_n 0, 1) := by decide +kernel
theorem dX9_signature_43 : decode cX9_signature 43 = .ok (.iconst (-1), 1) := by decide +kernel
theorem dX9_signature_44 : decode cX9_signature 44 = .ok (.putfield 104, 3) := by decide +kernel
theorem dX9_signature_47 : decode cX9_signature 47 = .ok (.aload_n 0, 1) := by decide +kernel
theorem dX9_signature_48 : decode cX9_signature 48 = .ok (.getfield 19, 3) := by decide +kernel
theorem dX9_signature_51 : decode cX9_signature 51 = .ok (.aload_n 0, 1) := by decide +kernel
theorem dX9_signature_52 : decode cX9_signature 52 = .ok (.getfield 23, 3) := by decide +kernel
theorem dX9_signature_55 : decode cX9_signature 55 = .ok (.invokevirtual 132, 3) := by decide +kernel
theorem dX9_signature_58 : decode cX9_signature 58 = .ok (.aload_n 0, 1) := by decide +kernel
theorem dX9_signature_59 : decode cX9_signature 59 = .ok (.getfield 49, 3) := by decide +kernel
theorem dX9_signature_62 : decode cX9_signature 62 = .ok (.invokevirtual 135, 3) := by decide +kernel
theorem dX9_signature_65 : decode cX9_signature 65 = .ok (.aload_n 0, 1) := by decide +kernel
theorem dX9_signature_66 : decode cX9_signature 66 = .ok (.getfield 53, 3) := by decide +kernel
theorem dX9_signature_69 : decode cX9_signature 69 = .ok (.invokevirtual 135, 3) := by decide +kernel
theorem dX9_signature_72 : decode cX9_signature 72 = .ok (.aload_n 0, 1) := by decide +kernel
theorem dX9_signature_73 : decode cX9_signature 73 = .ok (.getfield 62, 3) := by decide +kernel
theorem dX9_signature_76 : decode cX9_signature 76 = .ok (.invokevirtual 138, 3) := by decide +kernel
theorem dX9_signature_79 : decode cX9_signature 79 = .ok (.aload_n 0, 1) := by decide +kernel
theorem dX9_signature_80 : decode cX9_signature 80 = .ok (.iconst 0, 1) := by decide +kernel
theorem dX9_signature_81 : decode cX9_signature 81 = .ok (.putfield 100, 3) := by decide +kernel
theorem dX9_signature_84 : decode cX9_signature 84 = .ok (.aload_n 0, 1) := by decide +kernel
theorem dX9_signature_85 : decode cX9_signature 85 = .ok (.getfield 19, 3) := by decide +kernel
theorem dX9_signature_88 : decode cX9_signature 88 = .ok (.getfield 139, 3) := by decide +kernel
theorem dX9_signature_91 : decode cX9_signature 91 = .ok (.ireturn, 1) := by decide +kernel
set_option maxRecDepth 20000 in
theorem ggX9_term_X3_open : GoodIn wsX9_term wsX3_open := goodIn_r _ [11, 12, 13, 14, 15, 16, 17, 10, 18, 19, 20, 21, 22, 23, 24, 25, 26, 27, 28, 29, 30, 31, 32, 33, 34, 35, 36, 37, 38, 39, 40, 41, 42, 43, 266, 267, 268, 269, 270, 271, 272] rfl (by decide +kernel)
set_option maxRecDepth 20000 in
theorem gX9_term_X3_open : GoodIn wsX9_term (wsV RX9 115 RX3 yX3_open wsX3_open) := goodIn_app (goodIn_of _ (by decide +kernel)) ggX9_term_X3_open
set_option maxRecDepth 20000 in
theorem ggX9_term_X8_clear : GoodIn wsX9_term wsX8_clear := goodIn_r _ [48, 49, 50, 51, 52, 47, 53, 54, 55, 56, 57, 58, 59, 60, 61, 62, 63, 64, 273, 274, 275, 276, 277, 278, 279, 280, 281, 282, 283, 284, 285, 286, 287, 288, 289, 290, 291] rfl (by decide +kernel)
set_option maxRecDepth 20000 in
theorem gX9_term_X8_clear : GoodIn wsX9_term (wsV RX9 142 RX8 yX8_clear wsX8_clear) := goodIn_app (goodIn_of _ (by decide +kernel)) ggX9_term_X8_clear
set_option maxRecDepth 20000 in
theorem ggX9_term_X1_read : GoodIn wsX9_term wsX1_read := goodIn_r _ [69, 70, 71, 72, 73, 74, 75, 68, 76, 77, 78, 79, 80, 81, 82, 83, 84, 85, 86, 87, 88, 89, 90, 91, 92, 93, 94, 95, 16, 17, 10, 18, 14, 19, 20, 21, 22, 23, 24, 25, 13, 26, 27, 28, 29, 30, 31, 32, 33, 34, 35, 36, 37, 38, 39, 40, 41, 42, 43, 96, 97, 98, 47, 99, 100, 101, 102, 103, 104, 54, 105, 106, 56, 107, 108, 57, 55, 109, 110, 111, 112, 113, 114, 115, 116, 117, 118, 119, 120, 121, 122, 123, 124, 125, 126, 127, 128, 129, 130, 131, 132, 133, 134, 135, 136, 137, 138, 139, 140, 141, 142, 143, 144, 145, 146, 147, 148, 149, 150, 151, 152, 153, 154, 155, 156, 157, 158, 159, 160, 161, 162, 163, 164, 165, 166, 167, 168, 169, 170, 171, 292, 293, 294, 295, 296, 297, 298, 299, 266, 267, 268, 269, 270, 271, 272, 300, 301, 302, 303, 304, 305, 306, 307, 273, 274, 275, 276, 277, 278, 279, 280, 281, 282, 283, 284, 285, 286, 287, 288, 289, 290, 291] rfl (by decide +kernel)
set_option maxRecDepth 20000 in
theorem gX9_term_X1_read : GoodIn wsX9_term (wsV RX9 143 RX1 yX1_read wsX1_read) := goodIn_app (goodIn_of _ (by decide +kernel)) ggX9_term_X1_read
set_option maxRecDepth 20000 in
theorem ggX9_term_X9_checkText : GoodIn wsX9_term wsX9_checkText := goodIn_ca (goodIn_r _ [175, 176, 177, 3, 178, 250, 251, 252, 253, 254, 255, 256, 257, 258, 259, 260, 261, 262, 263, 264, 265, 266, 267, 268, 269, 270, 271, 272] rfl (by decide +kernel)) (goodIn_sub (fun _ h => List.mem_cons_of_mem _ (List.mem_append_right _ h)) (by decide +kernel))
set_option maxRecDepth 20000 in
theorem gX9_term_X9_checkText : GoodIn wsX9_term (wsV RX9 149 RX9 yX9_checkText wsX9_checkText) := goodIn_app (goodIn_of _ (by decide +kernel)) ggX9_term_X9_checkText
set_option maxRecDepth 20000 in
theorem ggX9_term_X2_clear : GoodIn wsX9_term wsX2_clear := goodIn_r _ [183, 184, 308, 309, 310, 311] rfl (by decide +kernel)
set_option maxRecDepth 20000 in
theorem gX9_term_X2_clear : GoodIn wsX9_term (wsV RX9 135 RX2 yX2_clear wsX2_clear) := goodIn_app (goodIn_of _ (by decide +kernel)) ggX9_term_X2_clear
set_option maxRecDepth 20000 in
theorem ggX9_term_X8_write : GoodIn wsX9_term wsX8_write := goodIn_r _ [188, 49, 189, 190, 191, 182, 192, 184, 193, 194, 195, 196, 47, 197, 198, 199, 200, 201, 202, 203, 204, 205, 206, 54, 107, 207, 208, 209, 210, 211, 212, 122, 213, 214, 215, 216, 217, 108, 273, 274, 275, 276, 277, 278, 279, 280, 281, 282, 283, 284, 285, 286, 287, 288, 289, 290, 291, 308, 309, 310, 311] rfl (by decide +kernel)
set_option maxRecDepth 20000 in
theorem gX9_term_X8_write : GoodIn wsX9_term (wsV RX9 158 RX8 yX8_write wsX8_write) := goodIn_app (goodIn_of _ (by decide +kernel)) ggX9_term_X8_write
set_option maxRecDepth 20000 in
theorem ggX9_term_X9_tell : GoodIn wsX9_term wsX9_tell := goodIn_ca (goodIn_r _ [221, 1, 2, 222, 223, 224, 225, 182, 226, 184, 227, 228, 229, 230, 231, 232, 233, 234, 193, 235, 236, 237, 238, 211, 239, 165, 166, 167, 240, 241, 242, 243, 244, 245, 246, 247, 248, 190, 191, 192, 249, 208, 209, 210, 250, 251, 252, 253, 254, 255, 256, 257, 258, 259, 260, 261, 262, 263, 264, 265, 308, 309, 310, 311] rfl (by decide +kernel)) (goodIn_sub (fun _ h => List.mem_cons_of_mem _ (List.mem_append_left _ (List.mem_append_right _ h))) (by decide +kernel))
set_option maxRecDepth 20000 in
theorem gX9_term_X9_tell : GoodIn wsX9_term (wsV RX9 162 RX9 yX9_tell wsX9_tell) := goodIn_app (goodIn_of _ (by decide +kernel)) ggX9_term_X9_tell
theorem dX9_term_0 : decode cX9_term 0 = .ok (.aload_n 0, 1) := by decide +kernel
theorem dX9_term_1 : decode cX9_term 1 = .ok (.getfield 10, 3) := by decide +kernel
theorem dX9_term_4 : decode cX9_term 4 = .ok (.invokevirtual 115, 3) := by decide +kernel
theorem dX9_term_7 : decode cX9_term 7 = .ok (.aload_n 0, 1) := by decide +kernel
theorem dX9_term_8 : decode cX9_term 8 = .ok (.getfield 31, 3) := by decide +kernel
theorem dX9_term_11 : decode cX9_term 11 = .ok (.invokevirtual 142, 3) := by decide +kernel
theorem dX9_term_14 : decode cX9_term 14 = .ok (.aload_n 0, 1) := by decide +kernel
theorem dX9_term_15 : decode cX9_term 15 = .ok (.getfield 40, 3) := by decide +kernel
theorem dX9_term_18 : decode cX9_term 18 = .ok (.invokevirtual 143, 3) := by decide +kernel
theorem dX9_term_21 : decode cX9_term 21 = .ok (.istore_n 1, 1) := by decide +kernel
theorem dX9_term_22 : decode cX9_term 22 = .ok (.aload_n 0, 1) := by decide +kernel
theorem dX9_term_23 : decode cX9_term 23 = .ok (.iload_n 1, 1) := by decide +kernel
theorem dX9_term_24 : decode cX9_term 24 = .ok (.bipush (-2), 2) := by decide +kernel
theorem dX9_term_26 : decode cX9_term 26 = .ok (.if_icmp .eq 17, 3) := by decide +kernel
theorem dX9_term_29 : decode cX9_term 29 = .ok (.aload_n 0, 1) := by decide +kernel
theorem dX9_term_30 : decode cX9_term 30 = .ok (.getfield 10, 3) := by decide +kernel
theorem dX9_term_33 : decode cX9_term 33 = .ok (.getfield 146, 3) := by decide +kernel
theorem dX9_term_36 : decode cX9_term 36 = .ok (.ifCond .ne 7, 3) := by decide +kernel
theorem dX9_term_39 : decode cX9_term 39 = .ok (.iconst 1, 1) := by decide +kernel
theorem dX9_term_40 : decode cX9_term 40 = .ok (.goto 4, 3) := by decide +kernel
theorem dX9_term_43 : decode cX9_term 43 = .ok (.iconst 0, 1) := by decide +kernel
theorem dX9_term_44 : decode cX9_term 44 = .ok (.invokevirtual 149, 3) := by decide +kernel
theorem dX9_term_47 : decode cX9_term 47 = .ok (.iload_n 1, 1) := by decide +kernel
theorem dX9_term_48 : decode cX9_term 48 = .ok (.ifCond .ge 13, 3) := by decide +kernel
theorem dX9_term_51 : decode cX9_term 51 = .ok (.new 153, 3) := by decide +kernel
theorem dX9_term_54 : decode cX9_term 54 = .ok (.dup, 1) := by decide +kernel
theorem dX9_term_55 : decode cX9_term 55 = .ok (.ldc 155, 2) := by decide +kernel
theorem dX9_term_57 : decode cX9_term 57 = .ok (.invokespecial 157, 3) := by decide +kernel
theorem dX9_term_60 : decode cX9_term 60 = .ok (.athrow, 1) := by decide +kernel
theorem dX9_term_61 : decode cX9_term 61 = .ok (.aload_n 0, 1) := by decide +kernel
theorem dX9_term_62 : decode cX9_term 62 = .ok (.getfield 56, 3) := by decide +kernel
theorem dX9_term_65 : decode cX9_term 65 = .ok (.invokevirtual 135, 3) := by decide +kernel
theorem dX9_term_68 : decode cX9_term 68 = .ok (.aload_n 0, 1) := by decide +kernel
theorem dX9_term_69 : decode cX9_term 69 = .ok (.getfield 31, 3) := by decide +kernel
theorem dX9_term_72 : decode cX9_term 72 = .ok (.iload_n 1, 1) := by decide +kernel
theorem dX9_term_73 : decode cX9_term 73 = .ok (.aload_n 0, 1) := by decide +kernel
theorem dX9_term_74 : decode cX9_term 74 = .ok (.getfield 56, 3) := by decide +kernel
theorem dX9_term_77 : decode cX9_term 77 = .ok (.invokevirtual 158, 3) := by decide +kernel
theorem dX9_term_80 : decode cX9_term 80 = .ok (.aload_n 0, 1) := by decide +kernel
theorem dX9_term_81 : decode cX9_term 81 = .ok (.aload_n 0, 1) := by decide +kernel
theorem dX9_term_82 : decode cX9_term 82 = .ok (.getfield 56, 3) := by decide +kernel
theorem dX9_term_85 : decode cX9_term 85 = .ok (.invokevirtual 162, 3) := by decide +kernel
theorem dX9_term_88 : decode cX9_term 88 = .ok (.ireturn, 1) := by decide +kernel
set_option maxRecDepth 20000 in
theorem ggX9_rule_X3_open : GoodIn wsX9_rule wsX3_open := goodIn_r _ [12, 13, 14, 15, 16, 17, 18, 11, 19, 20, 21, 22, 23, 24, 25, 26, 27, 28, 29, 30, 31, 32, 33, 34, 35, 36, 37, 38, 39, 40, 41, 42, 43, 44, 241, 242, 243, 244, 245, 246, 247] rfl (by decide +kernel)
set_option maxRecDepth 20000 in
theorem gX9_rule_X3_open : GoodIn wsX9_rule (wsV RX9 115 RX3 yX3_open wsX3_open) := goodIn_app (goodIn_of _ (by decide +kernel)) ggX9_rule_X3_open
set_option maxRecDepth 20000 in
theorem ggX9_rule_X8_clear : GoodIn wsX9_rule wsX8_clear := goodIn_r _ [49, 50, 51, 52, 53, 48, 54, 55, 56, 57, 58, 59, 60, 61, 62, 63, 64, 65, 248, 249, 250, 251, 252, 253, 254, 255, 256, 257, 258, 259, 260, 261, 262, 263, 264, 265, 266] rfl (by decide +kernel)
set_option maxRecDepth 20000 in
theorem gX9_rule_X8_clear : GoodIn wsX9_rule (wsV RX9 142 RX8 yX8_clear wsX8_clear) := goodIn_app (goodIn_of _ (by decide +kernel)) ggX9_rule_X8_clear
set_option maxRecDepth 20000 in
theorem ggX9_rule_X1_read : GoodIn wsX9_rule wsX1_read := goodIn_r _ [70, 71, 72, 73, 74, 75, 76, 69, 77, 78, 79, 80, 81, 82, 83, 84, 85, 86, 87, 88, 89, 90, 91, 92, 93, 94, 95, 96, 17, 18, 11, 19, 15, 20, 21, 22, 23, 24, 25, 26, 14, 27, 28, 29, 30, 31, 32, 33, 34, 35, 36, 37, 38, 39, 40, 41, 42, 43, 44, 97, 98, 99, 48, 100, 101, 102, 103, 104, 105, 55, 106, 107, 57, 108, 109, 58, 56, 110, 111, 112, 113, 114, 115, 116, 117, 118, 119, 120, 121, 122, 123, 124, 125, 126, 127, 128, 129, 130, 131, 132, 133, 134, 135, 136, 137, 138, 139, 140, 141, 142, 143, 144, 145, 146, 147, 148, 149, 150, 151, 152, 153, 154, 155, 156, 157, 158, 159, 160, 161, 162, 163, 164, 165, 166, 167, 168, 169, 170, 171, 172, 267, 268, 269, 270, 271, 272, 273, 274, 241, 242, 243, 244, 245, 246, 247, 275, 276, 277, 278, 279, 280, 281, 282, 248, 249, 250, 251, 252, 253, 254, 255, 256, 257, 258, 259, 260, 261, 262, 263, 264, 265, 266] rfl (by decide +kernel)
set_option maxRecDepth 20000 in
theorem gX9_rule_X1_read : GoodIn wsX9_rule (wsV RX9 143 RX1 yX1_read wsX1_read) := goodIn_app (goodIn_of _ (by decide +kernel)) ggX9_rule_X1_read
set_option maxRecDepth 20000 in
theorem ggX9_rule_X9_checkText : GoodIn wsX9_rule wsX9_checkText := goodIn_ca (goodIn_r _ [176, 177, 178, 3, 179, 225, 226, 227, 228, 229, 230, 231, 232, 233, 234, 235, 236, 237, 238, 239, 240, 241, 242, 243, 244, 245, 246, 247] rfl (by decide +kernel)) (goodIn_sub (fun _ h => List.mem_cons_of_mem _ (List.mem_append_right _ h)) (by decide +kernel))
set_option maxRecDepth 20000 in
theorem gX9_rule_X9_checkText : GoodIn wsX9_rule (wsV RX9 149 RX9 yX9_checkText wsX9_checkText) := goodIn_app (goodIn_of _ (by decide +kernel)) ggX9_rule_X9_checkText
set_option maxRecDepth 20000 in
theorem ggX9_rule_X3_advance : GoodIn wsX9_rule wsX3_advance := goodIn_r _ [19, 15, 20, 21, 22, 23, 24, 25, 11, 26, 14, 27, 28, 29, 30, 31, 32, 33, 34, 35, 36, 37, 38, 39, 40, 41, 42, 43, 44, 241, 242, 243, 244, 245, 246, 247] rfl (by decide +kernel)
set_option maxRecDepth 20000 in
theorem gX9_rule_X3_advance : GoodIn wsX9_rule (wsV RX9 169 RX3 yX3_advance wsX3_advance) := goodIn_app (goodIn_of _ (by decide +kernel)) ggX9_rule_X3_advance
set_option maxRecDepth 20000 in
theorem ggX9_rule_X8_codeOf : GoodIn wsX9_rule wsX8_codeOf := goodIn_r _ [184, 55, 108, 248, 249, 250, 251, 252, 253, 254, 255, 256, 257, 258, 259, 260, 261, 262, 263, 264, 265, 266] rfl (by decide +kernel)
set_option maxRecDepth 20000 in
theorem gX9_rule_X8_codeOf : GoodIn wsX9_rule (wsV RX9 172 RX8 yX8_codeOf wsX8_codeOf) := goodIn_app (goodIn_of _ (by decide +kernel)) ggX9_rule_X8_codeOf
set_option maxRecDepth 20000 in
theorem ggX9_rule_X8_maskOf : GoodIn wsX9_rule wsX8_maskOf := goodIn_r _ [188, 55, 107, 248, 249, 250, 251, 252, 253, 254, 255, 256, 257, 258, 259, 260, 261, 262, 263, 264, 265, 266] rfl (by decide +kernel)
set_option maxRecDepth 20000 in
theorem gX9_rule_X8_maskOf : GoodIn wsX9_rule (wsV RX9 178 RX8 yX8_maskOf wsX8_maskOf) := goodIn_app (goodIn_of _ (by decide +kernel)) ggX9_rule_X8_maskOf
set_option maxRecDepth 20000 in
theorem ggX9_rule_X9_rules : GoodIn wsX9_rule wsX9_rules := goodIn_r _ [192, 6, 225, 226, 227, 228, 229, 230, 231, 232, 233, 234, 235, 236, 237, 238, 239, 240, 283, 284, 285, 286] rfl (by decide +kernel)
set_option maxRecDepth 20000 in
theorem gX9_rule_X9_rules : GoodIn wsX9_rule (wsV RX9 181 RX9 yX9_rules wsX9_rules) := goodIn_app (goodIn_of _ (by decide +kernel)) ggX9_rule_X9_rules
set_option maxRecDepth 20000 in
theorem ggX9_rule_X8_write : GoodIn wsX9_rule wsX8_write := goodIn_r _ [196, 50, 197, 198, 199, 200, 201, 202, 203, 204, 205, 206, 48, 207, 208, 209, 210, 211, 212, 213, 182, 183, 184, 55, 108, 214, 215, 216, 217, 218, 219, 123, 220, 221, 222, 223, 224, 109, 248, 249, 250, 251, 252, 253, 254, 255, 256, 257, 258, 259, 260, 261, 262, 263, 264, 265, 266, 283, 284, 285, 286] rfl (by decide +kernel)
set_option maxRecDepth 20000 in
theorem gX9_rule_X8_write : GoodIn wsX9_rule (wsV RX9 158 RX8 yX8_write wsX8_write) := goodIn_app (goodIn_of _ (by decide +kernel)) ggX9_rule_X8_write
theorem dX9_rule_0 : decode cX9_rule 0 = .ok (.aload_n 0, 1) := by decide +kernel
theorem dX9_rule_1 : decode cX9_rule 1 = .ok (.getfield 10, 3) := by decide +kernel
theorem dX9_rule_4 : decode cX9_rule 4 = .ok (.invokevirtual 115, 3) := by decide +kernel
theorem dX9_rule_7 : decode cX9_rule 7 = .ok (.aload_n 0, 1) := by decide +kernel
theorem dX9_rule_8 : decode cX9_rule 8 = .ok (.getfield 31, 3) := by decide +kernel
theorem dX9_rule_11 : decode cX9_rule 11 = .ok (.invokevirtual 142, 3) := by decide +kernel
theorem dX9_rule_14 : decode cX9_rule 14 = .ok (.aload_n 0, 1) := by decide +kernel
theorem dX9_rule_15 : decode cX9_rule 15 = .ok (.getfield 40, 3) := by decide +kernel
theorem dX9_rule_18 : decode cX9_rule 18 = .ok (.invokevirtual 143, 3) := by decide +kernel
theorem dX9_rule_21 : decode cX9_rule 21 = .ok (.istore_n 1, 1) := by decide +kernel
theorem dX9_rule_22 : decode cX9_rule 22 = .ok (.aload_n 0, 1) := by decide +kernel
theorem dX9_rule_23 : decode cX9_rule 23 = .ok (.iload_n 1, 1) := by decide +kernel
theorem dX9_rule_24 : decode cX9_rule 24 = .ok (.bipush (-2), 2) := by decide +kernel
theorem dX9_rule_26 : decode cX9_rule 26 = .ok (.if_icmp .eq 30, 3) := by decide +kernel
theorem dX9_rule_29 : decode cX9_rule 29 = .ok (.aload_n 0, 1) := by decide +kernel
theorem dX9_rule_30 : decode cX9_rule 30 = .ok (.getfield 10, 3) := by decide +kernel
theorem dX9_rule_33 : decode cX9_rule 33 = .ok (.getfield 146, 3) := by decide +kernel
theorem dX9_rule_36 : decode cX9_rule 36 = .ok (.iconst 3, 1) := by decide +kernel
theorem dX9_rule_37 : decode cX9_rule 37 = .ok (.if_icmp .ne 19, 3) := by decide +kernel
theorem dX9_rule_40 : decode cX9_rule 40 = .ok (.aload_n 0, 1) := by decide +kernel
theorem dX9_rule_41 : decode cX9_rule 41 = .ok (.getfield 10, 3) := by decide +kernel
theorem dX9_rule_44 : decode cX9_rule 44 = .ok (.getfield 166, 3) := by decide +kernel
theorem dX9_rule_47 : decode cX9_rule 47 = .ok (.bipush 61, 2) := by decide +kernel
theorem dX9_rule_49 : decode cX9_rule 49 = .ok (.if_icmp .ne 7, 3) := by decide +kernel
theorem dX9_rule_52 : decode cX9_rule 52 = .ok (.iconst 1, 1) := by decide +kernel
theorem dX9_rule_53 : decode cX9_rule 53 = .ok (.goto 4, 3) := by decide +kernel
theorem dX9_rule_56 : decode cX9_rule 56 = .ok (.iconst 0, 1) := by decide +kernel
theorem dX9_rule_57 : decode cX9_rule 57 = .ok (.invokevirtual 149, 3) := by decide +kernel
theorem dX9_rule_60 : decode cX9_rule 60 = .ok (.aload_n 0, 1) := by decide +kernel
theorem dX9_rule_61 : decode cX9_rule 61 = .ok (.getfield 10, 3) := by decide +kernel
theorem dX9_rule_64 : decode cX9_rule 64 = .ok (.invokevirtual 169, 3) := by decide +kernel
theorem dX9_rule_67 : decode cX9_rule 67 = .ok (.aload_n 0, 1) := by decide +kernel
theorem dX9_rule_68 : decode cX9_rule 68 = .ok (.getfield 40, 3) := by decide +kernel
theorem dX9_rule_71 : decode cX9_rule 71 = .ok (.invokevirtual 143, 3) := by decide +kernel
theorem dX9_rule_74 : decode cX9_rule 74 = .ok (.istore_n 2, 1) := by decide +kernel
theorem dX9_rule_75 : decode cX9_rule 75 = .ok (.aload_n 0, 1) := by decide +kernel
theorem dX9_rule_76 : decode cX9_rule 76 = .ok (.iload_n 2, 1) := by decide +kernel
theorem dX9_rule_77 : decode cX9_rule 77 = .ok (.bipush (-2), 2) := by decide +kernel
theorem dX9_rule_79 : decode cX9_rule 79 = .ok (.if_icmp .eq 17, 3) := by decide +kernel
theorem dX9_rule_82 : decode cX9_rule 82 = .ok (.aload_n 0, 1) := by decide +kernel
theorem dX9_rule_83 : decode cX9_rule 83 = .ok (.getfield 10, 3) := by decide +kernel
theorem dX9_rule_86 : decode cX9_rule 86 = .ok (.getfield 146, 3) := by decide +kernel
theorem dX9_rule_89 : decode cX9_rule 89 = .ok (.ifCond .ne 7, 3) := by decide +kernel
theorem dX9_rule_92 : decode cX9_rule 92 = .ok (.iconst 1, 1) := by decide +kernel
theorem dX9_rule_93 : decode cX9_rule 93 = .ok (.goto 4, 3) := by decide +kernel
theorem dX9_rule_96 : decode cX9_rule 96 = .ok (.iconst 0, 1) := by decide +kernel
theorem dX9_rule_97 : decode cX9_rule 97 = .ok (.invokevirtual 149, 3) := by decide +kernel
theorem dX9_rule_100 : decode cX9_rule 100 = .ok (.iload_n 1, 1) := by decide +kernel
theorem dX9_rule_101 : decode cX9_rule 101 = .ok (.ifCond .lt 20, 3) := by decide +kernel
theorem dX9_rule_104 : decode cX9_rule 104 = .ok (.iload_n 2, 1) := by decide +kernel
theorem dX9_rule_105 : decode cX9_rule 105 = .ok (.ifCond .lt 16, 3) := by decide +kernel
theorem dX9_rule_108 : decode cX9_rule 108 = .ok (.aload_n 0, 1) := by decide +kernel
theorem dX9_rule_109 : decode cX9_rule 109 = .ok (.getfield 31, 3) := by decide +kernel
theorem dX9_rule_112 : decode cX9_rule 112 = .ok (.iload_n 1, 1) := by decide +kernel
theorem dX9_rule_113 : decode cX9_rule 113 = .ok (.invokevirtual 172, 3) := by decide +kernel
theorem dX9_rule_116 : decode cX9_rule 116 = .ok (.bipush 8, 2) := by decide +kernel
theorem dX9_rule_118 : decode cX9_rule 118 = .ok (.if_icmp .ge 13, 3) := by decide +kernel
theorem dX9_rule_121 : decode cX9_rule 121 = .ok (.new 153, 3) := by decide +kernel
theorem dX9_rule_124 : decode cX9_rule 124 = .ok (.dup, 1) := by decide +kernel
theorem dX9_rule_125 : decode cX9_rule 125 = .ok (.ldc 176, 2) := by decide +kernel
theorem dX9_rule_127 : decode cX9_rule 127 = .ok (.invokespecial 157, 3) := by decide +kernel
theorem dX9_rule_130 : decode cX9_rule 130 = .ok (.athrow, 1) := by decide +kernel
theorem dX9_rule_131 : decode cX9_rule 131 = .ok (.aload_n 0, 1) := by decide +kernel
theorem dX9_rule_132 : decode cX9_rule 132 = .ok (.getfield 31, 3) := by decide +kernel
theorem dX9_rule_135 : decode cX9_rule 135 = .ok (.iload_n 2, 1) := by decide +kernel
theorem dX9_rule_136 : decode cX9_rule 136 = .ok (.invokevirtual 178, 3) := by decide +kernel
theorem dX9_rule_139 : decode cX9_rule 139 = .ok (.aload_n 0, 1) := by decide +kernel
theorem dX9_rule_140 : decode cX9_rule 140 = .ok (.getfield 31, 3) := by decide +kernel
theorem dX9_rule_143 : decode cX9_rule 143 = .ok (.iload_n 1, 1) := by decide +kernel
theorem dX9_rule_144 : decode cX9_rule 144 = .ok (.invokevirtual 178, 3) := by decide +kernel
theorem dX9_rule_147 : decode cX9_rule 147 = .ok (.iconst (-1), 1) := by decide +kernel
theorem dX9_rule_148 : decode cX9_rule 148 = .ok (.ixor, 1) := by decide +kernel
theorem dX9_rule_149 : decode cX9_rule 149 = .ok (.iand, 1) := by decide +kernel
theorem dX9_rule_150 : decode cX9_rule 150 = .ok (.ifCond .ne 12, 3) := by decide +kernel
theorem dX9_rule_153 : decode cX9_rule 153 = .ok (.aload_n 0, 1) := by decide +kernel
theorem dX9_rule_154 : decode cX9_rule 154 = .ok (.invokevirtual 181, 3) := by decide +kernel
theorem dX9_rule_157 : decode cX9_rule 157 = .ok (.bipush 8, 2) := by decide +kernel
theorem dX9_rule_159 : decode cX9_rule 159 = .ok (.if_icmp .lt 13, 3) := by decide +kernel
theorem dX9_rule_162 : decode cX9_rule 162 = .ok (.new 153, 3) := by decide +kernel
theorem dX9_rule_165 : decode cX9_rule 165 = .ok (.dup, 1) := by decide +kernel
theorem dX9_rule_166 : decode cX9_rule 166 = .ok (.ldc 184, 2) := by decide +kernel
theorem dX9_rule_168 : decode cX9_rule 168 = .ok (.invokespecial 157, 3) := by decide +kernel
theorem dX9_rule_171 : decode cX9_rule 171 = .ok (.athrow, 1) := by decide +kernel
theorem dX9_rule_172 : decode cX9_rule 172 = .ok (.aload_n 0, 1) := by decide +kernel
theorem dX9_rule_173 : decode cX9_rule 173 = .ok (.invokevirtual 181, 3) := by decide +kernel
theorem dX9_rule_176 : decode cX9_rule 176 = .ok (.istore_n 3, 1) := by decide +kernel
theorem dX9_rule_177 : decode cX9_rule 177 = .ok (.aload_n 0, 1) := by decide +kernel
theorem dX9_rule_178 : decode cX9_rule 178 = .ok (.getfield 31, 3) := by decide +kernel
theorem dX9_rule_181 : decode cX9_rule 181 = .ok (.iload_n 1, 1) := by decide +kernel
theorem dX9_rule_182 : decode cX9_rule 182 = .ok (.aload_n 0, 1) := by decide +kernel
theorem dX9_rule_183 : decode cX9_rule 183 = .ok (.getfield 53, 3) := by decide +kernel
theorem dX9_rule_186 : decode cX9_rule 186 = .ok (.invokevirtual 158, 3) := by decide +kernel
theorem dX9_rule_189 : decode cX9_rule 189 = .ok (.aload_n 0, 1) := by decide +kernel
theorem dX9_rule_190 : decode cX9_rule 190 = .ok (.getfield 31, 3) := by decide +kernel
theorem dX9_rule_193 : decode cX9_rule 193 = .ok (.iload_n 2, 1) := by decide +kernel
theorem dX9_rule_194 : decode cX9_rule 194 = .ok (.aload_n 0, 1) := by decide +kernel
theorem dX9_rule_195 : decode cX9_rule 195 = .ok (.getfield 53, 3) := by decide +kernel
theorem dX9_rule_198 : decode cX9_rule 198 = .ok (.invokevirtual 158, 3) := by decide +kernel
theorem dX9_rule_201 : decode cX9_rule 201 = .ok (.aload_n 0, 1) := by decide +kernel
theorem dX9_rule_202 : decode cX9_rule 202 = .ok (.dup, 1) := by decide +kernel
theorem dX9_rule_203 : decode cX9_rule 203 = .ok (.getfield 100, 3) := by decide +kernel
theorem dX9_rule_206 : decode cX9_rule 206 = .ok (.iconst 1, 1) := by decide +kernel
theorem dX9_rule_207 : decode cX9_rule 207 = .ok (.iload_n 3, 1) := by decide +kernel
theorem dX9_rule_208 : decode cX9_rule 208 = .ok (.ishl, 1) := by decide +kernel
theorem dX9_rule_209 : decode cX9_rule 209 = .ok (.ior, 1) := by decide +kernel
theorem dX9_rule_210 : decode cX9_rule 210 = .ok (.putfield 100, 3) := by decide +kernel
theorem dX9_rule_213 : decode cX9_rule 213 = .ok (.iload_n 3, 1) := by decide +kernel
theorem dX9_rule_214 : decode cX9_rule 214 = .ok (.ireturn, 1) := by decide +kernel
theorem dX9_fault_0 : decode cX9_fault 0 = .ok (.aload_n 0, 1) := by decide +kernel
theorem dX9_fault_1 : decode cX9_fault 1 = .ok (.getfield 104, 3) := by decide +kernel
theorem dX9_fault_4 : decode cX9_fault 4 = .ok (.ireturn, 1) := by decide +kernel
theorem dX9_checkText_0 : decode cX9_checkText 0 = .ok (.aload_n 0, 1) := by decide +kernel
theorem dX9_checkText_1 : decode cX9_checkText 1 = .ok (.iload_n 1, 1) := by decide +kernel
theorem dX9_checkText_2 : decode cX9_checkText 2 = .ok (.ifCond .eq 7, 3) := by decide +kernel
theorem dX9_checkText_5 : decode cX9_checkText 5 = .ok (.iconst (-1), 1) := by decide +kernel
theorem dX9_checkText_6 : decode cX9_checkText 6 = .ok (.goto 10, 3) := by decide +kernel
theorem dX9_checkText_9 : decode cX9_checkText 9 = .ok (.aload_n 0, 1) := by decide +kernel
theorem dX9_checkText_10 : decode cX9_checkText 10 = .ok (.getfield 10, 3) := by decide +kernel
theorem dX9_checkText_13 : decode cX9_checkText 13 = .ok (.getfield 122, 3) := by decide +kernel
theorem dX9_checkText_16 : decode cX9_checkText 16 = .ok (.putfield 104, 3) := by decide +kernel
theorem dX9_checkText_19 : decode cX9_checkText 19 = .ok (.iload_n 1, 1) := by decide +kernel
theorem dX9_checkText_20 : decode cX9_checkText 20 = .ok (.ifCond .ne 13, 3) := by decide +kernel
theorem dX9_checkText_23 : decode cX9_checkText 23 = .ok (.new 125, 3) := by decide +kernel
theorem dX9_checkText_26 : decode cX9_checkText 26 = .ok (.dup, 1) := by decide +kernel
theorem dX9_checkText_27 : decode cX9_checkText 27 = .ok (.ldc 186, 2) := by decide +kernel
theorem dX9_checkText_29 : decode cX9_checkText 29 = .ok (.invokespecial 129, 3) := by decide +kernel
theorem dX9_checkText_32 : decode cX9_checkText 32 = .ok (.athrow, 1) := by decide +kernel
theorem dX9_checkText_33 : decode cX9_checkText 33 = .ok (.return_, 1) := by decide +kernel
set_option maxRecDepth 20000 in
theorem ggX9_tell_X2_indexOf : GoodIn wsX9_tell wsX2_indexOf := goodIn_r _ [8, 9, 10, 11, 12, 7, 13, 14, 15, 16, 17, 18, 19, 20, 21, 22, 23, 24, 25, 26, 27, 60, 61, 62, 63] rfl (by decide +kernel)
set_option maxRecDepth 20000 in
theorem gX9_tell_X2_indexOf : GoodIn wsX9_tell (wsV RX9 188 RX2 yX2_indexOf wsX2_indexOf) := goodIn_app (goodIn_of _ (by decide +kernel)) ggX9_tell_X2_indexOf
set_option maxRecDepth 20000 in
theorem ggX9_tell_X2_copy : GoodIn wsX9_tell wsX2_copy := goodIn_r _ [31, 14, 15, 16, 7, 17, 9, 18, 32, 33, 34, 35, 36, 37, 38, 39, 19, 20, 21, 22, 23, 40, 41, 42, 43, 60, 61, 62, 63] rfl (by decide +kernel)
set_option maxRecDepth 20000 in
theorem gX9_tell_X2_copy : GoodIn wsX9_tell (wsV RX9 197 RX2 yX2_copy wsX2_copy) := goodIn_app (goodIn_of _ (by decide +kernel)) ggX9_tell_X2_copy
theorem dX9_tell_0 : decode cX9_tell 0 = .ok (.aload_n 0, 1) := by decide +kernel
theorem dX9_tell_1 : decode cX9_tell 1 = .ok (.getfield 49, 3) := by decide +kernel
theorem dX9_tell_4 : decode cX9_tell 4 = .ok (.aload_n 1, 1) := by decide +kernel
theorem dX9_tell_5 : decode cX9_tell 5 = .ok (.iconst 0, 1) := by decide +kernel
theorem dX9_tell_6 : decode cX9_tell 6 = .ok (.invokevirtual 188, 3) := by decide +kernel
theorem dX9_tell_9 : decode cX9_tell 9 = .ok (.istore_n 2, 1) := by decide +kernel
theorem dX9_tell_10 : decode cX9_tell 10 = .ok (.iload_n 2, 1) := by decide +kernel
theorem dX9_tell_11 : decode cX9_tell 11 = .ok (.ifCond .lt 5, 3) := by decide +kernel
theorem dX9_tell_14 : decode cX9_tell 14 = .ok (.iload_n 2, 1) := by decide +kernel
theorem dX9_tell_15 : decode cX9_tell 15 = .ok (.ireturn, 1) := by decide +kernel
theorem dX9_tell_16 : decode cX9_tell 16 = .ok (.aload_n 0, 1) := by decide +kernel
theorem dX9_tell_17 : decode cX9_tell 17 = .ok (.getfield 49, 3) := by decide +kernel
theorem dX9_tell_20 : decode cX9_tell 20 = .ok (.getfield 192, 3) := by decide +kernel
theorem dX9_tell_23 : decode cX9_tell 23 = .ok (.bipush 30, 2) := by decide +kernel
theorem dX9_tell_25 : decode cX9_tell 25 = .ok (.if_icmp .lt 13, 3) := by decide +kernel
theorem dX9_tell_28 : decode cX9_tell 28 = .ok (.new 153, 3) := by decide +kernel
theorem dX9_tell_31 : decode cX9_tell 31 = .ok (.dup, 1) := by decide +kernel
theorem dX9_tell_32 : decode cX9_tell 32 = .ok (.ldc 195, 2) := by decide +kernel
theorem dX9_tell_34 : decode cX9_tell 34 = .ok (.invokespecial 157, 3) := by decide +kernel
theorem dX9_tell_37 : decode cX9_tell 37 = .ok (.athrow, 1) := by decide +kernel
theorem dX9_tell_38 : decode cX9_tell 38 = .ok (.aload_n 0, 1) := by decide +kernel
theorem dX9_tell_39 : decode cX9_tell 39 = .ok (.getfield 49, 3) := by decide +kernel
theorem dX9_tell_42 : decode cX9_tell 42 = .ok (.getfield 192, 3) := by decide +kernel
theorem dX9_tell_45 : decode cX9_tell 45 = .ok (.istore_n 2, 1) := by decide +kernel
theorem dX9_tell_46 : decode cX9_tell 46 = .ok (.aload_n 0, 1) := by decide +kernel
theorem dX9_tell_47 : decode cX9_tell 47 = .ok (.getfield 49, 3) := by decide +kernel
theorem dX9_tell_50 : decode cX9_tell 50 = .ok (.aload_n 1, 1) := by decide +kernel
theorem dX9_tell_51 : decode cX9_tell 51 = .ok (.iconst 0, 1) := by decide +kernel
theorem dX9_tell_52 : decode cX9_tell 52 = .ok (.invokevirtual 197, 3) := by decide +kernel
theorem dX9_tell_55 : decode cX9_tell 55 = .ok (.iload_n 2, 1) := by decide +kernel
theorem dX9_tell_56 : decode cX9_tell 56 = .ok (.ireturn, 1) := by decide +kernel
set_option maxRecDepth 20000 in
theorem ggX9_turn_X9_checkRule : GoodIn wsX9_turn wsX9_checkRule := goodIn_ca (goodIn_r _ [6, 7, 8, 9, 10, 11, 5, 12, 13, 14, 15, 16, 17, 18, 19, 20, 21, 22, 23, 24, 25, 26, 27, 28, 29, 30, 31, 32, 33] rfl (by decide +kernel)) (goodIn_sub (fun _ h => List.mem_cons_of_mem _ (List.mem_append_right _ h)) (by decide +kernel))
set_option maxRecDepth 20000 in
theorem gX9_turn_X9_checkRule : GoodIn wsX9_turn (wsV RX9 201 RX9 yX9_checkRule wsX9_checkRule) := goodIn_app (goodIn_of _ (by decide +kernel)) ggX9_turn_X9_checkRule
theorem dX9_turn_0 : decode cX9_turn 0 = .ok (.aload_n 0, 1) := by decide +kernel
theorem dX9_turn_1 : decode cX9_turn 1 = .ok (.iload_n 1, 1) := by decide +kernel
theorem dX9_turn_2 : decode cX9_turn 2 = .ok (.invokevirtual 201, 3) := by decide +kernel
theorem dX9_turn_5 : decode cX9_turn 5 = .ok (.iconst 1, 1) := by decide +kernel
theorem dX9_turn_6 : decode cX9_turn 6 = .ok (.iload_n 1, 1) := by decide +kernel
theorem dX9_turn_7 : decode cX9_turn 7 = .ok (.ishl, 1) := by decide +kernel
theorem dX9_turn_8 : decode cX9_turn 8 = .ok (.istore_n 3, 1) := by decide +kernel
theorem dX9_turn_9 : decode cX9_turn 9 = .ok (.aload_n 0, 1) := by decide +kernel
theorem dX9_turn_10 : decode cX9_turn 10 = .ok (.getfield 100, 3) := by decide +kernel
theorem dX9_turn_13 : decode cX9_turn 13 = .ok (.iload_n 3, 1) := by decide +kernel
theorem dX9_turn_14 : decode cX9_turn 14 = .ok (.iand, 1) := by decide +kernel
theorem dX9_turn_15 : decode cX9_turn 15 = .ok (.ifCond .eq 7, 3) := by decide +kernel
theorem dX9_turn_18 : decode cX9_turn 18 = .ok (.iconst 1, 1) := by decide +kernel
theorem dX9_turn_19 : decode cX9_turn 19 = .ok (.goto 4, 3) := by decide +kernel
theorem dX9_turn_22 : decode cX9_turn 22 = .ok (.iconst 0, 1) := by decide +kernel
theorem dX9_turn_23 : decode cX9_turn 23 = .ok (.istore 4, 2) := by decide +kernel
theorem dX9_turn_25 : decode cX9_turn 25 = .ok (.aload_n 0, 1) := by decide +kernel
theorem dX9_turn_26 : decode cX9_turn 26 = .ok (.iload_n 2, 1) := by decide +kernel
theorem dX9_turn_27 : decode cX9_turn 27 = .ok (.ifCond .eq 12, 3) := by decide +kernel
theorem dX9_turn_30 : decode cX9_turn 30 = .ok (.aload_n 0, 1) := by decide +kernel
theorem dX9_turn_31 : decode cX9_turn 31 = .ok (.getfield 100, 3) := by decide +kernel
theorem dX9_turn_34 : decode cX9_turn 34 = .ok (.iload_n 3, 1) := by decide +kernel
theorem dX9_turn_35 : decode cX9_turn 35 = .ok (.ior, 1) := by decide +kernel
theorem dX9_turn_36 : decode cX9_turn 36 = .ok (.goto 11, 3) := by decide +kernel
theorem dX9_turn_39 : decode cX9_turn 39 = .ok (.aload_n 0, 1) := by decide +kernel
theorem dX9_turn_40 : decode cX9_turn 40 = .ok (.getfield 100, 3) := by decide +kernel
theorem dX9_turn_43 : decode cX9_turn 43 = .ok (.iload_n 3, 1) := by decide +kernel
theorem dX9_turn_44 : decode cX9_turn 44 = .ok (.iconst (-1), 1) := by decide +kernel
theorem dX9_turn_45 : decode cX9_turn 45 = .ok (.ixor, 1) := by decide +kernel
theorem dX9_turn_46 : decode cX9_turn 46 = .ok (.iand, 1) := by decide +kernel
theorem dX9_turn_47 : decode cX9_turn 47 = .ok (.putfield 100, 3) := by decide +kernel
theorem dX9_turn_50 : decode cX9_turn 50 = .ok (.iload 4, 2) := by decide +kernel
theorem dX9_turn_52 : decode cX9_turn 52 = .ok (.iload_n 2, 1) := by decide +kernel
theorem dX9_turn_53 : decode cX9_turn 53 = .ok (.if_icmp .eq 7, 3) := by decide +kernel
theorem dX9_turn_56 : decode cX9_turn 56 = .ok (.iconst 1, 1) := by decide +kernel
theorem dX9_turn_57 : decode cX9_turn 57 = .ok (.goto 4, 3) := by decide +kernel
theorem dX9_turn_60 : decode cX9_turn 60 = .ok (.iconst 0, 1) := by decide +kernel
theorem dX9_turn_61 : decode cX9_turn 61 = .ok (.ireturn, 1) := by decide +kernel
set_option maxRecDepth 20000 in
theorem ggX9_operator_X9_checkOperator : GoodIn wsX9_operator wsX9_checkOperator := goodIn_ca (goodIn_r _ [8, 9, 10, 3, 50, 51, 52, 53, 54, 55, 56, 57, 58, 59, 60, 61, 62, 63, 64, 65, 66, 67, 68, 69, 70, 71, 72, 73] rfl (by decide +kernel)) (goodIn_sub (fun _ h => List.mem_cons_of_mem _ (List.mem_append_right _ h)) (by decide +kernel))
set_option maxRecDepth 20000 in
theorem gX9_operator_X9_checkOperator : GoodIn wsX9_operator (wsV RX9 204 RX9 yX9_checkOperator wsX9_checkOperator) := goodIn_app (goodIn_of _ (by decide +kernel)) ggX9_operator_X9_checkOperator
set_option maxRecDepth 20000 in
theorem ggX9_operator_X5_kindOf : GoodIn wsX9_operator wsX5_kindOf := goodIn_r _ [15, 16, 66, 67, 68, 69, 70, 71, 72, 73] rfl (by decide +kernel)
set_option maxRecDepth 20000 in
theorem gX9_operator_X5_kindOf : GoodIn wsX9_operator (wsV RX9 207 RX5 yX5_kindOf wsX5_kindOf) := goodIn_app (goodIn_of _ (by decide +kernel)) ggX9_operator_X5_kindOf
set_option maxRecDepth 20000 in
theorem ggX9_operator_X5_partsOf : GoodIn wsX9_operator wsX5_partsOf := goodIn_r _ [20, 21, 66, 67, 68, 69, 70, 71, 72, 73] rfl (by decide +kernel)
set_option maxRecDepth 20000 in
theorem gX9_operator_X5_partsOf : GoodIn wsX9_operator (wsV RX9 210 RX5 yX5_partsOf wsX5_partsOf) := goodIn_app (goodIn_of _ (by decide +kernel)) ggX9_operator_X5_partsOf
set_option maxRecDepth 20000 in
theorem ggX9_operator_X5_unitOf : GoodIn wsX9_operator wsX5_unitOf := goodIn_r _ [25, 26, 66, 67, 68, 69, 70, 71, 72, 73] rfl (by decide +kernel)
set_option maxRecDepth 20000 in
theorem gX9_operator_X5_unitOf : GoodIn wsX9_operator (wsV RX9 213 RX5 yX5_unitOf wsX5_unitOf) := goodIn_app (goodIn_of _ (by decide +kernel)) ggX9_operator_X5_unitOf
set_option maxRecDepth 20000 in
theorem ggX9_operator_X9_termsWith : GoodIn wsX9_operator wsX9_termsWith := goodIn_r _ [30, 31, 32, 33, 34, 35, 36, 37, 38, 39, 40, 41, 42, 43, 44, 45, 46, 47, 48, 7, 49, 50, 51, 52, 53, 54, 55, 56, 57, 58, 59, 60, 61, 62, 63, 64, 65, 74, 75, 76, 77] rfl (by decide +kernel)
set_option maxRecDepth 20000 in
theorem gX9_operator_X9_termsWith : GoodIn wsX9_operator (wsV RX9 216 RX9 yX9_termsWith wsX9_termsWith) := goodIn_app (goodIn_of _ (by decide +kernel)) ggX9_operator_X9_termsWith
theorem dX9_operator_0 : decode cX9_operator 0 = .ok (.aload_n 0, 1) := by decide +kernel
theorem dX9_operator_1 : decode cX9_operator 1 = .ok (.iload_n 1, 1) := by decide +kernel
theorem dX9_operator_2 : decode cX9_operator 2 = .ok (.invokevirtual 204, 3) := by decide +kernel
theorem dX9_operator_5 : decode cX9_operator 5 = .ok (.iload_n 2, 1) := by decide +kernel
theorem dX9_operator_6 : decode cX9_operator 6 = .ok (.tableswitch 63 0 3 #[30, 39, 48, 57], 30) := by decide +kernel
theorem dX9_operator_36 : decode cX9_operator 36 = .ok (.aload_n 0, 1) := by decide +kernel
theorem dX9_operator_37 : decode cX9_operator 37 = .ok (.getfield 19, 3) := by decide +kernel
theorem dX9_operator_40 : decode cX9_operator 40 = .ok (.iload_n 1, 1) := by decide +kernel
theorem dX9_operator_41 : decode cX9_operator 41 = .ok (.invokevirtual 207, 3) := by decide +kernel
theorem dX9_operator_44 : decode cX9_operator 44 = .ok (.ireturn, 1) := by decide +kernel
theorem dX9_operator_45 : decode cX9_operator 45 = .ok (.aload_n 0, 1) := by decide +kernel
theorem dX9_operator_46 : decode cX9_operator 46 = .ok (.getfield 19, 3) := by decide +kernel
theorem dX9_operator_49 : decode cX9_operator 49 = .ok (.iload_n 1, 1) := by decide +kernel
theorem dX9_operator_50 : decode cX9_operator 50 = .ok (.invokevirtual 210, 3) := by decide +kernel
theorem dX9_operator_53 : decode cX9_operator 53 = .ok (.ireturn, 1) := by decide +kernel
theorem dX9_operator_54 : decode cX9_operator 54 = .ok (.aload_n 0, 1) := by decide +kernel
theorem dX9_operator_55 : decode cX9_operator 55 = .ok (.getfield 19, 3) := by decide +kernel
theorem dX9_operator_58 : decode cX9_operator 58 = .ok (.iload_n 1, 1) := by decide +kernel
theorem dX9_operator_59 : decode cX9_operator 59 = .ok (.invokevirtual 213, 3) := by decide +kernel
theorem dX9_operator_62 : decode cX9_operator 62 = .ok (.ireturn, 1) := by decide +kernel
theorem dX9_operator_63 : decode cX9_operator 63 = .ok (.aload_n 0, 1) := by decide +kernel
theorem dX9_operator_64 : decode cX9_operator 64 = .ok (.iload_n 1, 1) := by decide +kernel
theorem dX9_operator_65 : decode cX9_operator 65 = .ok (.invokevirtual 216, 3) := by decide +kernel
theorem dX9_operator_68 : decode cX9_operator 68 = .ok (.ireturn, 1) := by decide +kernel
theorem dX9_operator_69 : decode cX9_operator 69 = .ok (.new 219, 3) := by decide +kernel
theorem dX9_operator_72 : decode cX9_operator 72 = .ok (.dup, 1) := by decide +kernel
theorem dX9_operator_73 : decode cX9_operator 73 = .ok (.ldc 221, 2) := by decide +kernel
theorem dX9_operator_75 : decode cX9_operator 75 = .ok (.invokespecial 223, 3) := by decide +kernel
theorem dX9_operator_78 : decode cX9_operator 78 = .ok (.athrow, 1) := by decide +kernel
set_option maxRecDepth 20000 in
theorem ggX9_termsWith_X2_operatorsIn : GoodIn wsX9_termsWith wsX2_operatorsIn := goodIn_r _ [6, 7, 8, 9, 5, 10, 11, 12, 13, 14, 15, 16, 17, 18, 19, 20, 37, 38, 39, 40] rfl (by decide +kernel)
set_option maxRecDepth 20000 in
theorem gX9_termsWith_X2_operatorsIn : GoodIn wsX9_termsWith (wsV RX9 224 RX2 yX2_operatorsIn wsX2_operatorsIn) := goodIn_app (goodIn_of _ (by decide +kernel)) ggX9_termsWith_X2_operatorsIn
theorem dX9_termsWith_0 : decode cX9_termsWith 0 = .ok (.iconst 0, 1) := by decide +kernel
theorem dX9_termsWith_1 : decode cX9_termsWith 1 = .ok (.istore_n 2, 1) := by decide +kernel
theorem dX9_termsWith_2 : decode cX9_termsWith 2 = .ok (.iconst 0, 1) := by decide +kernel
theorem dX9_termsWith_3 : decode cX9_termsWith 3 = .ok (.istore_n 3, 1) := by decide +kernel
theorem dX9_termsWith_4 : decode cX9_termsWith 4 = .ok (.iload_n 3, 1) := by decide +kernel
theorem dX9_termsWith_5 : decode cX9_termsWith 5 = .ok (.aload_n 0, 1) := by decide +kernel
theorem dX9_termsWith_6 : decode cX9_termsWith 6 = .ok (.getfield 49, 3) := by decide +kernel
theorem dX9_termsWith_9 : decode cX9_termsWith 9 = .ok (.getfield 192, 3) := by decide +kernel
theorem dX9_termsWith_12 : decode cX9_termsWith 12 = .ok (.if_icmp .ge 30, 3) := by decide +kernel
theorem dX9_termsWith_15 : decode cX9_termsWith 15 = .ok (.aload_n 0, 1) := by decide +kernel
theorem dX9_termsWith_16 : decode cX9_termsWith 16 = .ok (.getfield 49, 3) := by decide +kernel
theorem dX9_termsWith_19 : decode cX9_termsWith 19 = .ok (.iload_n 3, 1) := by decide +kernel
theorem dX9_termsWith_20 : decode cX9_termsWith 20 = .ok (.invokevirtual 224, 3) := by decide +kernel
theorem dX9_termsWith_23 : decode cX9_termsWith 23 = .ok (.iload_n 1, 1) := by decide +kernel
theorem dX9_termsWith_24 : decode cX9_termsWith 24 = .ok (.ishr, 1) := by decide +kernel
theorem dX9_termsWith_25 : decode cX9_termsWith 25 = .ok (.iconst 1, 1) := by decide +kernel
theorem dX9_termsWith_26 : decode cX9_termsWith 26 = .ok (.iand, 1) := by decide +kernel
theorem dX9_termsWith_27 : decode cX9_termsWith 27 = .ok (.ifCond .eq 9, 3) := by decide +kernel
theorem dX9_termsWith_30 : decode cX9_termsWith 30 = .ok (.iload_n 2, 1) := by decide +kernel
theorem dX9_termsWith_31 : decode cX9_termsWith 31 = .ok (.iconst 1, 1) := by decide +kernel
theorem dX9_termsWith_32 : decode cX9_termsWith 32 = .ok (.iload_n 3, 1) := by decide +kernel
theorem dX9_termsWith_33 : decode cX9_termsWith 33 = .ok (.ishl, 1) := by decide +kernel
theorem dX9_termsWith_34 : decode cX9_termsWith 34 = .ok (.ior, 1) := by decide +kernel
theorem dX9_termsWith_35 : decode cX9_termsWith 35 = .ok (.istore_n 2, 1) := by decide +kernel
theorem dX9_termsWith_36 : decode cX9_termsWith 36 = .ok (.iinc 3 1, 3) := by decide +kernel
theorem dX9_termsWith_39 : decode cX9_termsWith 39 = .ok (.goto (-35), 3) := by decide +kernel
theorem dX9_termsWith_42 : decode cX9_termsWith 42 = .ok (.iload_n 2, 1) := by decide +kernel
theorem dX9_termsWith_43 : decode cX9_termsWith 43 = .ok (.ireturn, 1) := by decide +kernel
set_option maxRecDepth 20000 in
theorem ggX9_about_X9_checkTerm : GoodIn wsX9_about wsX9_checkTerm := goodIn_ca (goodIn_r _ [8, 9, 10, 3, 90, 91, 92, 93, 94, 95, 96, 97, 98, 99, 100, 101, 102, 103, 104, 105, 106, 107, 108, 109] rfl (by decide +kernel)) (goodIn_sub (fun _ h => List.mem_cons_of_mem _ (List.mem_append_right _ h)) (by decide +kernel))
set_option maxRecDepth 20000 in
theorem gX9_about_X9_checkTerm : GoodIn wsX9_about (wsV RX9 227 RX9 yX9_checkTerm wsX9_checkTerm) := goodIn_app (goodIn_of _ (by decide +kernel)) ggX9_about_X9_checkTerm
set_option maxRecDepth 20000 in
theorem ggX9_about_X2_cellAt : GoodIn wsX9_about wsX2_cellAt := goodIn_r _ [15, 16, 17, 106, 107, 108, 109] rfl (by decide +kernel)
set_option maxRecDepth 20000 in
theorem gX9_about_X2_cellAt : GoodIn wsX9_about (wsV RX9 230 RX2 yX2_cellAt wsX2_cellAt) := goodIn_app (goodIn_of _ (by decide +kernel)) ggX9_about_X2_cellAt
set_option maxRecDepth 20000 in
theorem ggX9_about_X9_operatorIn : GoodIn wsX9_about wsX9_operatorIn := goodIn_r _ [20] rfl (by decide +kernel)
set_option maxRecDepth 20000 in
theorem gX9_about_X9_operatorIn : GoodIn wsX9_about (va_wsS RX9 234 yX9_operatorIn wsX9_operatorIn) := goodIn_app (goodIn_of _ (by decide +kernel)) ggX9_about_X9_operatorIn
set_option maxRecDepth 20000 in
theorem ggX9_about_X9_partsIn : GoodIn wsX9_about wsX9_partsIn := goodIn_r _ [23] rfl (by decide +kernel)
set_option maxRecDepth 20000 in
theorem gX9_about_X9_partsIn : GoodIn wsX9_about (va_wsS RX9 237 yX9_partsIn wsX9_partsIn) := goodIn_app (goodIn_of _ (by decide +kernel)) ggX9_about_X9_partsIn
set_option maxRecDepth 20000 in
theorem ggX9_about_X2_lengthOf : GoodIn wsX9_about wsX2_lengthOf := goodIn_r _ [27, 28, 16, 106, 107, 108, 109] rfl (by decide +kernel)
set_option maxRecDepth 20000 in
theorem gX9_about_X2_lengthOf : GoodIn wsX9_about (wsV RX9 240 RX2 yX2_lengthOf wsX2_lengthOf) := goodIn_app (goodIn_of _ (by decide +kernel)) ggX9_about_X2_lengthOf
set_option maxRecDepth 20000 in
theorem ggX9_about_X2_depthOf : GoodIn wsX9_about wsX2_depthOf := goodIn_r _ [32, 33, 34, 35, 36, 37, 38, 25, 26, 14, 27, 28, 16, 39, 12, 13, 15, 17, 22, 7, 23, 40, 41, 42, 43, 106, 107, 108, 109] rfl (by decide +kernel)
set_option maxRecDepth 20000 in
theorem gX9_about_X2_depthOf : GoodIn wsX9_about (wsV RX9 243 RX2 yX2_depthOf wsX2_depthOf) := goodIn_app (goodIn_of _ (by decide +kernel)) ggX9_about_X2_depthOf
set_option maxRecDepth 20000 in
theorem ggX9_about_X2_variablesIn : GoodIn wsX9_about wsX2_variablesIn := goodIn_r _ [47, 38, 25, 26, 14, 27, 28, 16, 39, 12, 13, 15, 17, 106, 107, 108, 109] rfl (by decide +kernel)
set_option maxRecDepth 20000 in
theorem gX9_about_X2_variablesIn : GoodIn wsX9_about (wsV RX9 246 RX2 yX2_variablesIn wsX2_variablesIn) := goodIn_app (goodIn_of _ (by decide +kernel)) ggX9_about_X2_variablesIn
set_option maxRecDepth 20000 in
theorem ggX9_about_X2_operatorsIn : GoodIn wsX9_about wsX2_operatorsIn := goodIn_r _ [51, 38, 25, 26, 14, 27, 28, 16, 39, 12, 13, 15, 17, 19, 7, 20, 106, 107, 108, 109] rfl (by decide +kernel)
set_option maxRecDepth 20000 in
theorem gX9_about_X2_operatorsIn : GoodIn wsX9_about (wsV RX9 224 RX2 yX2_operatorsIn wsX2_operatorsIn) := goodIn_app (goodIn_of _ (by decide +kernel)) ggX9_about_X2_operatorsIn
set_option maxRecDepth 20000 in
theorem ggX9_about_X9_could : GoodIn wsX9_about wsX9_could := goodIn_r _ [55, 56, 57, 58, 59, 7, 60, 61, 62, 63, 64, 65, 3, 66, 11, 12, 13, 14, 15, 16, 17, 18, 19, 20, 67, 68, 69, 70, 71, 72, 73, 74, 75, 76, 77, 78, 79, 80, 81, 39, 22, 23, 82, 83, 84, 85, 38, 25, 26, 27, 28, 90, 91, 92, 93, 94, 95, 96, 97, 98, 99, 100, 101, 102, 103, 104, 105, 106, 107, 108, 109, 110, 111, 112, 113, 114, 115, 116, 117] rfl (by decide +kernel)
set_option maxRecDepth 20000 in
theorem gX9_about_X9_could : GoodIn wsX9_about (wsV RX9 249 RX9 yX9_could wsX9_could) := goodIn_app (goodIn_of _ (by decide +kernel)) ggX9_about_X9_could
set_option maxRecDepth 20000 in
theorem ggX9_about_X2_timesOfVariables : GoodIn wsX9_about wsX2_timesOfVariables := goodIn_r _ [89, 38, 25, 26, 14, 27, 28, 16, 39, 12, 13, 15, 17, 106, 107, 108, 109] rfl (by decide +kernel)
set_option maxRecDepth 20000 in
theorem gX9_about_X2_timesOfVariables : GoodIn wsX9_about (wsV RX9 252 RX2 yX2_timesOfVariables wsX2_timesOfVariables) := goodIn_app (goodIn_of _ (by decide +kernel)) ggX9_about_X2_timesOfVariables
theorem dX9_about_0 : decode cX9_about 0 = .ok (.aload_n 0, 1) := by decide +kernel
theorem dX9_about_1 : decode cX9_about 1 = .ok (.iload_n 1, 1) := by decide +kernel
theorem dX9_about_2 : decode cX9_about 2 = .ok (.invokevirtual 227, 3) := by decide +kernel
theorem dX9_about_5 : decode cX9_about 5 = .ok (.aload_n 0, 1) := by decide +kernel
theorem dX9_about_6 : decode cX9_about 6 = .ok (.getfield 49, 3) := by decide +kernel
theorem dX9_about_9 : decode cX9_about 9 = .ok (.iload_n 1, 1) := by decide +kernel
theorem dX9_about_10 : decode cX9_about 10 = .ok (.iconst 0, 1) := by decide +kernel
theorem dX9_about_11 : decode cX9_about 11 = .ok (.invokevirtual 230, 3) := by decide +kernel
theorem dX9_about_14 : decode cX9_about 14 = .ok (.istore_n 3, 1) := by decide +kernel
theorem dX9_about_15 : decode cX9_about 15 = .ok (.iload_n 2, 1) := by decide +kernel
theorem dX9_about_16 : decode cX9_about 16 = .ok (.tableswitch 125 0 8 #[52, 57, 69, 74, 83, 92, 101, 110, 116], 52) := by decide +kernel
theorem dX9_about_68 : decode cX9_about 68 = .ok (.iload_n 3, 1) := by decide +kernel
theorem dX9_about_69 : decode cX9_about 69 = .ok (.invokestatic 234, 3) := by decide +kernel
theorem dX9_about_72 : decode cX9_about 72 = .ok (.ireturn, 1) := by decide +kernel
theorem dX9_about_73 : decode cX9_about 73 = .ok (.iload_n 3, 1) := by decide +kernel
theorem dX9_about_74 : decode cX9_about 74 = .ok (.bipush 8, 2) := by decide +kernel
theorem dX9_about_76 : decode cX9_about 76 = .ok (.if_icmp .ge 7, 3) := by decide +kernel
theorem dX9_about_79 : decode cX9_about 79 = .ok (.iload_n 3, 1) := by decide +kernel
theorem dX9_about_80 : decode cX9_about 80 = .ok (.goto 4, 3) := by decide +kernel
theorem dX9_about_83 : decode cX9_about 83 = .ok (.iconst (-1), 1) := by decide +kernel
theorem dX9_about_84 : decode cX9_about 84 = .ok (.ireturn, 1) := by decide +kernel
theorem dX9_about_85 : decode cX9_about 85 = .ok (.iload_n 3, 1) := by decide +kernel
theorem dX9_about_86 : decode cX9_about 86 = .ok (.invokestatic 237, 3) := by decide +kernel
theorem dX9_about_89 : decode cX9_about 89 = .ok (.ireturn, 1) := by decide +kernel
theorem dX9_about_90 : decode cX9_about 90 = .ok (.aload_n 0, 1) := by decide +kernel
theorem dX9_about_91 : decode cX9_about 91 = .ok (.getfield 49, 3) := by decide +kernel
theorem dX9_about_94 : decode cX9_about 94 = .ok (.iload_n 1, 1) := by decide +kernel
theorem dX9_about_95 : decode cX9_about 95 = .ok (.invokevirtual 240, 3) := by decide +kernel
theorem dX9_about_98 : decode cX9_about 98 = .ok (.ireturn, 1) := by decide +kernel
theorem dX9_about_99 : decode cX9_about 99 = .ok (.aload_n 0, 1) := by decide +kernel
theorem dX9_about_100 : decode cX9_about 100 = .ok (.getfield 49, 3) := by decide +kernel
theorem dX9_about_103 : decode cX9_about 103 = .ok (.iload_n 1, 1) := by decide +kernel
theorem dX9_about_104 : decode cX9_about 104 = .ok (.invokevirtual 243, 3) := by decide +kernel
theorem dX9_about_107 : decode cX9_about 107 = .ok (.ireturn, 1) := by decide +kernel
theorem dX9_about_108 : decode cX9_about 108 = .ok (.aload_n 0, 1) := by decide +kernel
theorem dX9_about_109 : decode cX9_about 109 = .ok (.getfield 49, 3) := by decide +kernel
theorem dX9_about_112 : decode cX9_about 112 = .ok (.iload_n 1, 1) := by decide +kernel
theorem dX9_about_113 : decode cX9_about 113 = .ok (.invokevirtual 246, 3) := by decide +kernel
theorem dX9_about_116 : decode cX9_about 116 = .ok (.ireturn, 1) := by decide +kernel
theorem dX9_about_117 : decode cX9_about 117 = .ok (.aload_n 0, 1) := by decide +kernel
theorem dX9_about_118 : decode cX9_about 118 = .ok (.getfield 49, 3) := by decide +kernel
theorem dX9_about_121 : decode cX9_about 121 = .ok (.iload_n 1, 1) := by decide +kernel
theorem dX9_about_122 : decode cX9_about 122 = .ok (.invokevirtual 224, 3) := by decide +kernel
theorem dX9_about_125 : decode cX9_about 125 = .ok (.ireturn, 1) := by decide +kernel
theorem dX9_about_126 : decode cX9_about 126 = .ok (.aload_n 0, 1) := by decide +kernel
theorem dX9_about_127 : decode cX9_about 127 = .ok (.iload_n 1, 1) := by decide +kernel
theorem dX9_about_128 : decode cX9_about 128 = .ok (.invokevirtual 249, 3) := by decide +kernel
theorem dX9_about_131 : decode cX9_about 131 = .ok (.ireturn, 1) := by decide +kernel
theorem dX9_about_132 : decode cX9_about 132 = .ok (.aload_n 0, 1) := by decide +kernel
theorem dX9_about_133 : decode cX9_about 133 = .ok (.getfield 49, 3) := by decide +kernel
theorem dX9_about_136 : decode cX9_about 136 = .ok (.iload_n 1, 1) := by decide +kernel
theorem dX9_about_137 : decode cX9_about 137 = .ok (.invokevirtual 252, 3) := by decide +kernel
theorem dX9_about_140 : decode cX9_about 140 = .ok (.ireturn, 1) := by decide +kernel
theorem dX9_about_141 : decode cX9_about 141 = .ok (.new 219, 3) := by decide +kernel
theorem dX9_about_144 : decode cX9_about 144 = .ok (.dup, 1) := by decide +kernel
theorem dX9_about_145 : decode cX9_about 145 = .ok (.ldc 221, 2) := by decide +kernel
theorem dX9_about_147 : decode cX9_about 147 = .ok (.invokespecial 223, 3) := by decide +kernel
theorem dX9_about_150 : decode cX9_about 150 = .ok (.athrow, 1) := by decide +kernel
set_option maxRecDepth 20000 in
theorem ggX9_could_X9_rules : GoodIn wsX9_could wsX9_rules := goodIn_r _ [6, 7, 51, 52, 53, 54, 55, 56, 57, 58, 59, 60, 61, 62, 63, 64, 65, 66, 67, 68, 69, 70] rfl (by decide +kernel)
set_option maxRecDepth 20000 in
theorem gX9_could_X9_rules : GoodIn wsX9_could (wsV RX9 181 RX9 yX9_rules wsX9_rules) := goodIn_app (goodIn_of _ (by decide +kernel)) ggX9_could_X9_rules
set_option maxRecDepth 20000 in
theorem ggX9_could_X9_couldFit : GoodIn wsX9_could wsX9_couldFit := goodIn_r _ [11, 7, 12, 13, 14, 15, 16, 17, 18, 19, 20, 21, 22, 5, 23, 24, 25, 26, 27, 28, 29, 30, 31, 32, 33, 34, 35, 36, 37, 38, 39, 40, 41, 42, 43, 44, 45, 46, 47, 48, 49, 50, 51, 52, 53, 54, 55, 56, 57, 58, 59, 60, 61, 62, 63, 64, 65, 66, 71, 72, 73, 74, 75, 76, 77, 78, 67, 68, 69, 70] rfl (by decide +kernel)
set_option maxRecDepth 20000 in
theorem gX9_could_X9_couldFit : GoodIn wsX9_could (wsV RX9 255 RX9 yX9_couldFit wsX9_couldFit) := goodIn_app (goodIn_of _ (by decide +kernel)) ggX9_could_X9_couldFit
theorem dX9_could_0 : decode cX9_could 0 = .ok (.iconst 0, 1) := by decide +kernel
theorem dX9_could_1 : decode cX9_could 1 = .ok (.istore_n 2, 1) := by decide +kernel
theorem dX9_could_2 : decode cX9_could 2 = .ok (.iconst 0, 1) := by decide +kernel
theorem dX9_could_3 : decode cX9_could 3 = .ok (.istore_n 3, 1) := by decide +kernel
theorem dX9_could_4 : decode cX9_could 4 = .ok (.iload_n 3, 1) := by decide +kernel
theorem dX9_could_5 : decode cX9_could 5 = .ok (.aload_n 0, 1) := by decide +kernel
theorem dX9_could_6 : decode cX9_could 6 = .ok (.invokevirtual 181, 3) := by decide +kernel
theorem dX9_could_9 : decode cX9_could 9 = .ok (.if_icmp .ge 37, 3) := by decide +kernel
theorem dX9_could_12 : decode cX9_could 12 = .ok (.aload_n 0, 1) := by decide +kernel
theorem dX9_could_13 : decode cX9_could 13 = .ok (.getfield 100, 3) := by decide +kernel
theorem dX9_could_16 : decode cX9_could 16 = .ok (.iload_n 3, 1) := by decide +kernel
theorem dX9_could_17 : decode cX9_could 17 = .ok (.ishr, 1) := by decide +kernel
theorem dX9_could_18 : decode cX9_could 18 = .ok (.iconst 1, 1) := by decide +kernel
theorem dX9_could_19 : decode cX9_could 19 = .ok (.iand, 1) := by decide +kernel
theorem dX9_could_20 : decode cX9_could 20 = .ok (.ifCond .eq 20, 3) := by decide +kernel
theorem dX9_could_23 : decode cX9_could 23 = .ok (.aload_n 0, 1) := by decide +kernel
theorem dX9_could_24 : decode cX9_could 24 = .ok (.iconst 2, 1) := by decide +kernel
theorem dX9_could_25 : decode cX9_could 25 = .ok (.iload_n 3, 1) := by decide +kernel
theorem dX9_could_26 : decode cX9_could 26 = .ok (.imul, 1) := by decide +kernel
theorem dX9_could_27 : decode cX9_could 27 = .ok (.iload_n 1, 1) := by decide +kernel
theorem dX9_could_28 : decode cX9_could 28 = .ok (.invokevirtual 255, 3) := by decide +kernel
theorem dX9_could_31 : decode cX9_could 31 = .ok (.ifCond .eq 9, 3) := by decide +kernel
theorem dX9_could_34 : decode cX9_could 34 = .ok (.iload_n 2, 1) := by decide +kernel
theorem dX9_could_35 : decode cX9_could 35 = .ok (.iconst 1, 1) := by decide +kernel
theorem dX9_could_36 : decode cX9_could 36 = .ok (.iload_n 3, 1) := by decide +kernel
theorem dX9_could_37 : decode cX9_could 37 = .ok (.ishl, 1) := by decide +kernel
theorem dX9_could_38 : decode cX9_could 38 = .ok (.ior, 1) := by decide +kernel
theorem dX9_could_39 : decode cX9_could 39 = .ok (.istore_n 2, 1) := by decide +kernel
theorem dX9_could_40 : decode cX9_could 40 = .ok (.iinc 3 1, 3) := by decide +kernel
theorem dX9_could_43 : decode cX9_could 43 = .ok (.goto (-39), 3) := by decide +kernel
theorem dX9_could_46 : decode cX9_could 46 = .ok (.iload_n 2, 1) := by decide +kernel
theorem dX9_could_47 : decode cX9_could 47 = .ok (.ireturn, 1) := by decide +kernel
set_option maxRecDepth 20000 in
theorem ggX9_couldFit_X2_cellAt : GoodIn wsX9_couldFit wsX2_cellAt := goodIn_r _ [8, 9, 10, 66, 67, 68, 69] rfl (by decide +kernel)
set_option maxRecDepth 20000 in
theorem gX9_couldFit_X2_cellAt : GoodIn wsX9_couldFit (wsV RX9 230 RX2 yX2_cellAt wsX2_cellAt) := goodIn_app (goodIn_of _ (by decide +kernel)) ggX9_couldFit_X2_cellAt
set_option maxRecDepth 20000 in
theorem ggX9_couldFit_X9_operatorIn : GoodIn wsX9_couldFit wsX9_operatorIn := goodIn_r _ [14] rfl (by decide +kernel)
set_option maxRecDepth 20000 in
theorem gX9_couldFit_X9_operatorIn : GoodIn wsX9_couldFit (va_wsS RX9 234 yX9_operatorIn wsX9_operatorIn) := goodIn_app (goodIn_of _ (by decide +kernel)) ggX9_couldFit_X9_operatorIn
set_option maxRecDepth 20000 in
theorem ggX9_couldFit_X5_kindOf : GoodIn wsX9_couldFit wsX5_kindOf := goodIn_r _ [19, 20, 58, 59, 60, 61, 62, 63, 64, 65] rfl (by decide +kernel)
set_option maxRecDepth 20000 in
theorem gX9_couldFit_X5_kindOf : GoodIn wsX9_couldFit (wsV RX9 207 RX5 yX5_kindOf wsX5_kindOf) := goodIn_app (goodIn_of _ (by decide +kernel)) ggX9_couldFit_X5_kindOf
set_option maxRecDepth 20000 in
theorem ggX9_couldFit_X5_unitOf : GoodIn wsX9_couldFit wsX5_unitOf := goodIn_r _ [24, 25, 58, 59, 60, 61, 62, 63, 64, 65] rfl (by decide +kernel)
set_option maxRecDepth 20000 in
theorem gX9_couldFit_X5_unitOf : GoodIn wsX9_couldFit (wsV RX9 213 RX5 yX5_unitOf wsX5_unitOf) := goodIn_app (goodIn_of _ (by decide +kernel)) ggX9_couldFit_X5_unitOf
set_option maxRecDepth 20000 in
theorem ggX9_couldFit_X2_partsWith : GoodIn wsX9_couldFit wsX2_partsWith := goodIn_r _ [29, 30, 5, 6, 7, 8, 9, 10, 31, 13, 32, 12, 14, 33, 34, 35, 36, 37, 38, 39, 40, 41, 66, 67, 68, 69] rfl (by decide +kernel)
set_option maxRecDepth 20000 in
theorem gX9_couldFit_X2_partsWith : GoodIn wsX9_couldFit (wsV RX9 259 RX2 yX2_partsWith wsX2_partsWith) := goodIn_app (goodIn_of _ (by decide +kernel)) ggX9_couldFit_X2_partsWith
theorem dX9_couldFit_0 : decode cX9_couldFit 0 = .ok (.aload_n 0, 1) := by decide +kernel
theorem dX9_couldFit_1 : decode cX9_couldFit 1 = .ok (.getfield 53, 3) := by decide +kernel
theorem dX9_couldFit_4 : decode cX9_couldFit 4 = .ok (.iload_n 1, 1) := by decide +kernel
theorem dX9_couldFit_5 : decode cX9_couldFit 5 = .ok (.iconst 0, 1) := by decide +kernel
theorem dX9_couldFit_6 : decode cX9_couldFit 6 = .ok (.invokevirtual 230, 3) := by decide +kernel
theorem dX9_couldFit_9 : decode cX9_couldFit 9 = .ok (.invokestatic 234, 3) := by decide +kernel
theorem dX9_couldFit_12 : decode cX9_couldFit 12 = .ok (.istore_n 3, 1) := by decide +kernel
theorem dX9_couldFit_13 : decode cX9_couldFit 13 = .ok (.aload_n 0, 1) := by decide +kernel
theorem dX9_couldFit_14 : decode cX9_couldFit 14 = .ok (.getfield 49, 3) := by decide +kernel
theorem dX9_couldFit_17 : decode cX9_couldFit 17 = .ok (.iload_n 2, 1) := by decide +kernel
theorem dX9_couldFit_18 : decode cX9_couldFit 18 = .ok (.iconst 0, 1) := by decide +kernel
theorem dX9_couldFit_19 : decode cX9_couldFit 19 = .ok (.invokevirtual 230, 3) := by decide +kernel
theorem dX9_couldFit_22 : decode cX9_couldFit 22 = .ok (.invokestatic 234, 3) := by decide +kernel
theorem dX9_couldFit_25 : decode cX9_couldFit 25 = .ok (.iload_n 3, 1) := by decide +kernel
theorem dX9_couldFit_26 : decode cX9_couldFit 26 = .ok (.if_icmp .ne 7, 3) := by decide +kernel
theorem dX9_couldFit_29 : decode cX9_couldFit 29 = .ok (.iconst 1, 1) := by decide +kernel
theorem dX9_couldFit_30 : decode cX9_couldFit 30 = .ok (.goto 4, 3) := by decide +kernel
theorem dX9_couldFit_33 : decode cX9_couldFit 33 = .ok (.iconst 0, 1) := by decide +kernel
theorem dX9_couldFit_34 : decode cX9_couldFit 34 = .ok (.istore 4, 2) := by decide +kernel
theorem dX9_couldFit_36 : decode cX9_couldFit 36 = .ok (.aload_n 0, 1) := by decide +kernel
theorem dX9_couldFit_37 : decode cX9_couldFit 37 = .ok (.getfield 19, 3) := by decide +kernel
theorem dX9_couldFit_40 : decode cX9_couldFit 40 = .ok (.iload_n 3, 1) := by decide +kernel
theorem dX9_couldFit_41 : decode cX9_couldFit 41 = .ok (.invokevirtual 207, 3) := by decide +kernel
theorem dX9_couldFit_44 : decode cX9_couldFit 44 = .ok (.iconst 2, 1) := by decide +kernel
theorem dX9_couldFit_45 : decode cX9_couldFit 45 = .ok (.if_icmp .eq 6, 3) := by decide +kernel
theorem dX9_couldFit_48 : decode cX9_couldFit 48 = .ok (.iload 4, 2) := by decide +kernel
theorem dX9_couldFit_50 : decode cX9_couldFit 50 = .ok (.ireturn, 1) := by decide +kernel
theorem dX9_couldFit_51 : decode cX9_couldFit 51 = .ok (.aload_n 0, 1) := by decide +kernel
theorem dX9_couldFit_52 : decode cX9_couldFit 52 = .ok (.getfield 19, 3) := by decide +kernel
theorem dX9_couldFit_55 : decode cX9_couldFit 55 = .ok (.iload_n 3, 1) := by decide +kernel
theorem dX9_couldFit_56 : decode cX9_couldFit 56 = .ok (.invokevirtual 213, 3) := by decide +kernel
theorem dX9_couldFit_59 : decode cX9_couldFit 59 = .ok (.ifCond .lt 5, 3) := by decide +kernel
theorem dX9_couldFit_62 : decode cX9_couldFit 62 = .ok (.iconst 1, 1) := by decide +kernel
theorem dX9_couldFit_63 : decode cX9_couldFit 63 = .ok (.ireturn, 1) := by decide +kernel
theorem dX9_couldFit_64 : decode cX9_couldFit 64 = .ok (.iconst 0, 1) := by decide +kernel
theorem dX9_couldFit_65 : decode cX9_couldFit 65 = .ok (.istore 5, 2) := by decide +kernel
theorem dX9_couldFit_67 : decode cX9_couldFit 67 = .ok (.iload 4, 2) := by decide +kernel
theorem dX9_couldFit_69 : decode cX9_couldFit 69 = .ok (.ifCond .eq 60, 3) := by decide +kernel
theorem dX9_couldFit_72 : decode cX9_couldFit 72 = .ok (.iload 5, 2) := by decide +kernel
theorem dX9_couldFit_74 : decode cX9_couldFit 74 = .ok (.aload_n 0, 1) := by decide +kernel
theorem dX9_couldFit_75 : decode cX9_couldFit 75 = .ok (.getfield 19, 3) := by decide +kernel
theorem dX9_couldFit_78 : decode cX9_couldFit 78 = .ok (.getfield 139, 3) := by decide +kernel
theorem dX9_couldFit_81 : decode cX9_couldFit 81 = .ok (.if_icmp .ge 48, 3) := by decide +kernel
theorem dX9_couldFit_84 : decode cX9_couldFit 84 = .ok (.aload_n 0, 1) := by decide +kernel
theorem dX9_couldFit_85 : decode cX9_couldFit 85 = .ok (.getfield 19, 3) := by decide +kernel
theorem dX9_couldFit_88 : decode cX9_couldFit 88 = .ok (.iload 5, 2) := by decide +kernel
theorem dX9_couldFit_90 : decode cX9_couldFit 90 = .ok (.invokevirtual 207, 3) := by decide +kernel
theorem dX9_couldFit_93 : decode cX9_couldFit 93 = .ok (.iconst 2, 1) := by decide +kernel
theorem dX9_couldFit_94 : decode cX9_couldFit 94 = .ok (.if_icmp .eq 29, 3) := by decide +kernel
theorem dX9_couldFit_97 : decode cX9_couldFit 97 = .ok (.aload_n 0, 1) := by decide +kernel
theorem dX9_couldFit_98 : decode cX9_couldFit 98 = .ok (.getfield 49, 3) := by decide +kernel
theorem dX9_couldFit_101 : decode cX9_couldFit 101 = .ok (.iload_n 2, 1) := by decide +kernel
theorem dX9_couldFit_102 : decode cX9_couldFit 102 = .ok (.iload 5, 2) := by decide +kernel
theorem dX9_couldFit_104 : decode cX9_couldFit 104 = .ok (.invokevirtual 259, 3) := by decide +kernel
theorem dX9_couldFit_107 : decode cX9_couldFit 107 = .ok (.aload_n 0, 1) := by decide +kernel
theorem dX9_couldFit_108 : decode cX9_couldFit 108 = .ok (.getfield 53, 3) := by decide +kernel
theorem dX9_couldFit_111 : decode cX9_couldFit 111 = .ok (.iload_n 1, 1) := by decide +kernel
theorem dX9_couldFit_112 : decode cX9_couldFit 112 = .ok (.iload 5, 2) := by decide +kernel
theorem dX9_couldFit_114 : decode cX9_couldFit 114 = .ok (.invokevirtual 259, 3) := by decide +kernel
theorem dX9_couldFit_117 : decode cX9_couldFit 117 = .ok (.if_icmp .ge 6, 3) := by decide +kernel
theorem dX9_couldFit_120 : decode cX9_couldFit 120 = .ok (.iconst 0, 1) := by decide +kernel
theorem dX9_couldFit_121 : decode cX9_couldFit 121 = .ok (.istore 4, 2) := by decide +kernel
theorem dX9_couldFit_123 : decode cX9_couldFit 123 = .ok (.iinc 5 1, 3) := by decide +kernel
theorem dX9_couldFit_126 : decode cX9_couldFit 126 = .ok (.goto (-59), 3) := by decide +kernel
theorem dX9_couldFit_129 : decode cX9_couldFit 129 = .ok (.iload 4, 2) := by decide +kernel
theorem dX9_couldFit_131 : decode cX9_couldFit 131 = .ok (.ireturn, 1) := by decide +kernel
set_option maxRecDepth 20000 in
theorem ggX9_order_X9_checkTerm : GoodIn wsX9_order wsX9_checkTerm := goodIn_ca (goodIn_r _ [6, 7, 8, 1, 29, 30, 31, 32, 33, 34, 35, 36, 37, 38, 39, 40, 41, 42, 43, 44, 45, 46, 47, 48] rfl (by decide +kernel)) (goodIn_sub (fun _ h => List.mem_cons_of_mem _ (List.mem_append_right _ h)) (by decide +kernel))
set_option maxRecDepth 20000 in
theorem gX9_order_X9_checkTerm : GoodIn wsX9_order (wsV RX9 227 RX9 yX9_checkTerm wsX9_checkTerm) := goodIn_app (goodIn_of _ (by decide +kernel)) ggX9_order_X9_checkTerm
set_option maxRecDepth 20000 in
theorem ggX9_order_X2_compare : GoodIn wsX9_order wsX2_compare := goodIn_r _ [13, 14, 15, 16, 12, 17, 18, 19, 20, 21, 22, 23, 24, 25, 26, 27, 28, 45, 46, 47, 48] rfl (by decide +kernel)
set_option maxRecDepth 20000 in
theorem gX9_order_X2_compare : GoodIn wsX9_order (wsV RX9 262 RX2 yX2_compare wsX2_compare) := goodIn_app (goodIn_of _ (by decide +kernel)) ggX9_order_X2_compare
theorem dX9_order_0 : decode cX9_order 0 = .ok (.aload_n 0, 1) := by decide +kernel
theorem dX9_order_1 : decode cX9_order 1 = .ok (.iload_n 1, 1) := by decide +kernel
theorem dX9_order_2 : decode cX9_order 2 = .ok (.invokevirtual 227, 3) := by decide +kernel
theorem dX9_order_5 : decode cX9_order 5 = .ok (.aload_n 0, 1) := by decide +kernel
theorem dX9_order_6 : decode cX9_order 6 = .ok (.iload_n 2, 1) := by decide +kernel
theorem dX9_order_7 : decode cX9_order 7 = .ok (.invokevirtual 227, 3) := by decide +kernel
theorem dX9_order_10 : decode cX9_order 10 = .ok (.aload_n 0, 1) := by decide +kernel
theorem dX9_order_11 : decode cX9_order 11 = .ok (.getfield 49, 3) := by decide +kernel
theorem dX9_order_14 : decode cX9_order 14 = .ok (.iload_n 1, 1) := by decide +kernel
theorem dX9_order_15 : decode cX9_order 15 = .ok (.aload_n 0, 1) := by decide +kernel
theorem dX9_order_16 : decode cX9_order 16 = .ok (.getfield 49, 3) := by decide +kernel
theorem dX9_order_19 : decode cX9_order 19 = .ok (.iload_n 2, 1) := by decide +kernel
theorem dX9_order_20 : decode cX9_order 20 = .ok (.invokevirtual 262, 3) := by decide +kernel
theorem dX9_order_23 : decode cX9_order 23 = .ok (.ireturn, 1) := by decide +kernel
set_option maxRecDepth 20000 in
theorem ggX9_rank_X2_nth : GoodIn wsX9_rank wsX2_nth := goodIn_r _ [7, 8, 9, 10, 11, 6, 12, 13, 14, 15, 16, 17, 18, 19, 20, 21, 22, 23, 24, 25, 26, 27, 28, 29, 30, 47, 48, 49, 50] rfl (by decide +kernel)
set_option maxRecDepth 20000 in
theorem gX9_rank_X2_nth : GoodIn wsX9_rank (wsV RX9 268 RX2 yX2_nth wsX2_nth) := goodIn_app (goodIn_of _ (by decide +kernel)) ggX9_rank_X2_nth
theorem dX9_rank_0 : decode cX9_rank 0 = .ok (.aload_n 0, 1) := by decide +kernel
theorem dX9_rank_1 : decode cX9_rank 1 = .ok (.getfield 49, 3) := by decide +kernel
theorem dX9_rank_4 : decode cX9_rank 4 = .ok (.iload_n 1, 1) := by decide +kernel
theorem dX9_rank_5 : decode cX9_rank 5 = .ok (.ldc2_w 266, 3) := by decide +kernel
theorem dX9_rank_8 : decode cX9_rank 8 = .ok (.invokevirtual 268, 3) := by decide +kernel
theorem dX9_rank_11 : decode cX9_rank 11 = .ok (.ireturn, 1) := by decide +kernel
set_option maxRecDepth 20000 in
theorem ggX9_show_X9_checkTerm : GoodIn wsX9_show wsX9_checkTerm := goodIn_ca (goodIn_r _ [7, 8, 9, 2, 81, 82, 83, 84, 85, 86, 87, 88, 89, 90, 91, 92, 93, 94, 95, 96, 97, 98, 99, 100] rfl (by decide +kernel)) (goodIn_sub (fun _ h => List.mem_cons_of_mem _ (List.mem_append_right _ h)) (by decide +kernel))
set_option maxRecDepth 20000 in
theorem gX9_show_X9_checkTerm : GoodIn wsX9_show (wsV RX9 227 RX9 yX9_checkTerm wsX9_checkTerm) := goodIn_app (goodIn_of _ (by decide +kernel)) ggX9_show_X9_checkTerm
set_option maxRecDepth 20000 in
theorem ggX9_show_X4_take : GoodIn wsX9_show wsX4_take := goodIn_r _ [14, 15, 16, 17, 18, 19, 20, 21, 22, 23, 24, 25, 26, 27, 28, 29, 30, 31, 32, 33, 34, 35, 36, 37, 38, 39, 40, 41, 42, 43, 44, 45, 46, 47, 48, 49, 50, 51, 13, 52, 53, 54, 55, 56, 57, 58, 59, 60, 61, 62, 63, 64, 6, 65, 66, 67, 68, 69, 70, 71, 72, 73, 74, 75, 76, 77, 78, 79, 80, 101, 102, 103, 104, 105, 97, 98, 99, 100, 106, 107, 108, 109, 110, 111, 112, 113] rfl (by decide +kernel)
set_option maxRecDepth 20000 in
theorem gX9_show_X4_take : GoodIn wsX9_show (wsV RX9 272 RX4 yX4_take wsX4_take) := goodIn_app (goodIn_of _ (by decide +kernel)) ggX9_show_X4_take
theorem dX9_show_0 : decode cX9_show 0 = .ok (.aload_n 0, 1) := by decide +kernel
theorem dX9_show_1 : decode cX9_show 1 = .ok (.iload_n 1, 1) := by decide +kernel
theorem dX9_show_2 : decode cX9_show 2 = .ok (.invokevirtual 227, 3) := by decide +kernel
theorem dX9_show_5 : decode cX9_show 5 = .ok (.aload_n 0, 1) := by decide +kernel
theorem dX9_show_6 : decode cX9_show 6 = .ok (.getfield 62, 3) := by decide +kernel
theorem dX9_show_9 : decode cX9_show 9 = .ok (.aload_n 0, 1) := by decide +kernel
theorem dX9_show_10 : decode cX9_show 10 = .ok (.getfield 49, 3) := by decide +kernel
theorem dX9_show_13 : decode cX9_show 13 = .ok (.iload_n 1, 1) := by decide +kernel
theorem dX9_show_14 : decode cX9_show 14 = .ok (.invokevirtual 272, 3) := by decide +kernel
theorem dX9_show_17 : decode cX9_show 17 = .ok (.ireturn, 1) := by decide +kernel
set_option maxRecDepth 20000 in
theorem ggX9_place_X9_checkTerm : GoodIn wsX9_place wsX9_checkTerm := goodIn_ca (goodIn_r _ [10, 11, 12, 3, 91, 92, 93, 94, 95, 96, 97, 98, 99, 100, 101, 102, 103, 104, 105, 106, 107, 108, 109, 110] rfl (by decide +kernel)) (goodIn_sub (fun _ h => List.mem_cons_of_mem _ (List.mem_append_right _ h)) (by decide +kernel))
set_option maxRecDepth 20000 in
theorem gX9_place_X9_checkTerm : GoodIn wsX9_place (wsV RX9 227 RX9 yX9_checkTerm wsX9_checkTerm) := goodIn_app (goodIn_of _ (by decide +kernel)) ggX9_place_X9_checkTerm
set_option maxRecDepth 20000 in
theorem ggX9_place_X2_lengthOf : GoodIn wsX9_place wsX2_lengthOf := goodIn_r _ [17, 18, 19, 107, 108, 109, 110] rfl (by decide +kernel)
set_option maxRecDepth 20000 in
theorem gX9_place_X2_lengthOf : GoodIn wsX9_place (wsV RX9 240 RX2 yX2_lengthOf wsX2_lengthOf) := goodIn_app (goodIn_of _ (by decide +kernel)) ggX9_place_X2_lengthOf
set_option maxRecDepth 20000 in
theorem ggX9_place_X2_clear : GoodIn wsX9_place wsX2_clear := goodIn_r _ [23, 18, 107, 108, 109, 110] rfl (by decide +kernel)
set_option maxRecDepth 20000 in
theorem gX9_place_X2_clear : GoodIn wsX9_place (wsV RX9 135 RX2 yX2_clear wsX2_clear) := goodIn_app (goodIn_of _ (by decide +kernel)) ggX9_place_X2_clear
set_option maxRecDepth 20000 in
theorem ggX9_place_X2_spanAt : GoodIn wsX9_place wsX2_spanAt := goodIn_r _ [27, 28, 14, 15, 16, 17, 18, 19, 29, 30, 31, 32, 33, 34, 9, 35, 107, 108, 109, 110] rfl (by decide +kernel)
set_option maxRecDepth 20000 in
theorem gX9_place_X2_spanAt : GoodIn wsX9_place (wsV RX9 277 RX2 yX2_spanAt wsX2_spanAt) := goodIn_app (goodIn_of _ (by decide +kernel)) ggX9_place_X2_spanAt
set_option maxRecDepth 20000 in
theorem ggX9_place_X2_copyCells : GoodIn wsX9_place wsX2_copyCells := goodIn_r _ [39, 40, 41, 42, 16, 43, 18, 19, 29, 30, 31, 32, 33, 44, 45, 46, 47, 107, 108, 109, 110] rfl (by decide +kernel)
set_option maxRecDepth 20000 in
theorem gX9_place_X2_copyCells : GoodIn wsX9_place (wsV RX9 280 RX2 yX2_copyCells wsX2_copyCells) := goodIn_app (goodIn_of _ (by decide +kernel)) ggX9_place_X2_copyCells
set_option maxRecDepth 20000 in
theorem ggX9_place_X4_take : GoodIn wsX9_place wsX4_take := goodIn_r _ [52, 53, 54, 55, 21, 22, 16, 23, 18, 56, 57, 58, 59, 28, 14, 15, 17, 19, 60, 37, 38, 39, 40, 41, 42, 43, 29, 30, 31, 32, 33, 44, 45, 46, 47, 61, 62, 63, 51, 64, 65, 66, 67, 68, 69, 70, 71, 72, 73, 74, 75, 76, 9, 77, 78, 79, 80, 81, 82, 83, 84, 85, 86, 34, 35, 87, 88, 89, 90, 111, 112, 113, 114, 115, 107, 108, 109, 110, 116, 117, 118, 119, 120, 121, 122, 123] rfl (by decide +kernel)
set_option maxRecDepth 20000 in
theorem gX9_place_X4_take : GoodIn wsX9_place (wsV RX9 272 RX4 yX4_take wsX4_take) := goodIn_app (goodIn_of _ (by decide +kernel)) ggX9_place_X4_take
theorem dX9_place_0 : decode cX9_place 0 = .ok (.aload_n 0, 1) := by decide +kernel
theorem dX9_place_1 : decode cX9_place 1 = .ok (.iload_n 1, 1) := by decide +kernel
theorem dX9_place_2 : decode cX9_place 2 = .ok (.invokevirtual 227, 3) := by decide +kernel
theorem dX9_place_5 : decode cX9_place 5 = .ok (.iload_n 2, 1) := by decide +kernel
theorem dX9_place_6 : decode cX9_place 6 = .ok (.ifCond .lt 15, 3) := by decide +kernel
theorem dX9_place_9 : decode cX9_place 9 = .ok (.iload_n 2, 1) := by decide +kernel
theorem dX9_place_10 : decode cX9_place 10 = .ok (.aload_n 0, 1) := by decide +kernel
theorem dX9_place_11 : decode cX9_place 11 = .ok (.getfield 49, 3) := by decide +kernel
theorem dX9_place_14 : decode cX9_place 14 = .ok (.iload_n 1, 1) := by decide +kernel
theorem dX9_place_15 : decode cX9_place 15 = .ok (.invokevirtual 240, 3) := by decide +kernel
theorem dX9_place_18 : decode cX9_place 18 = .ok (.if_icmp .lt 14, 3) := by decide +kernel
theorem dX9_place_21 : decode cX9_place 21 = .ok (.new 219, 3) := by decide +kernel
theorem dX9_place_24 : decode cX9_place 24 = .ok (.dup, 1) := by decide +kernel
theorem dX9_place_25 : decode cX9_place 25 = .ok (.ldc_w 275, 3) := by decide +kernel
theorem dX9_place_28 : decode cX9_place 28 = .ok (.invokespecial 223, 3) := by decide +kernel
theorem dX9_place_31 : decode cX9_place 31 = .ok (.athrow, 1) := by decide +kernel
theorem dX9_place_32 : decode cX9_place 32 = .ok (.aload_n 0, 1) := by decide +kernel
theorem dX9_place_33 : decode cX9_place 33 = .ok (.getfield 56, 3) := by decide +kernel
theorem dX9_place_36 : decode cX9_place 36 = .ok (.invokevirtual 135, 3) := by decide +kernel
theorem dX9_place_39 : decode cX9_place 39 = .ok (.aload_n 0, 1) := by decide +kernel
theorem dX9_place_40 : decode cX9_place 40 = .ok (.getfield 56, 3) := by decide +kernel
theorem dX9_place_43 : decode cX9_place 43 = .ok (.aload_n 0, 1) := by decide +kernel
theorem dX9_place_44 : decode cX9_place 44 = .ok (.getfield 49, 3) := by decide +kernel
theorem dX9_place_47 : decode cX9_place 47 = .ok (.iload_n 1, 1) := by decide +kernel
theorem dX9_place_48 : decode cX9_place 48 = .ok (.iload_n 2, 1) := by decide +kernel
theorem dX9_place_49 : decode cX9_place 49 = .ok (.aload_n 0, 1) := by decide +kernel
theorem dX9_place_50 : decode cX9_place 50 = .ok (.getfield 49, 3) := by decide +kernel
theorem dX9_place_53 : decode cX9_place 53 = .ok (.iload_n 1, 1) := by decide +kernel
theorem dX9_place_54 : decode cX9_place 54 = .ok (.iload_n 2, 1) := by decide +kernel
theorem dX9_place_55 : decode cX9_place 55 = .ok (.invokevirtual 277, 3) := by decide +kernel
theorem dX9_place_58 : decode cX9_place 58 = .ok (.invokevirtual 280, 3) := by decide +kernel
theorem dX9_place_61 : decode cX9_place 61 = .ok (.aload_n 0, 1) := by decide +kernel
theorem dX9_place_62 : decode cX9_place 62 = .ok (.getfield 62, 3) := by decide +kernel
theorem dX9_place_65 : decode cX9_place 65 = .ok (.aload_n 0, 1) := by decide +kernel
theorem dX9_place_66 : decode cX9_place 66 = .ok (.getfield 56, 3) := by decide +kernel
theorem dX9_place_69 : decode cX9_place 69 = .ok (.iconst 0, 1) := by decide +kernel
theorem dX9_place_70 : decode cX9_place 70 = .ok (.invokevirtual 272, 3) := by decide +kernel
theorem dX9_place_73 : decode cX9_place 73 = .ok (.ireturn, 1) := by decide +kernel
set_option maxRecDepth 20000 in
theorem ggX9_side_X9_checkRule : GoodIn wsX9_side wsX9_checkRule := goodIn_ca (goodIn_r _ [7, 8, 9, 10, 11, 12, 6, 13, 2, 85, 86, 87, 88, 89, 90, 91, 92, 93, 94, 95, 96, 97, 98, 99, 100, 101, 102, 103, 104] rfl (by decide +kernel)) (goodIn_sub (fun _ h => List.mem_cons_of_mem _ (List.mem_append_right _ h)) (by decide +kernel))
set_option maxRecDepth 20000 in
theorem gX9_side_X9_checkRule : GoodIn wsX9_side (wsV RX9 201 RX9 yX9_checkRule wsX9_checkRule) := goodIn_app (goodIn_of _ (by decide +kernel)) ggX9_side_X9_checkRule
set_option maxRecDepth 20000 in
theorem ggX9_side_X4_take : GoodIn wsX9_side wsX4_take := goodIn_r _ [18, 19, 20, 21, 22, 23, 24, 25, 26, 27, 28, 29, 30, 31, 32, 33, 34, 35, 36, 37, 38, 39, 40, 41, 42, 43, 44, 45, 46, 47, 48, 49, 50, 51, 52, 53, 54, 55, 17, 56, 57, 58, 59, 60, 61, 62, 63, 64, 65, 66, 67, 68, 6, 69, 70, 71, 72, 73, 74, 75, 76, 77, 78, 79, 80, 81, 82, 83, 84, 105, 106, 107, 108, 109, 101, 102, 103, 104, 110, 111, 112, 113, 114, 115, 116, 117] rfl (by decide +kernel)
set_option maxRecDepth 20000 in
theorem gX9_side_X4_take : GoodIn wsX9_side (wsV RX9 272 RX4 yX4_take wsX4_take) := goodIn_app (goodIn_of _ (by decide +kernel)) ggX9_side_X4_take
theorem dX9_side_0 : decode cX9_side 0 = .ok (.aload_n 0, 1) := by decide +kernel
theorem dX9_side_1 : decode cX9_side 1 = .ok (.iload_n 1, 1) := by decide +kernel
theorem dX9_side_2 : decode cX9_side 2 = .ok (.invokevirtual 201, 3) := by decide +kernel
theorem dX9_side_5 : decode cX9_side 5 = .ok (.aload_n 0, 1) := by decide +kernel
theorem dX9_side_6 : decode cX9_side 6 = .ok (.getfield 62, 3) := by decide +kernel
theorem dX9_side_9 : decode cX9_side 9 = .ok (.aload_n 0, 1) := by decide +kernel
theorem dX9_side_10 : decode cX9_side 10 = .ok (.getfield 53, 3) := by decide +kernel
theorem dX9_side_13 : decode cX9_side 13 = .ok (.iload_n 2, 1) := by decide +kernel
theorem dX9_side_14 : decode cX9_side 14 = .ok (.ifCond .eq 11, 3) := by decide +kernel
theorem dX9_side_17 : decode cX9_side 17 = .ok (.iconst 2, 1) := by decide +kernel
theorem dX9_side_18 : decode cX9_side 18 = .ok (.iload_n 1, 1) := by decide +kernel
theorem dX9_side_19 : decode cX9_side 19 = .ok (.imul, 1) := by decide +kernel
theorem dX9_side_20 : decode cX9_side 20 = .ok (.iconst 1, 1) := by decide +kernel
theorem dX9_side_21 : decode cX9_side 21 = .ok (.iadd, 1) := by decide +kernel
theorem dX9_side_22 : decode cX9_side 22 = .ok (.goto 6, 3) := by decide +kernel
theorem dX9_side_25 : decode cX9_side 25 = .ok (.iconst 2, 1) := by decide +kernel
theorem dX9_side_26 : decode cX9_side 26 = .ok (.iload_n 1, 1) := by decide +kernel
theorem dX9_side_27 : decode cX9_side 27 = .ok (.imul, 1) := by decide +kernel
theorem dX9_side_28 : decode cX9_side 28 = .ok (.invokevirtual 272, 3) := by decide +kernel
theorem dX9_side_31 : decode cX9_side 31 = .ok (.ireturn, 1) := by decide +kernel
set_option maxRecDepth 20000 in
theorem ggX9_keep_X9_tell : GoodIn wsX9_keep wsX9_tell := goodIn_ca (goodIn_r _ [8, 1, 2, 9, 10, 11, 12, 13, 14, 15, 16, 17, 18, 19, 20, 21, 22, 23, 24, 25, 26, 27, 28, 29, 30, 31, 32, 33, 34, 35, 36, 37, 38, 39, 40, 41, 42, 43, 44, 45, 46, 47, 48, 49, 50, 51, 52, 53, 54, 55, 56, 57, 58, 59, 60, 61, 62, 63, 64, 65, 71, 72, 73, 74] rfl (by decide +kernel)) (goodIn_sub (fun _ h => List.mem_cons_of_mem _ (List.mem_append_right _ h)) (by decide +kernel))
set_option maxRecDepth 20000 in
theorem gX9_keep_X9_tell : GoodIn wsX9_keep (wsV RX9 162 RX9 yX9_tell wsX9_tell) := goodIn_app (goodIn_of _ (by decide +kernel)) ggX9_keep_X9_tell
theorem dX9_keep_0 : decode cX9_keep 0 = .ok (.aload_n 0, 1) := by decide +kernel
theorem dX9_keep_1 : decode cX9_keep 1 = .ok (.getfield 62, 3) := by decide +kernel
theorem dX9_keep_4 : decode cX9_keep 4 = .ok (.getfield 284, 3) := by decide +kernel
theorem dX9_keep_7 : decode cX9_keep 7 = .ok (.getfield 192, 3) := by decide +kernel
theorem dX9_keep_10 : decode cX9_keep 10 = .ok (.ifCond .ne 14, 3) := by decide +kernel
theorem dX9_keep_13 : decode cX9_keep 13 = .ok (.new 153, 3) := by decide +kernel
theorem dX9_keep_16 : decode cX9_keep 16 = .ok (.dup, 1) := by decide +kernel
theorem dX9_keep_17 : decode cX9_keep 17 = .ok (.ldc_w 287, 3) := by decide +kernel
theorem dX9_keep_20 : decode cX9_keep 20 = .ok (.invokespecial 157, 3) := by decide +kernel
theorem dX9_keep_23 : decode cX9_keep 23 = .ok (.athrow, 1) := by decide +kernel
theorem dX9_keep_24 : decode cX9_keep 24 = .ok (.aload_n 0, 1) := by decide +kernel
theorem dX9_keep_25 : decode cX9_keep 25 = .ok (.aload_n 0, 1) := by decide +kernel
theorem dX9_keep_26 : decode cX9_keep 26 = .ok (.getfield 62, 3) := by decide +kernel
theorem dX9_keep_29 : decode cX9_keep 29 = .ok (.getfield 284, 3) := by decide +kernel
theorem dX9_keep_32 : decode cX9_keep 32 = .ok (.invokevirtual 162, 3) := by decide +kernel
theorem dX9_keep_35 : decode cX9_keep 35 = .ok (.ireturn, 1) := by decide +kernel
set_option maxRecDepth 20000 in
theorem ggX9_octet_X4_byteAt : GoodIn wsX9_octet wsX4_byteAt := goodIn_r _ [6, 7, 8, 25, 26, 27, 28, 29] rfl (by decide +kernel)
set_option maxRecDepth 20000 in
theorem gX9_octet_X4_byteAt : GoodIn wsX9_octet (wsV RX9 289 RX4 yX4_byteAt wsX4_byteAt) := goodIn_app (goodIn_of _ (by decide +kernel)) ggX9_octet_X4_byteAt
theorem dX9_octet_0 : decode cX9_octet 0 = .ok (.aload_n 0, 1) := by decide +kernel
theorem dX9_octet_1 : decode cX9_octet 1 = .ok (.getfield 62, 3) := by decide +kernel
theorem dX9_octet_4 : decode cX9_octet 4 = .ok (.iload_n 1, 1) := by decide +kernel
theorem dX9_octet_5 : decode cX9_octet 5 = .ok (.invokevirtual 289, 3) := by decide +kernel
theorem dX9_octet_8 : decode cX9_octet 8 = .ok (.ireturn, 1) := by decide +kernel
set_option maxRecDepth 20000 in
theorem ggX9_showNode_X2_clear : GoodIn wsX9_showNode wsX2_clear := goodIn_r _ [8, 9, 121, 122, 123, 124] rfl (by decide +kernel)
set_option maxRecDepth 20000 in
theorem gX9_showNode_X2_clear : GoodIn wsX9_showNode (wsV RX9 135 RX2 yX2_clear wsX2_clear) := goodIn_app (goodIn_of _ (by decide +kernel)) ggX9_showNode_X2_clear
set_option maxRecDepth 20000 in
theorem ggX9_showNode_X8_write : GoodIn wsX9_showNode wsX8_write := goodIn_r _ [14, 15, 16, 17, 18, 7, 19, 9, 20, 21, 22, 23, 13, 24, 25, 26, 27, 28, 29, 30, 31, 32, 33, 34, 35, 36, 37, 38, 39, 40, 41, 42, 43, 44, 45, 46, 47, 48, 125, 126, 127, 128, 129, 130, 131, 132, 133, 134, 135, 136, 137, 138, 139, 140, 141, 142, 143, 121, 122, 123, 124] rfl (by decide +kernel)
set_option maxRecDepth 20000 in
theorem gX9_showNode_X8_write : GoodIn wsX9_showNode (wsV RX9 158 RX8 yX8_write wsX8_write) := goodIn_app (goodIn_of _ (by decide +kernel)) ggX9_showNode_X8_write
set_option maxRecDepth 20000 in
theorem ggX9_showNode_X4_take : GoodIn wsX9_showNode wsX4_take := goodIn_r _ [53, 54, 55, 56, 5, 6, 7, 8, 9, 57, 58, 59, 60, 61, 62, 63, 64, 20, 65, 66, 67, 68, 69, 17, 18, 19, 70, 71, 72, 73, 40, 74, 37, 38, 39, 75, 76, 77, 52, 78, 79, 80, 81, 82, 83, 84, 85, 86, 87, 88, 89, 90, 42, 91, 92, 93, 94, 95, 96, 97, 98, 99, 100, 41, 43, 101, 102, 103, 104, 144, 145, 146, 147, 148, 121, 122, 123, 124, 149, 150, 151, 152, 153, 154, 155, 156] rfl (by decide +kernel)
set_option maxRecDepth 20000 in
theorem gX9_showNode_X4_take : GoodIn wsX9_showNode (wsV RX9 272 RX4 yX4_take wsX4_take) := goodIn_app (goodIn_of _ (by decide +kernel)) ggX9_showNode_X4_take
theorem dX9_showNode_0 : decode cX9_showNode 0 = .ok (.aload_n 0, 1) := by decide +kernel
theorem dX9_showNode_1 : decode cX9_showNode 1 = .ok (.getfield 56, 3) := by decide +kernel
theorem dX9_showNode_4 : decode cX9_showNode 4 = .ok (.invokevirtual 135, 3) := by decide +kernel
theorem dX9_showNode_7 : decode cX9_showNode 7 = .ok (.aload_n 0, 1) := by decide +kernel
theorem dX9_showNode_8 : decode cX9_showNode 8 = .ok (.getfield 31, 3) := by decide +kernel
theorem dX9_showNode_11 : decode cX9_showNode 11 = .ok (.iload_n 1, 1) := by decide +kernel
theorem dX9_showNode_12 : decode cX9_showNode 12 = .ok (.aload_n 0, 1) := by decide +kernel
theorem dX9_showNode_13 : decode cX9_showNode 13 = .ok (.getfield 56, 3) := by decide +kernel
theorem dX9_showNode_16 : decode cX9_showNode 16 = .ok (.invokevirtual 158, 3) := by decide +kernel
theorem dX9_showNode_19 : decode cX9_showNode 19 = .ok (.aload_n 0, 1) := by decide +kernel
theorem dX9_showNode_20 : decode cX9_showNode 20 = .ok (.getfield 62, 3) := by decide +kernel
theorem dX9_showNode_23 : decode cX9_showNode 23 = .ok (.aload_n 0, 1) := by decide +kernel
theorem dX9_showNode_24 : decode cX9_showNode 24 = .ok (.getfield 56, 3) := by decide +kernel
theorem dX9_showNode_27 : decode cX9_showNode 27 = .ok (.iconst 0, 1) := by decide +kernel
theorem dX9_showNode_28 : decode cX9_showNode 28 = .ok (.invokevirtual 272, 3) := by decide +kernel
theorem dX9_showNode_31 : decode cX9_showNode 31 = .ok (.ireturn, 1) := by decide +kernel
set_option maxRecDepth 20000 in
theorem ggX9_matches_X9_checkTerm : GoodIn wsX9_matches wsX9_checkTerm := goodIn_ca (goodIn_r _ [6, 7, 8, 9, 290, 291, 292, 293, 294, 295, 296, 297, 298, 299, 300, 301, 302, 303, 304, 305, 326, 327, 328, 329] rfl (by decide +kernel)) (goodIn_sub (fun _ h => List.mem_cons_of_mem _ (List.mem_append_left _ (List.mem_append_right _ h))) (by decide +kernel))
set_option maxRecDepth 20000 in
theorem gX9_matches_X9_checkTerm : GoodIn wsX9_matches (wsV RX9 227 RX9 yX9_checkTerm wsX9_checkTerm) := goodIn_app (goodIn_of _ (by decide +kernel)) ggX9_matches_X9_checkTerm
set_option maxRecDepth 20000 in
theorem ggX9_matches_X9_matchTold : GoodIn wsX9_matches wsX9_matchTold := goodIn_ca (goodIn_r _ [13, 14, 15, 16, 9, 1, 17, 18, 19, 20, 21, 22, 23, 24, 25, 26, 27, 28, 29, 30, 31, 32, 33, 34, 35, 36, 37, 38, 39, 40, 41, 42, 43, 44, 45, 46, 47, 48, 49, 50, 51, 52, 53, 54, 55, 5, 56, 57, 58, 59, 60, 61, 62, 63, 64, 65, 66, 67, 68, 69, 70, 71, 72, 73, 74, 75, 76, 77, 78, 79, 80, 81, 82, 83, 84, 85, 86, 87, 88, 89, 90, 91, 92, 93, 94, 95, 96, 97, 98, 99, 100, 101, 102, 103, 104, 105, 106, 107, 108, 109, 110, 111, 112, 113, 114, 115, 116, 117, 118, 119, 120, 121, 122, 123, 124, 125, 126, 127, 128, 129, 130, 131, 132, 133, 134, 135, 136, 137, 138, 139, 140, 141, 142, 143, 144, 145, 146, 147, 148, 149, 150, 151, 152, 153, 154, 155, 156, 157, 158, 159, 160, 161, 162, 163, 164, 165, 166, 167, 168, 169, 170, 171, 172, 173, 174, 175, 176, 177, 178, 179, 180, 181, 182, 183, 184, 185, 186, 187, 188, 189, 190, 191, 192, 193, 194, 195, 196, 197, 198, 199, 200, 201, 202, 203, 204, 205, 206, 207, 208, 209, 210, 211, 212, 213, 214, 215, 216, 217, 218, 219, 220, 221, 222, 223, 224, 225, 226, 227, 228, 229, 230, 231, 232, 233, 234, 235, 236, 237, 238, 239, 240, 241, 242, 243, 244, 245, 246, 247, 248, 249, 250, 251, 252, 253, 254, 255, 256, 257, 258, 259, 260, 261, 262, 263, 264, 265, 266, 267, 268, 269, 270, 271, 272, 273, 274, 275, 276, 277, 278, 279, 280, 281, 282, 283, 284, 285, 286, 287, 288, 289, 290, 291, 292, 293, 294, 295, 296, 297, 298, 299, 300, 301, 302, 303, 304, 305, 330, 331, 332, 333, 334, 335, 336, 337, 338, 339, 340, 341, 342, 343, 344, 345, 346, 347, 348, 326, 327, 328, 329, 349, 350, 351, 352, 353, 354, 355, 356, 306, 307, 308, 309, 310, 311, 312, 313, 314, 315, 316, 317, 318, 319, 320, 321, 322, 323, 324, 325] rfl (by decide +kernel)) (goodIn_sub (fun _ h => List.mem_cons_of_mem _ (List.mem_append_right _ h)) (by decide +kernel))
set_option maxRecDepth 20000 in
theorem gX9_matches_X9_matchTold : GoodIn wsX9_matches (wsV RX9 292 RX9 yX9_matchTold wsX9_matchTold) := goodIn_app (goodIn_of _ (by decide +kernel)) ggX9_matches_X9_matchTold
theorem dX9_matches_0 : decode cX9_matches 0 = .ok (.aload_n 0, 1) := by decide +kernel
theorem dX9_matches_1 : decode cX9_matches 1 = .ok (.iload_n 1, 1) := by decide +kernel
theorem dX9_matches_2 : decode cX9_matches 2 = .ok (.invokevirtual 227, 3) := by decide +kernel
theorem dX9_matches_5 : decode cX9_matches 5 = .ok (.aload_n 0, 1) := by decide +kernel
theorem dX9_matches_6 : decode cX9_matches 6 = .ok (.iload_n 2, 1) := by decide +kernel
theorem dX9_matches_7 : decode cX9_matches 7 = .ok (.invokevirtual 227, 3) := by decide +kernel
theorem dX9_matches_10 : decode cX9_matches 10 = .ok (.aload_n 0, 1) := by decide +kernel
theorem dX9_matches_11 : decode cX9_matches 11 = .ok (.iload_n 1, 1) := by decide +kernel
theorem dX9_matches_12 : decode cX9_matches 12 = .ok (.iload_n 2, 1) := by decide +kernel
theorem dX9_matches_13 : decode cX9_matches 13 = .ok (.invokevirtual 292, 3) := by decide +kernel
theorem dX9_matches_16 : decode cX9_matches 16 = .ok (.aload_n 0, 1) := by decide +kernel
theorem dX9_matches_17 : decode cX9_matches 17 = .ok (.getfield 71, 3) := by decide +kernel
theorem dX9_matches_20 : decode cX9_matches 20 = .ok (.getfield 296, 3) := by decide +kernel
theorem dX9_matches_23 : decode cX9_matches 23 = .ok (.ireturn, 1) := by decide +kernel
set_option maxRecDepth 20000 in
theorem ggX9_bound_X9_checkTerm : GoodIn wsX9_bound wsX9_checkTerm := goodIn_ca (goodIn_r _ [9, 10, 11, 4, 378, 379, 380, 381, 382, 383, 384, 385, 386, 387, 388, 389, 390, 391, 392, 393, 414, 415, 416, 417] rfl (by decide +kernel)) (goodIn_sub (fun _ h => List.mem_cons_of_mem _ (List.mem_append_left _ (List.mem_append_right _ h))) (by decide +kernel))
set_option maxRecDepth 20000 in
theorem gX9_bound_X9_checkTerm : GoodIn wsX9_bound (wsV RX9 227 RX9 yX9_checkTerm wsX9_checkTerm) := goodIn_app (goodIn_of _ (by decide +kernel)) ggX9_bound_X9_checkTerm
set_option maxRecDepth 20000 in
theorem ggX9_bound_X9_checkVariable : GoodIn wsX9_bound wsX9_checkVariable := goodIn_ca (goodIn_r _ [15, 10, 11, 16, 378, 379, 380, 381, 382, 383, 384, 385, 386, 387, 388, 389, 390, 391, 392, 393, 418, 419, 420, 421, 422, 423, 424, 425] rfl (by decide +kernel)) (goodIn_sub (fun _ h => List.mem_cons_of_mem _ (List.mem_append_left _ (List.mem_append_right _ h))) (by decide +kernel))
set_option maxRecDepth 20000 in
theorem gX9_bound_X9_checkVariable : GoodIn wsX9_bound (wsV RX9 297 RX9 yX9_checkVariable wsX9_checkVariable) := goodIn_app (goodIn_of _ (by decide +kernel)) ggX9_bound_X9_checkVariable
set_option maxRecDepth 20000 in
theorem ggX9_bound_X9_matchTold : GoodIn wsX9_bound wsX9_matchTold := goodIn_ca (goodIn_r _ [20, 21, 22, 23, 4, 3, 24, 25, 26, 27, 28, 29, 30, 31, 32, 33, 34, 35, 36, 37, 38, 39, 40, 41, 42, 43, 44, 45, 46, 47, 48, 49, 50, 51, 52, 53, 54, 55, 56, 57, 58, 59, 60, 61, 62, 8, 63, 64, 65, 66, 67, 68, 69, 70, 71, 72, 73, 74, 75, 76, 77, 78, 79, 80, 81, 82, 83, 84, 85, 86, 87, 88, 89, 90, 91, 92, 93, 94, 95, 96, 97, 98, 99, 100, 101, 102, 103, 104, 105, 106, 107, 108, 109, 110, 111, 112, 113, 114, 115, 116, 117, 118, 119, 120, 121, 122, 123, 124, 125, 126, 127, 128, 129, 130, 131, 132, 133, 134, 135, 136, 137, 138, 139, 140, 141, 142, 143, 144, 145, 146, 147, 148, 149, 150, 151, 152, 153, 154, 155, 156, 157, 158, 159, 160, 161, 162, 163, 164, 165, 166, 167, 168, 169, 170, 171, 172, 173, 174, 175, 176, 177, 178, 179, 180, 181, 182, 183, 184, 185, 186, 187, 188, 189, 190, 191, 192, 193, 194, 195, 196, 197, 198, 199, 200, 201, 202, 203, 204, 205, 206, 207, 208, 209, 210, 211, 212, 213, 214, 215, 216, 217, 218, 219, 220, 221, 222, 223, 224, 225, 226, 227, 228, 229, 230, 231, 232, 233, 234, 235, 236, 237, 238, 239, 240, 241, 242, 243, 244, 245, 246, 247, 248, 249, 250, 251, 252, 253, 254, 255, 256, 257, 258, 259, 260, 261, 262, 263, 264, 265, 266, 267, 268, 269, 270, 271, 272, 273, 274, 275, 276, 277, 278, 279, 280, 281, 282, 283, 284, 285, 286, 287, 288, 289, 290, 291, 292, 293, 294, 295, 296, 378, 379, 380, 381, 382, 383, 384, 385, 386, 387, 388, 389, 390, 391, 392, 393, 426, 427, 428, 429, 430, 431, 432, 433, 434, 435, 436, 437, 438, 439, 440, 441, 442, 443, 444, 414, 415, 416, 417, 418, 419, 420, 421, 422, 423, 424, 425, 394, 395, 396, 397, 398, 399, 400, 401, 402, 403, 404, 405, 406, 407, 408, 409, 410, 411, 412, 413] rfl (by decide +kernel)) (goodIn_sub (fun _ h => List.mem_cons_of_mem _ (List.mem_append_right _ h)) (by decide +kernel))
set_option maxRecDepth 20000 in
theorem gX9_bound_X9_matchTold : GoodIn wsX9_bound (wsV RX9 292 RX9 yX9_matchTold wsX9_matchTold) := goodIn_app (goodIn_of _ (by decide +kernel)) ggX9_bound_X9_matchTold
set_option maxRecDepth 20000 in
theorem ggX9_bound_X2_variablesIn : GoodIn wsX9_bound wsX2_variablesIn := goodIn_r _ [300, 301, 51, 52, 53, 54, 55, 56, 302, 58, 59, 60, 61, 414, 415, 416, 417] rfl (by decide +kernel)
set_option maxRecDepth 20000 in
theorem gX9_bound_X2_variablesIn : GoodIn wsX9_bound (wsV RX9 246 RX2 yX2_variablesIn wsX2_variablesIn) := goodIn_app (goodIn_of _ (by decide +kernel)) ggX9_bound_X2_variablesIn
set_option maxRecDepth 20000 in
theorem ggX9_bound_X0_boundTo : GoodIn wsX9_bound wsX0_boundTo := goodIn_r _ [306, 266, 307, 308, 309, 87, 310, 89, 267, 394, 395, 396, 397, 398, 399, 400, 401, 402, 403, 404, 405, 406, 407, 408, 409, 410, 411, 412, 413] rfl (by decide +kernel)
set_option maxRecDepth 20000 in
theorem gX9_bound_X0_boundTo : GoodIn wsX9_bound (wsV RX9 302 RX0 yX0_boundTo wsX0_boundTo) := goodIn_app (goodIn_of _ (by decide +kernel)) ggX9_bound_X0_boundTo
set_option maxRecDepth 20000 in
theorem ggX9_bound_X9_showNode : GoodIn wsX9_bound wsX9_showNode := goodIn_r _ [314, 315, 23, 316, 317, 318, 319, 53, 320, 55, 321, 322, 323, 27, 324, 29, 325, 326, 327, 328, 56, 80, 81, 82, 83, 68, 64, 65, 66, 67, 124, 125, 126, 127, 34, 75, 329, 330, 331, 332, 61, 62, 8, 63, 163, 151, 152, 153, 76, 333, 334, 335, 336, 337, 338, 339, 340, 341, 342, 343, 344, 301, 51, 52, 54, 345, 346, 347, 348, 349, 302, 58, 59, 60, 350, 351, 352, 353, 354, 355, 356, 357, 358, 359, 360, 361, 133, 362, 363, 364, 128, 129, 365, 366, 367, 368, 369, 370, 371, 372, 373, 374, 375, 376, 377, 378, 379, 380, 381, 382, 383, 384, 385, 386, 387, 388, 389, 390, 391, 392, 393, 414, 415, 416, 417, 426, 427, 428, 429, 430, 431, 432, 433, 434, 435, 436, 437, 438, 439, 440, 441, 442, 443, 444, 445, 446, 447, 448, 449, 418, 419, 420, 421, 422, 423, 424, 425] rfl (by decide +kernel)
set_option maxRecDepth 20000 in
theorem gX9_bound_X9_showNode : GoodIn wsX9_bound (wsV RX9 305 RX9 yX9_showNode wsX9_showNode) := goodIn_app (goodIn_of _ (by decide +kernel)) ggX9_bound_X9_showNode
theorem dX9_bound_0 : decode cX9_bound 0 = .ok (.aload_n 0, 1) := by decide +kernel
theorem dX9_bound_1 : decode cX9_bound 1 = .ok (.iload_n 1, 1) := by decide +kernel
theorem dX9_bound_2 : decode cX9_bound 2 = .ok (.invokevirtual 227, 3) := by decide +kernel
theorem dX9_bound_5 : decode cX9_bound 5 = .ok (.aload_n 0, 1) := by decide +kernel
theorem dX9_bound_6 : decode cX9_bound 6 = .ok (.iload_n 2, 1) := by decide +kernel
theorem dX9_bound_7 : decode cX9_bound 7 = .ok (.invokevirtual 227, 3) := by decide +kernel
theorem dX9_bound_10 : decode cX9_bound 10 = .ok (.aload_n 0, 1) := by decide +kernel
theorem dX9_bound_11 : decode cX9_bound 11 = .ok (.iload 4, 2) := by decide +kernel
theorem dX9_bound_13 : decode cX9_bound 13 = .ok (.invokevirtual 297, 3) := by decide +kernel
theorem dX9_bound_16 : decode cX9_bound 16 = .ok (.aload_n 0, 1) := by decide +kernel
theorem dX9_bound_17 : decode cX9_bound 17 = .ok (.iload_n 1, 1) := by decide +kernel
theorem dX9_bound_18 : decode cX9_bound 18 = .ok (.iload_n 2, 1) := by decide +kernel
theorem dX9_bound_19 : decode cX9_bound 19 = .ok (.invokevirtual 292, 3) := by decide +kernel
theorem dX9_bound_22 : decode cX9_bound 22 = .ok (.iload_n 3, 1) := by decide +kernel
theorem dX9_bound_23 : decode cX9_bound 23 = .ok (.ifCond .lt 30, 3) := by decide +kernel
theorem dX9_bound_26 : decode cX9_bound 26 = .ok (.iload_n 3, 1) := by decide +kernel
theorem dX9_bound_27 : decode cX9_bound 27 = .ok (.aload_n 0, 1) := by decide +kernel
theorem dX9_bound_28 : decode cX9_bound 28 = .ok (.getfield 71, 3) := by decide +kernel
theorem dX9_bound_31 : decode cX9_bound 31 = .ok (.getfield 296, 3) := by decide +kernel
theorem dX9_bound_34 : decode cX9_bound 34 = .ok (.if_icmp .ge 19, 3) := by decide +kernel
theorem dX9_bound_37 : decode cX9_bound 37 = .ok (.aload_n 0, 1) := by decide +kernel
theorem dX9_bound_38 : decode cX9_bound 38 = .ok (.getfield 49, 3) := by decide +kernel
theorem dX9_bound_41 : decode cX9_bound 41 = .ok (.iload_n 1, 1) := by decide +kernel
theorem dX9_bound_42 : decode cX9_bound 42 = .ok (.invokevirtual 246, 3) := by decide +kernel
theorem dX9_bound_45 : decode cX9_bound 45 = .ok (.iload 4, 2) := by decide +kernel
theorem dX9_bound_47 : decode cX9_bound 47 = .ok (.ishr, 1) := by decide +kernel
theorem dX9_bound_48 : decode cX9_bound 48 = .ok (.iconst 1, 1) := by decide +kernel
theorem dX9_bound_49 : decode cX9_bound 49 = .ok (.iand, 1) := by decide +kernel
theorem dX9_bound_50 : decode cX9_bound 50 = .ok (.ifCond .ne 14, 3) := by decide +kernel
theorem dX9_bound_53 : decode cX9_bound 53 = .ok (.new 219, 3) := by decide +kernel
theorem dX9_bound_56 : decode cX9_bound 56 = .ok (.dup, 1) := by decide +kernel
theorem dX9_bound_57 : decode cX9_bound 57 = .ok (.ldc_w 300, 3) := by decide +kernel
theorem dX9_bound_60 : decode cX9_bound 60 = .ok (.invokespecial 223, 3) := by decide +kernel
theorem dX9_bound_63 : decode cX9_bound 63 = .ok (.athrow, 1) := by decide +kernel
theorem dX9_bound_64 : decode cX9_bound 64 = .ok (.aload_n 0, 1) := by decide +kernel
theorem dX9_bound_65 : decode cX9_bound 65 = .ok (.aload_n 0, 1) := by decide +kernel
theorem dX9_bound_66 : decode cX9_bound 66 = .ok (.getfield 71, 3) := by decide +kernel
theorem dX9_bound_69 : decode cX9_bound 69 = .ok (.iload_n 3, 1) := by decide +kernel
theorem dX9_bound_70 : decode cX9_bound 70 = .ok (.iload 4, 2) := by decide +kernel
theorem dX9_bound_72 : decode cX9_bound 72 = .ok (.invokevirtual 302, 3) := by decide +kernel
theorem dX9_bound_75 : decode cX9_bound 75 = .ok (.invokevirtual 305, 3) := by decide +kernel
theorem dX9_bound_78 : decode cX9_bound 78 = .ok (.ireturn, 1) := by decide +kernel
set_option maxRecDepth 20000 in
theorem ggX9_matchTold_X8_clear : GoodIn wsX9_matchTold wsX8_clear := goodIn_r _ [10, 11, 12, 13, 14, 9, 15, 16, 17, 18, 19, 20, 21, 22, 23, 24, 25, 26, 296, 297, 298, 299, 300, 301, 302, 303, 304, 305, 306, 307, 308, 309, 310, 311, 312, 313, 314] rfl (by decide +kernel)
set_option maxRecDepth 20000 in
theorem gX9_matchTold_X8_clear : GoodIn wsX9_matchTold (wsV RX9 142 RX8 yX8_clear wsX8_clear) := goodIn_app (goodIn_of _ (by decide +kernel)) ggX9_matchTold_X8_clear
set_option maxRecDepth 20000 in
theorem ggX9_matchTold_X8_fromRow : GoodIn wsX9_matchTold wsX8_fromRow := goodIn_r _ [30, 11, 31, 32, 33, 34, 35, 36, 37, 38, 39, 40, 41, 42, 43, 44, 45, 46, 47, 48, 49, 9, 50, 51, 52, 53, 54, 55, 16, 56, 57, 18, 58, 59, 19, 17, 60, 61, 62, 63, 64, 65, 66, 296, 297, 298, 299, 300, 301, 302, 303, 304, 305, 306, 307, 308, 309, 310, 311, 312, 313, 314, 315, 316, 317, 318, 319, 320, 321, 322, 323, 324, 325, 326] rfl (by decide +kernel)
set_option maxRecDepth 20000 in
theorem gX9_matchTold_X8_fromRow : GoodIn wsX9_matchTold (wsV RX9 308 RX8 yX8_fromRow wsX8_fromRow) := goodIn_app (goodIn_of _ (by decide +kernel)) ggX9_matchTold_X8_fromRow
set_option maxRecDepth 20000 in
theorem ggX9_matchTold_X0_run : GoodIn wsX9_matchTold wsX0_run := goodIn_r _ [71, 72, 73, 74, 75, 76, 77, 78, 79, 80, 81, 82, 83, 70, 84, 85, 86, 87, 88, 89, 90, 9, 91, 16, 61, 92, 93, 94, 95, 62, 96, 97, 98, 99, 100, 101, 102, 103, 104, 105, 106, 60, 107, 108, 109, 110, 58, 111, 45, 112, 113, 114, 115, 116, 117, 118, 119, 120, 121, 122, 123, 44, 46, 124, 125, 126, 127, 128, 129, 130, 131, 132, 133, 134, 135, 136, 59, 137, 138, 139, 140, 57, 141, 142, 143, 144, 11, 51, 145, 146, 147, 63, 64, 65, 66, 148, 149, 150, 151, 152, 153, 154, 155, 156, 157, 158, 159, 160, 31, 161, 162, 163, 164, 165, 166, 167, 168, 169, 170, 171, 172, 52, 53, 54, 55, 56, 18, 19, 17, 173, 174, 175, 176, 177, 178, 179, 180, 181, 182, 183, 184, 13, 14, 15, 20, 21, 22, 23, 24, 25, 26, 185, 186, 187, 188, 189, 190, 191, 192, 193, 194, 195, 196, 197, 198, 199, 200, 201, 202, 203, 204, 205, 206, 207, 208, 209, 210, 211, 212, 213, 214, 215, 216, 217, 218, 219, 220, 221, 222, 223, 224, 225, 226, 227, 228, 229, 230, 231, 232, 233, 234, 235, 236, 237, 238, 239, 240, 241, 242, 243, 244, 245, 246, 247, 248, 249, 250, 251, 252, 253, 254, 255, 256, 257, 258, 259, 260, 261, 262, 263, 264, 265, 266, 267, 268, 269, 270, 271, 272, 273, 274, 275, 276, 277, 278, 279, 327, 328, 329, 330, 331, 332, 333, 334, 335, 336, 337, 338, 339, 340, 341, 342, 343, 344, 345, 346, 296, 297, 298, 299, 300, 301, 302, 303, 304, 305, 306, 307, 308, 309, 310, 311, 312, 313, 314, 319, 320, 321, 322, 323, 324, 325, 326] rfl (by decide +kernel)
set_option maxRecDepth 20000 in
theorem gX9_matchTold_X0_run : GoodIn wsX9_matchTold (wsV RX9 311 RX0 yX0_run wsX0_run) := goodIn_app (goodIn_of _ (by decide +kernel)) ggX9_matchTold_X0_run
theorem dX9_matchTold_0 : decode cX9_matchTold 0 = .ok (.aload_n 0, 1) := by decide +kernel
theorem dX9_matchTold_1 : decode cX9_matchTold 1 = .ok (.getfield 31, 3) := by decide +kernel
theorem dX9_matchTold_4 : decode cX9_matchTold 4 = .ok (.invokevirtual 142, 3) := by decide +kernel
theorem dX9_matchTold_7 : decode cX9_matchTold 7 = .ok (.aload_n 0, 1) := by decide +kernel
theorem dX9_matchTold_8 : decode cX9_matchTold 8 = .ok (.getfield 31, 3) := by decide +kernel
theorem dX9_matchTold_11 : decode cX9_matchTold 11 = .ok (.aload_n 0, 1) := by decide +kernel
theorem dX9_matchTold_12 : decode cX9_matchTold 12 = .ok (.getfield 49, 3) := by decide +kernel
theorem dX9_matchTold_15 : decode cX9_matchTold 15 = .ok (.iload_n 1, 1) := by decide +kernel
theorem dX9_matchTold_16 : decode cX9_matchTold 16 = .ok (.invokevirtual 308, 3) := by decide +kernel
theorem dX9_matchTold_19 : decode cX9_matchTold 19 = .ok (.istore_n 3, 1) := by decide +kernel
theorem dX9_matchTold_20 : decode cX9_matchTold 20 = .ok (.aload_n 0, 1) := by decide +kernel
theorem dX9_matchTold_21 : decode cX9_matchTold 21 = .ok (.getfield 71, 3) := by decide +kernel
theorem dX9_matchTold_24 : decode cX9_matchTold 24 = .ok (.iload_n 3, 1) := by decide +kernel
theorem dX9_matchTold_25 : decode cX9_matchTold 25 = .ok (.aload_n 0, 1) := by decide +kernel
theorem dX9_matchTold_26 : decode cX9_matchTold 26 = .ok (.getfield 31, 3) := by decide +kernel
theorem dX9_matchTold_29 : decode cX9_matchTold 29 = .ok (.aload_n 0, 1) := by decide +kernel
theorem dX9_matchTold_30 : decode cX9_matchTold 30 = .ok (.getfield 49, 3) := by decide +kernel
theorem dX9_matchTold_33 : decode cX9_matchTold 33 = .ok (.iload_n 2, 1) := by decide +kernel
theorem dX9_matchTold_34 : decode cX9_matchTold 34 = .ok (.invokevirtual 308, 3) := by decide +kernel
theorem dX9_matchTold_37 : decode cX9_matchTold 37 = .ok (.invokevirtual 311, 3) := by decide +kernel
theorem dX9_matchTold_40 : decode cX9_matchTold 40 = .ok (.ifCond .ne 14, 3) := by decide +kernel
theorem dX9_matchTold_43 : decode cX9_matchTold 43 = .ok (.new 153, 3) := by decide +kernel
theorem dX9_matchTold_46 : decode cX9_matchTold 46 = .ok (.dup, 1) := by decide +kernel
theorem dX9_matchTold_47 : decode cX9_matchTold 47 = .ok (.ldc_w 314, 3) := by decide +kernel
theorem dX9_matchTold_50 : decode cX9_matchTold 50 = .ok (.invokespecial 157, 3) := by decide +kernel
theorem dX9_matchTold_53 : decode cX9_matchTold 53 = .ok (.athrow, 1) := by decide +kernel
theorem dX9_matchTold_54 : decode cX9_matchTold 54 = .ok (.return_, 1) := by decide +kernel
set_option maxRecDepth 20000 in
theorem ggX9_fill_X9_checkTerm : GoodIn wsX9_fill wsX9_checkTerm := goodIn_ca (goodIn_r _ [8, 9, 10, 3, 208, 209, 210, 211, 212, 213, 214, 215, 216, 217, 218, 219, 220, 221, 222, 223, 224, 225, 226, 227] rfl (by decide +kernel)) (goodIn_sub (fun _ h => List.mem_cons_of_mem _ (List.mem_append_left _ (List.mem_append_right _ h))) (by decide +kernel))
set_option maxRecDepth 20000 in
theorem gX9_fill_X9_checkTerm : GoodIn wsX9_fill (wsV RX9 227 RX9 yX9_checkTerm wsX9_checkTerm) := goodIn_app (goodIn_of _ (by decide +kernel)) ggX9_fill_X9_checkTerm
set_option maxRecDepth 20000 in
theorem ggX9_fill_X9_checkVariable : GoodIn wsX9_fill wsX9_checkVariable := goodIn_ca (goodIn_r _ [14, 9, 10, 15, 208, 209, 210, 211, 212, 213, 214, 215, 216, 217, 218, 219, 220, 221, 222, 223, 228, 229, 230, 231, 232, 233, 234, 235] rfl (by decide +kernel)) (goodIn_sub (fun _ h => List.mem_cons_of_mem _ (List.mem_append_left _ (List.mem_append_right _ h))) (by decide +kernel))
set_option maxRecDepth 20000 in
theorem gX9_fill_X9_checkVariable : GoodIn wsX9_fill (wsV RX9 297 RX9 yX9_checkVariable wsX9_checkVariable) := goodIn_app (goodIn_of _ (by decide +kernel)) ggX9_fill_X9_checkVariable
set_option maxRecDepth 20000 in
theorem ggX9_fill_X8_clear : GoodIn wsX9_fill wsX8_clear := goodIn_r _ [20, 21, 22, 23, 24, 19, 25, 26, 27, 28, 29, 30, 31, 32, 33, 34, 35, 36, 236, 237, 238, 239, 240, 241, 242, 243, 244, 245, 246, 247, 248, 249, 250, 251, 252, 253, 254] rfl (by decide +kernel)
set_option maxRecDepth 20000 in
theorem gX9_fill_X8_clear : GoodIn wsX9_fill (wsV RX9 142 RX8 yX8_clear wsX8_clear) := goodIn_app (goodIn_of _ (by decide +kernel)) ggX9_fill_X8_clear
set_option maxRecDepth 20000 in
theorem ggX9_fill_X8_fromRow : GoodIn wsX9_fill wsX8_fromRow := goodIn_r _ [40, 21, 41, 42, 43, 44, 45, 46, 47, 48, 49, 50, 51, 52, 53, 54, 7, 55, 56, 57, 58, 19, 59, 60, 61, 62, 63, 64, 26, 65, 66, 28, 67, 68, 29, 27, 69, 70, 71, 72, 73, 74, 75, 236, 237, 238, 239, 240, 241, 242, 243, 244, 245, 246, 247, 248, 249, 250, 251, 252, 253, 254, 224, 225, 226, 227, 228, 229, 230, 231, 232, 233, 234, 235] rfl (by decide +kernel)
set_option maxRecDepth 20000 in
theorem gX9_fill_X8_fromRow : GoodIn wsX9_fill (wsV RX9 308 RX8 yX8_fromRow wsX8_fromRow) := goodIn_app (goodIn_of _ (by decide +kernel)) ggX9_fill_X8_fromRow
set_option maxRecDepth 20000 in
theorem ggX9_fill_X8_put : GoodIn wsX9_fill wsX8_put := goodIn_r _ [79, 21, 60, 80, 81, 82, 19, 83, 26, 67, 84, 85, 86, 87, 66, 54, 7, 55, 88, 89, 90, 91, 68, 92, 77, 78, 72, 73, 74, 75, 93, 94, 95, 96, 97, 98, 99, 100, 101, 69, 102, 103, 104, 105, 106, 107, 108, 109, 110, 111, 112, 113, 114, 115, 116, 117, 118, 41, 119, 120, 121, 122, 123, 124, 125, 126, 127, 128, 129, 130, 61, 62, 63, 64, 65, 28, 29, 27, 70, 71, 131, 132, 236, 237, 238, 239, 240, 241, 242, 243, 244, 245, 246, 247, 248, 249, 250, 251, 252, 253, 254, 228, 229, 230, 231, 232, 233, 234, 235] rfl (by decide +kernel)
set_option maxRecDepth 20000 in
theorem gX9_fill_X8_put : GoodIn wsX9_fill (wsV RX9 316 RX8 yX8_put wsX8_put) := goodIn_app (goodIn_of _ (by decide +kernel)) ggX9_fill_X8_put
set_option maxRecDepth 20000 in
theorem ggX9_fill_X9_showBuilt : GoodIn wsX9_fill wsX9_showBuilt := goodIn_ca (goodIn_r _ [136, 137, 138, 139, 140, 141, 7, 142, 143, 1, 144, 145, 146, 147, 45, 148, 47, 149, 150, 151, 19, 152, 21, 153, 154, 155, 156, 48, 72, 73, 74, 75, 60, 56, 57, 58, 59, 80, 81, 82, 83, 26, 67, 157, 158, 159, 160, 53, 54, 55, 88, 89, 90, 91, 68, 161, 162, 163, 164, 165, 166, 167, 168, 169, 170, 171, 172, 173, 43, 44, 46, 174, 175, 176, 177, 178, 179, 50, 51, 52, 180, 181, 182, 183, 184, 185, 186, 187, 188, 189, 190, 191, 107, 192, 193, 194, 93, 94, 195, 196, 197, 198, 199, 200, 201, 202, 203, 204, 205, 206, 207, 208, 209, 210, 211, 212, 213, 214, 215, 216, 217, 218, 219, 220, 221, 222, 223, 224, 225, 226, 227, 236, 237, 238, 239, 240, 241, 242, 243, 244, 245, 246, 247, 248, 249, 250, 251, 252, 253, 254, 255, 256, 257, 258, 259, 228, 229, 230, 231, 232, 233, 234, 235] rfl (by decide +kernel)) (goodIn_sub (fun _ h => List.mem_cons_of_mem _ (List.mem_append_right _ h)) (by decide +kernel))
set_option maxRecDepth 20000 in
theorem gX9_fill_X9_showBuilt : GoodIn wsX9_fill (wsV RX9 320 RX9 yX9_showBuilt wsX9_showBuilt) := goodIn_app (goodIn_of _ (by decide +kernel)) ggX9_fill_X9_showBuilt
theorem dX9_fill_0 : decode cX9_fill 0 = .ok (.aload_n 0, 1) := by decide +kernel
theorem dX9_fill_1 : decode cX9_fill 1 = .ok (.iload_n 1, 1) := by decide +kernel
theorem dX9_fill_2 : decode cX9_fill 2 = .ok (.invokevirtual 227, 3) := by decide +kernel
theorem dX9_fill_5 : decode cX9_fill 5 = .ok (.aload_n 0, 1) := by decide +kernel
theorem dX9_fill_6 : decode cX9_fill 6 = .ok (.iload_n 2, 1) := by decide +kernel
theorem dX9_fill_7 : decode cX9_fill 7 = .ok (.invokevirtual 297, 3) := by decide +kernel
theorem dX9_fill_10 : decode cX9_fill 10 = .ok (.aload_n 0, 1) := by decide +kernel
theorem dX9_fill_11 : decode cX9_fill 11 = .ok (.iload_n 3, 1) := by decide +kernel
theorem dX9_fill_12 : decode cX9_fill 12 = .ok (.invokevirtual 227, 3) := by decide +kernel
theorem dX9_fill_15 : decode cX9_fill 15 = .ok (.aload_n 0, 1) := by decide +kernel
theorem dX9_fill_16 : decode cX9_fill 16 = .ok (.getfield 31, 3) := by decide +kernel
theorem dX9_fill_19 : decode cX9_fill 19 = .ok (.invokevirtual 142, 3) := by decide +kernel
theorem dX9_fill_22 : decode cX9_fill 22 = .ok (.iconst 0, 1) := by decide +kernel
theorem dX9_fill_23 : decode cX9_fill 23 = .ok (.istore 4, 2) := by decide +kernel
theorem dX9_fill_25 : decode cX9_fill 25 = .ok (.iload 4, 2) := by decide +kernel
theorem dX9_fill_27 : decode cX9_fill 27 = .ok (.aload_n 0, 1) := by decide +kernel
theorem dX9_fill_28 : decode cX9_fill 28 = .ok (.getfield 96, 3) := by decide +kernel
theorem dX9_fill_31 : decode cX9_fill 31 = .ok (.arraylength, 1) := by decide +kernel
theorem dX9_fill_32 : decode cX9_fill 32 = .ok (.if_icmp .ge 38, 3) := by decide +kernel
theorem dX9_fill_35 : decode cX9_fill 35 = .ok (.aload_n 0, 1) := by decide +kernel
theorem dX9_fill_36 : decode cX9_fill 36 = .ok (.getfield 96, 3) := by decide +kernel
theorem dX9_fill_39 : decode cX9_fill 39 = .ok (.iload 4, 2) := by decide +kernel
theorem dX9_fill_41 : decode cX9_fill 41 = .ok (.iload 4, 2) := by decide +kernel
theorem dX9_fill_43 : decode cX9_fill 43 = .ok (.iload_n 2, 1) := by decide +kernel
theorem dX9_fill_44 : decode cX9_fill 44 = .ok (.if_icmp .ne 18, 3) := by decide +kernel
theorem dX9_fill_47 : decode cX9_fill 47 = .ok (.aload_n 0, 1) := by decide +kernel
theorem dX9_fill_48 : decode cX9_fill 48 = .ok (.getfield 31, 3) := by decide +kernel
theorem dX9_fill_51 : decode cX9_fill 51 = .ok (.aload_n 0, 1) := by decide +kernel
theorem dX9_fill_52 : decode cX9_fill 52 = .ok (.getfield 49, 3) := by decide +kernel
theorem dX9_fill_55 : decode cX9_fill 55 = .ok (.iload_n 3, 1) := by decide +kernel
theorem dX9_fill_56 : decode cX9_fill 56 = .ok (.invokevirtual 308, 3) := by decide +kernel
theorem dX9_fill_59 : decode cX9_fill 59 = .ok (.goto 4, 3) := by decide +kernel
theorem dX9_fill_62 : decode cX9_fill 62 = .ok (.iconst (-1), 1) := by decide +kernel
theorem dX9_fill_63 : decode cX9_fill 63 = .ok (.iastore, 1) := by decide +kernel
theorem dX9_fill_64 : decode cX9_fill 64 = .ok (.iinc 4 1, 3) := by decide +kernel
theorem dX9_fill_67 : decode cX9_fill 67 = .ok (.goto (-42), 3) := by decide +kernel
theorem dX9_fill_70 : decode cX9_fill 70 = .ok (.aload_n 0, 1) := by decide +kernel
theorem dX9_fill_71 : decode cX9_fill 71 = .ok (.aload_n 0, 1) := by decide +kernel
theorem dX9_fill_72 : decode cX9_fill 72 = .ok (.getfield 31, 3) := by decide +kernel
theorem dX9_fill_75 : decode cX9_fill 75 = .ok (.aload_n 0, 1) := by decide +kernel
theorem dX9_fill_76 : decode cX9_fill 76 = .ok (.getfield 31, 3) := by decide +kernel
theorem dX9_fill_79 : decode cX9_fill 79 = .ok (.aload_n 0, 1) := by decide +kernel
theorem dX9_fill_80 : decode cX9_fill 80 = .ok (.getfield 49, 3) := by decide +kernel
theorem dX9_fill_83 : decode cX9_fill 83 = .ok (.iload_n 1, 1) := by decide +kernel
theorem dX9_fill_84 : decode cX9_fill 84 = .ok (.invokevirtual 308, 3) := by decide +kernel
theorem dX9_fill_87 : decode cX9_fill 87 = .ok (.aload_n 0, 1) := by decide +kernel
theorem dX9_fill_88 : decode cX9_fill 88 = .ok (.getfield 96, 3) := by decide +kernel
theorem dX9_fill_91 : decode cX9_fill 91 = .ok (.iconst 0, 1) := by decide +kernel
theorem dX9_fill_92 : decode cX9_fill 92 = .ok (.iconst 0, 1) := by decide +kernel
theorem dX9_fill_93 : decode cX9_fill 93 = .ok (.invokevirtual 316, 3) := by decide +kernel
theorem dX9_fill_96 : decode cX9_fill 96 = .ok (.invokevirtual 320, 3) := by decide +kernel
theorem dX9_fill_99 : decode cX9_fill 99 = .ok (.ireturn, 1) := by decide +kernel
set_option maxRecDepth 20000 in
theorem ggX9_join_X9_checkOperator : GoodIn wsX9_join wsX9_checkOperator := goodIn_ca (goodIn_r _ [10, 11, 12, 3, 201, 202, 203, 204, 205, 206, 207, 208, 209, 210, 211, 212, 213, 214, 215, 216, 217, 218, 219, 220, 221, 222, 223, 224] rfl (by decide +kernel)) (goodIn_sub (fun _ h => List.mem_cons_of_mem _ (List.mem_append_left _ (List.mem_append_right _ h))) (by decide +kernel))
set_option maxRecDepth 20000 in
theorem gX9_join_X9_checkOperator : GoodIn wsX9_join (wsV RX9 204 RX9 yX9_checkOperator wsX9_checkOperator) := goodIn_app (goodIn_of _ (by decide +kernel)) ggX9_join_X9_checkOperator
set_option maxRecDepth 20000 in
theorem ggX9_join_X9_checkTerm : GoodIn wsX9_join wsX9_checkTerm := goodIn_ca (goodIn_r _ [16, 11, 12, 5, 201, 202, 203, 204, 205, 206, 207, 208, 209, 210, 211, 212, 213, 214, 215, 216, 225, 226, 227, 228] rfl (by decide +kernel)) (goodIn_sub (fun _ h => List.mem_cons_of_mem _ (List.mem_append_left _ (List.mem_append_right _ h))) (by decide +kernel))
set_option maxRecDepth 20000 in
theorem gX9_join_X9_checkTerm : GoodIn wsX9_join (wsV RX9 227 RX9 yX9_checkTerm wsX9_checkTerm) := goodIn_app (goodIn_of _ (by decide +kernel)) ggX9_join_X9_checkTerm
set_option maxRecDepth 20000 in
theorem ggX9_join_X5_kindOf : GoodIn wsX9_join wsX5_kindOf := goodIn_r _ [21, 22, 217, 218, 219, 220, 221, 222, 223, 224] rfl (by decide +kernel)
set_option maxRecDepth 20000 in
theorem gX9_join_X5_kindOf : GoodIn wsX9_join (wsV RX9 207 RX5 yX5_kindOf wsX5_kindOf) := goodIn_app (goodIn_of _ (by decide +kernel)) ggX9_join_X5_kindOf
set_option maxRecDepth 20000 in
theorem ggX9_join_X8_clear : GoodIn wsX9_join wsX8_clear := goodIn_r _ [27, 28, 29, 30, 31, 26, 32, 33, 34, 35, 36, 37, 38, 39, 40, 41, 42, 43, 229, 230, 231, 232, 233, 234, 235, 236, 237, 238, 239, 240, 241, 242, 243, 244, 245, 246, 247] rfl (by decide +kernel)
set_option maxRecDepth 20000 in
theorem gX9_join_X8_clear : GoodIn wsX9_join (wsV RX9 142 RX8 yX8_clear wsX8_clear) := goodIn_app (goodIn_of _ (by decide +kernel)) ggX9_join_X8_clear
set_option maxRecDepth 20000 in
theorem ggX9_join_X8_fromRow : GoodIn wsX9_join wsX8_fromRow := goodIn_r _ [47, 28, 48, 49, 50, 51, 52, 53, 54, 55, 56, 57, 58, 59, 60, 61, 9, 62, 63, 64, 65, 26, 66, 67, 68, 69, 70, 71, 33, 72, 73, 35, 74, 75, 36, 34, 76, 77, 78, 79, 80, 81, 82, 229, 230, 231, 232, 233, 234, 235, 236, 237, 238, 239, 240, 241, 242, 243, 244, 245, 246, 247, 225, 226, 227, 228, 217, 218, 219, 220, 221, 222, 223, 224] rfl (by decide +kernel)
set_option maxRecDepth 20000 in
theorem gX9_join_X8_fromRow : GoodIn wsX9_join (wsV RX9 308 RX8 yX8_fromRow wsX8_fromRow) := goodIn_app (goodIn_of _ (by decide +kernel)) ggX9_join_X8_fromRow
set_option maxRecDepth 20000 in
theorem ggX9_join_X8_begin : GoodIn wsX9_join wsX8_begin := goodIn_r _ [86, 87, 88, 89, 76, 90, 91, 92, 18, 19, 20, 21, 22, 93, 94, 95, 96, 97, 229, 230, 231, 232, 233, 234, 235, 236, 237, 238, 239, 240, 241, 242, 243, 244, 245, 246, 247, 217, 218, 219, 220, 221, 222, 223, 224] rfl (by decide +kernel)
set_option maxRecDepth 20000 in
theorem gX9_join_X8_begin : GoodIn wsX9_join (wsV RX9 325 RX8 yX8_begin wsX8_begin) := goodIn_app (goodIn_of _ (by decide +kernel)) ggX9_join_X8_begin
set_option maxRecDepth 20000 in
theorem ggX9_join_X8_lay : GoodIn wsX9_join wsX8_lay := goodIn_r _ [101, 33, 88, 74, 90, 89, 91, 75, 87, 48, 102, 103, 104, 26, 105, 106, 107, 108, 109, 229, 230, 231, 232, 233, 234, 235, 236, 237, 238, 239, 240, 241, 242, 243, 244, 245, 246, 247] rfl (by decide +kernel)
set_option maxRecDepth 20000 in
theorem gX9_join_X8_lay : GoodIn wsX9_join (wsV RX9 328 RX8 yX8_lay wsX8_lay) := goodIn_app (goodIn_of _ (by decide +kernel)) ggX9_join_X8_lay
set_option maxRecDepth 20000 in
theorem ggX9_join_X8_close : GoodIn wsX9_join wsX8_close := goodIn_r _ [113, 88, 90, 87, 48, 91, 89, 68, 69, 70, 26, 71, 33, 72, 73, 35, 74, 75, 36, 34, 76, 77, 78, 114, 9, 115, 229, 230, 231, 232, 233, 234, 235, 236, 237, 238, 239, 240, 241, 242, 243, 244, 245, 246, 247, 217, 218, 219, 220, 221, 222, 223, 224] rfl (by decide +kernel)
set_option maxRecDepth 20000 in
theorem gX9_join_X8_close : GoodIn wsX9_join (wsV RX9 331 RX8 yX8_close wsX8_close) := goodIn_app (goodIn_of _ (by decide +kernel)) ggX9_join_X8_close
set_option maxRecDepth 20000 in
theorem ggX9_join_X9_showBuilt : GoodIn wsX9_join wsX9_showBuilt := goodIn_ca (goodIn_r _ [119, 120, 121, 122, 123, 124, 9, 125, 126, 4, 127, 128, 129, 130, 52, 131, 54, 132, 133, 134, 26, 135, 28, 136, 137, 138, 139, 55, 79, 80, 81, 82, 67, 63, 64, 65, 66, 140, 141, 142, 143, 33, 74, 144, 145, 146, 147, 60, 61, 62, 148, 149, 150, 151, 75, 152, 153, 154, 155, 156, 157, 158, 159, 160, 161, 162, 163, 164, 50, 51, 53, 165, 166, 167, 168, 169, 170, 57, 58, 59, 171, 172, 173, 174, 175, 176, 177, 178, 179, 180, 181, 182, 20, 183, 184, 185, 186, 187, 188, 189, 190, 191, 192, 193, 194, 195, 196, 197, 198, 199, 200, 201, 202, 203, 204, 205, 206, 207, 208, 209, 210, 211, 212, 213, 214, 215, 216, 225, 226, 227, 228, 229, 230, 231, 232, 233, 234, 235, 236, 237, 238, 239, 240, 241, 242, 243, 244, 245, 246, 247, 248, 249, 250, 251, 252, 217, 218, 219, 220, 221, 222, 223, 224] rfl (by decide +kernel)) (goodIn_sub (fun _ h => List.mem_cons_of_mem _ (List.mem_append_right _ h)) (by decide +kernel))
set_option maxRecDepth 20000 in
theorem gX9_join_X9_showBuilt : GoodIn wsX9_join (wsV RX9 320 RX9 yX9_showBuilt wsX9_showBuilt) := goodIn_app (goodIn_of _ (by decide +kernel)) ggX9_join_X9_showBuilt
theorem dX9_join_0 : decode cX9_join 0 = .ok (.aload_n 0, 1) := by decide +kernel
theorem dX9_join_1 : decode cX9_join 1 = .ok (.iload_n 1, 1) := by decide +kernel
theorem dX9_join_2 : decode cX9_join 2 = .ok (.invokevirtual 204, 3) := by decide +kernel
theorem dX9_join_5 : decode cX9_join 5 = .ok (.aload_n 0, 1) := by decide +kernel
theorem dX9_join_6 : decode cX9_join 6 = .ok (.iload_n 2, 1) := by decide +kernel
theorem dX9_join_7 : decode cX9_join 7 = .ok (.invokevirtual 227, 3) := by decide +kernel
theorem dX9_join_10 : decode cX9_join 10 = .ok (.aload_n 0, 1) := by decide +kernel
theorem dX9_join_11 : decode cX9_join 11 = .ok (.iload_n 3, 1) := by decide +kernel
theorem dX9_join_12 : decode cX9_join 12 = .ok (.invokevirtual 227, 3) := by decide +kernel
theorem dX9_join_15 : decode cX9_join 15 = .ok (.aload_n 0, 1) := by decide +kernel
theorem dX9_join_16 : decode cX9_join 16 = .ok (.getfield 19, 3) := by decide +kernel
theorem dX9_join_19 : decode cX9_join 19 = .ok (.iload_n 1, 1) := by decide +kernel
theorem dX9_join_20 : decode cX9_join 20 = .ok (.invokevirtual 207, 3) := by decide +kernel
theorem dX9_join_23 : decode cX9_join 23 = .ok (.iconst 2, 1) := by decide +kernel
theorem dX9_join_24 : decode cX9_join 24 = .ok (.if_icmp .eq 14, 3) := by decide +kernel
theorem dX9_join_27 : decode cX9_join 27 = .ok (.new 125, 3) := by decide +kernel
theorem dX9_join_30 : decode cX9_join 30 = .ok (.dup, 1) := by decide +kernel
theorem dX9_join_31 : decode cX9_join 31 = .ok (.ldc_w 323, 3) := by decide +kernel
theorem dX9_join_34 : decode cX9_join 34 = .ok (.invokespecial 129, 3) := by decide +kernel
theorem dX9_join_37 : decode cX9_join 37 = .ok (.athrow, 1) := by decide +kernel
theorem dX9_join_38 : decode cX9_join 38 = .ok (.aload_n 0, 1) := by decide +kernel
theorem dX9_join_39 : decode cX9_join 39 = .ok (.getfield 31, 3) := by decide +kernel
theorem dX9_join_42 : decode cX9_join 42 = .ok (.invokevirtual 142, 3) := by decide +kernel
theorem dX9_join_45 : decode cX9_join 45 = .ok (.aload_n 0, 1) := by decide +kernel
theorem dX9_join_46 : decode cX9_join 46 = .ok (.getfield 31, 3) := by decide +kernel
theorem dX9_join_49 : decode cX9_join 49 = .ok (.aload_n 0, 1) := by decide +kernel
theorem dX9_join_50 : decode cX9_join 50 = .ok (.getfield 49, 3) := by decide +kernel
theorem dX9_join_53 : decode cX9_join 53 = .ok (.iload_n 2, 1) := by decide +kernel
theorem dX9_join_54 : decode cX9_join 54 = .ok (.invokevirtual 308, 3) := by decide +kernel
theorem dX9_join_57 : decode cX9_join 57 = .ok (.istore 4, 2) := by decide +kernel
theorem dX9_join_59 : decode cX9_join 59 = .ok (.aload_n 0, 1) := by decide +kernel
theorem dX9_join_60 : decode cX9_join 60 = .ok (.getfield 31, 3) := by decide +kernel
theorem dX9_join_63 : decode cX9_join 63 = .ok (.aload_n 0, 1) := by decide +kernel
theorem dX9_join_64 : decode cX9_join 64 = .ok (.getfield 49, 3) := by decide +kernel
theorem dX9_join_67 : decode cX9_join 67 = .ok (.iload_n 3, 1) := by decide +kernel
theorem dX9_join_68 : decode cX9_join 68 = .ok (.invokevirtual 308, 3) := by decide +kernel
theorem dX9_join_71 : decode cX9_join 71 = .ok (.istore 5, 2) := by decide +kernel
theorem dX9_join_73 : decode cX9_join 73 = .ok (.aload_n 0, 1) := by decide +kernel
theorem dX9_join_74 : decode cX9_join 74 = .ok (.getfield 31, 3) := by decide +kernel
theorem dX9_join_77 : decode cX9_join 77 = .ok (.iload_n 1, 1) := by decide +kernel
theorem dX9_join_78 : decode cX9_join 78 = .ok (.invokevirtual 325, 3) := by decide +kernel
theorem dX9_join_81 : decode cX9_join 81 = .ok (.aload_n 0, 1) := by decide +kernel
theorem dX9_join_82 : decode cX9_join 82 = .ok (.getfield 31, 3) := by decide +kernel
theorem dX9_join_85 : decode cX9_join 85 = .ok (.iload 4, 2) := by decide +kernel
theorem dX9_join_87 : decode cX9_join 87 = .ok (.invokevirtual 328, 3) := by decide +kernel
theorem dX9_join_90 : decode cX9_join 90 = .ok (.aload_n 0, 1) := by decide +kernel
theorem dX9_join_91 : decode cX9_join 91 = .ok (.getfield 31, 3) := by decide +kernel
theorem dX9_join_94 : decode cX9_join 94 = .ok (.iload 5, 2) := by decide +kernel
theorem dX9_join_96 : decode cX9_join 96 = .ok (.invokevirtual 328, 3) := by decide +kernel
theorem dX9_join_99 : decode cX9_join 99 = .ok (.aload_n 0, 1) := by decide +kernel
theorem dX9_join_100 : decode cX9_join 100 = .ok (.aload_n 0, 1) := by decide +kernel
theorem dX9_join_101 : decode cX9_join 101 = .ok (.getfield 31, 3) := by decide +kernel
theorem dX9_join_104 : decode cX9_join 104 = .ok (.invokevirtual 331, 3) := by decide +kernel
theorem dX9_join_107 : decode cX9_join 107 = .ok (.invokevirtual 320, 3) := by decide +kernel
theorem dX9_join_110 : decode cX9_join 110 = .ok (.ireturn, 1) := by decide +kernel
set_option maxRecDepth 20000 in
theorem ggX9_showBuilt_X9_showNode : GoodIn wsX9_showBuilt wsX9_showNode := goodIn_r _ [7, 8, 9, 10, 11, 12, 13, 14, 15, 16, 17, 18, 19, 20, 21, 22, 23, 24, 25, 26, 27, 28, 29, 30, 31, 32, 33, 34, 35, 36, 37, 38, 39, 40, 41, 42, 43, 44, 45, 46, 47, 48, 6, 49, 50, 51, 52, 53, 54, 55, 56, 57, 58, 59, 60, 61, 62, 63, 64, 65, 66, 67, 68, 69, 70, 71, 72, 73, 74, 75, 76, 77, 78, 79, 80, 81, 82, 83, 84, 85, 86, 87, 88, 89, 90, 91, 92, 93, 94, 95, 96, 97, 98, 99, 100, 101, 102, 103, 104, 105, 106, 107, 108, 109, 110, 111, 112, 113, 114, 115, 116, 117, 118, 119, 120, 121, 122, 123, 124, 125, 126, 127, 128, 129, 130, 131, 132, 133, 134, 135, 136, 137, 138, 139, 140, 141, 142, 143, 144, 145, 146, 147, 148, 149, 150, 151, 152, 153, 154, 155, 156, 157, 158, 159, 160, 161, 162] rfl (by decide +kernel)
set_option maxRecDepth 20000 in
theorem gX9_showBuilt_X9_showNode : GoodIn wsX9_showBuilt (wsV RX9 305 RX9 yX9_showNode wsX9_showNode) := goodIn_app (goodIn_of _ (by decide +kernel)) ggX9_showBuilt_X9_showNode
theorem dX9_showBuilt_0 : decode cX9_showBuilt 0 = .ok (.iload_n 1, 1) := by decide +kernel
theorem dX9_showBuilt_1 : decode cX9_showBuilt 1 = .ok (.ifCond .ge 14, 3) := by decide +kernel
theorem dX9_showBuilt_4 : decode cX9_showBuilt 4 = .ok (.new 153, 3) := by decide +kernel
theorem dX9_showBuilt_7 : decode cX9_showBuilt 7 = .ok (.dup, 1) := by decide +kernel
theorem dX9_showBuilt_8 : decode cX9_showBuilt 8 = .ok (.ldc_w 334, 3) := by decide +kernel
theorem dX9_showBuilt_11 : decode cX9_showBuilt 11 = .ok (.invokespecial 157, 3) := by decide +kernel
theorem dX9_showBuilt_14 : decode cX9_showBuilt 14 = .ok (.athrow, 1) := by decide +kernel
theorem dX9_showBuilt_15 : decode cX9_showBuilt 15 = .ok (.aload_n 0, 1) := by decide +kernel
theorem dX9_showBuilt_16 : decode cX9_showBuilt 16 = .ok (.iload_n 1, 1) := by decide +kernel
theorem dX9_showBuilt_17 : decode cX9_showBuilt 17 = .ok (.invokevirtual 305, 3) := by decide +kernel
theorem dX9_showBuilt_20 : decode cX9_showBuilt 20 = .ok (.ireturn, 1) := by decide +kernel
set_option maxRecDepth 20000 in
theorem ggX9_steps_X9_checkTerm : GoodIn wsX9_steps wsX9_checkTerm := goodIn_ca (goodIn_r _ [9, 10, 11, 4, 397, 398, 399, 400, 401, 402, 403, 404, 405, 406, 407, 408, 409, 410, 411, 412, 413, 414, 415, 416] rfl (by decide +kernel)) (goodIn_sub (fun _ h => List.mem_cons_of_mem _ (List.mem_append_left _ (List.mem_append_right _ h))) (by decide +kernel))
set_option maxRecDepth 20000 in
theorem gX9_steps_X9_checkTerm : GoodIn wsX9_steps (wsV RX9 227 RX9 yX9_checkTerm wsX9_checkTerm) := goodIn_app (goodIn_of _ (by decide +kernel)) ggX9_steps_X9_checkTerm
set_option maxRecDepth 20000 in
theorem ggX9_steps_X7_prepare : GoodIn wsX9_steps wsX7_prepare := goodIn_r _ [16, 17, 18, 19, 20, 21, 22, 23, 24, 25, 26, 27, 28, 29, 30, 31, 32, 33, 34, 35, 36, 37, 38, 39, 40, 41, 42, 43, 44, 45, 46, 47, 48, 49, 50, 51, 52, 53, 54, 55, 56, 57, 58, 59, 60, 8, 61, 62, 63, 64, 65, 66, 67, 68, 69, 70, 71, 72, 73, 74, 75, 76, 77, 78, 79, 80, 81, 417, 418, 419, 420, 421, 422, 423, 424, 425, 426, 427, 428, 429, 430, 431, 432, 433, 434, 435, 436, 437, 438, 439, 440, 441, 442, 443, 444, 445, 446, 447, 448, 449, 450, 451, 413, 414, 415, 416, 452, 453, 454, 455, 456, 457, 458, 459] rfl (by decide +kernel)
set_option maxRecDepth 20000 in
theorem gX9_steps_X7_prepare : GoodIn wsX9_steps (wsV RX9 336 RX7 yX7_prepare wsX7_prepare) := goodIn_app (goodIn_of _ (by decide +kernel)) ggX9_steps_X7_prepare
set_option maxRecDepth 20000 in
theorem ggX9_steps_X9_listSteps : GoodIn wsX9_steps wsX9_listSteps := goodIn_ca (goodIn_r _ [85, 86, 87, 1, 88, 89, 90, 15, 91, 92, 18, 21, 93, 94, 95, 19, 96, 97, 98, 51, 99, 53, 100, 29, 30, 25, 31, 32, 33, 34, 35, 36, 37, 38, 39, 40, 41, 42, 43, 44, 45, 46, 27, 47, 48, 49, 50, 52, 54, 55, 56, 57, 58, 59, 60, 8, 61, 62, 63, 64, 65, 66, 67, 68, 69, 70, 71, 72, 73, 74, 75, 76, 77, 78, 79, 80, 81, 101, 102, 103, 104, 105, 106, 107, 108, 109, 110, 111, 112, 113, 114, 115, 116, 117, 118, 119, 120, 121, 122, 123, 124, 17, 125, 126, 127, 128, 129, 130, 131, 132, 133, 134, 135, 136, 137, 138, 139, 140, 141, 142, 143, 144, 145, 146, 147, 148, 149, 150, 151, 152, 153, 154, 155, 156, 157, 158, 159, 160, 161, 162, 163, 164, 165, 166, 167, 168, 169, 170, 171, 172, 173, 174, 175, 176, 177, 178, 179, 180, 181, 182, 183, 184, 185, 186, 187, 188, 189, 190, 191, 192, 193, 194, 195, 196, 197, 198, 199, 200, 201, 202, 203, 204, 205, 206, 207, 208, 209, 210, 211, 212, 213, 214, 215, 216, 217, 218, 219, 220, 221, 222, 223, 224, 225, 226, 227, 228, 229, 230, 231, 232, 233, 234, 235, 236, 237, 238, 239, 240, 241, 242, 243, 244, 245, 246, 247, 248, 249, 250, 251, 252, 253, 254, 255, 256, 257, 258, 259, 260, 261, 262, 263, 264, 265, 266, 267, 268, 269, 270, 271, 272, 273, 274, 275, 276, 277, 278, 279, 280, 281, 282, 283, 284, 285, 286, 287, 288, 289, 290, 291, 292, 293, 294, 295, 296, 297, 298, 299, 300, 301, 302, 303, 304, 305, 306, 307, 308, 309, 310, 311, 312, 313, 314, 315, 316, 317, 318, 319, 320, 321, 322, 323, 324, 325, 326, 327, 328, 329, 330, 331, 332, 333, 334, 335, 336, 337, 338, 339, 340, 341, 342, 343, 344, 20, 345, 346, 347, 348, 349, 350, 351, 352, 353, 354, 355, 356, 357, 358, 359, 360, 361, 362, 363, 364, 365, 366, 367, 368, 369, 370, 371, 372, 373, 374, 375, 376, 377, 378, 379, 380, 381, 382, 383, 384, 385, 386, 387, 388, 389, 390, 391, 392, 397, 398, 399, 400, 401, 402, 403, 404, 405, 406, 407, 408, 409, 410, 411, 412, 417, 418, 419, 420, 421, 422, 423, 424, 425, 426, 427, 428, 429, 430, 431, 432, 433, 434, 435, 436, 437, 438, 439, 440, 441, 442, 443, 444, 445, 446, 447, 448, 449, 450, 451, 413, 414, 415, 416, 452, 453, 454, 455, 456, 457, 458, 459, 460, 461, 462, 463, 464, 465, 466, 467, 468, 469, 470, 471, 472, 473, 474, 475, 476, 477, 478, 479] rfl (by decide +kernel)) (goodIn_sub (fun _ h => List.mem_cons_of_mem _ (List.mem_append_right _ h)) (by decide +kernel))
set_option maxRecDepth 20000 in
theorem gX9_steps_X9_listSteps : GoodIn wsX9_steps (wsV RX9 339 RX9 yX9_listSteps wsX9_listSteps) := goodIn_app (goodIn_of _ (by decide +kernel)) ggX9_steps_X9_listSteps
set_option maxRecDepth 20000 in
theorem ggX9_steps_X7_used : GoodIn wsX9_steps wsX7_used := goodIn_r _ [396, 92, 417, 418, 419, 420, 421, 422, 423, 424, 425, 426, 427, 428, 429, 430, 431, 432, 413, 414, 415, 416] rfl (by decide +kernel)
set_option maxRecDepth 20000 in
theorem gX9_steps_X7_used : GoodIn wsX9_steps (wsV RX9 343 RX7 yX7_used wsX7_used) := goodIn_app (goodIn_of _ (by decide +kernel)) ggX9_steps_X7_used
theorem dX9_steps_0 : decode cX9_steps 0 = .ok (.aload_n 0, 1) := by decide +kernel
theorem dX9_steps_1 : decode cX9_steps 1 = .ok (.iload_n 1, 1) := by decide +kernel
theorem dX9_steps_2 : decode cX9_steps 2 = .ok (.invokevirtual 227, 3) := by decide +kernel
theorem dX9_steps_5 : decode cX9_steps 5 = .ok (.aload_n 0, 1) := by decide +kernel
theorem dX9_steps_6 : decode cX9_steps 6 = .ok (.getfield 80, 3) := by decide +kernel
theorem dX9_steps_9 : decode cX9_steps 9 = .ok (.aload_n 0, 1) := by decide +kernel
theorem dX9_steps_10 : decode cX9_steps 10 = .ok (.getfield 53, 3) := by decide +kernel
theorem dX9_steps_13 : decode cX9_steps 13 = .ok (.aload_n 0, 1) := by decide +kernel
theorem dX9_steps_14 : decode cX9_steps 14 = .ok (.getfield 100, 3) := by decide +kernel
theorem dX9_steps_17 : decode cX9_steps 17 = .ok (.invokevirtual 336, 3) := by decide +kernel
theorem dX9_steps_20 : decode cX9_steps 20 = .ok (.aload_n 0, 1) := by decide +kernel
theorem dX9_steps_21 : decode cX9_steps 21 = .ok (.aload_n 0, 1) := by decide +kernel
theorem dX9_steps_22 : decode cX9_steps 22 = .ok (.getfield 49, 3) := by decide +kernel
theorem dX9_steps_25 : decode cX9_steps 25 = .ok (.iload_n 1, 1) := by decide +kernel
theorem dX9_steps_26 : decode cX9_steps 26 = .ok (.bipush 20, 2) := by decide +kernel
theorem dX9_steps_28 : decode cX9_steps 28 = .ok (.invokevirtual 339, 3) := by decide +kernel
theorem dX9_steps_31 : decode cX9_steps 31 = .ok (.aload_n 0, 1) := by decide +kernel
theorem dX9_steps_32 : decode cX9_steps 32 = .ok (.getfield 80, 3) := by decide +kernel
theorem dX9_steps_35 : decode cX9_steps 35 = .ok (.invokevirtual 343, 3) := by decide +kernel
theorem dX9_steps_38 : decode cX9_steps 38 = .ok (.ireturn, 1) := by decide +kernel
set_option maxRecDepth 20000 in
theorem ggX9_step_X9_checkTerm : GoodIn wsX9_step wsX9_checkTerm := goodIn_ca (goodIn_r _ [10, 11, 12, 4, 453, 454, 455, 456, 457, 458, 459, 460, 461, 462, 463, 464, 465, 466, 467, 468, 485, 486, 487, 488] rfl (by decide +kernel)) (goodIn_sub (fun _ h => List.mem_cons_of_mem _ (List.mem_append_left _ (List.mem_append_left _ (List.mem_append_right _ h)))) (by decide +kernel))
set_option maxRecDepth 20000 in
theorem gX9_step_X9_checkTerm : GoodIn wsX9_step (wsV RX9 227 RX9 yX9_checkTerm wsX9_checkTerm) := goodIn_app (goodIn_of _ (by decide +kernel)) ggX9_step_X9_checkTerm
set_option maxRecDepth 20000 in
theorem ggX9_step_X7_prepare : GoodIn wsX9_step wsX7_prepare := goodIn_r _ [17, 18, 19, 20, 21, 22, 23, 24, 25, 26, 27, 28, 29, 30, 31, 32, 33, 34, 35, 36, 37, 38, 39, 40, 41, 42, 43, 44, 45, 46, 47, 48, 49, 50, 51, 52, 53, 54, 55, 56, 57, 58, 59, 60, 61, 9, 62, 63, 64, 65, 66, 67, 68, 69, 70, 71, 72, 73, 74, 75, 76, 77, 78, 79, 80, 81, 82, 469, 470, 471, 472, 473, 474, 475, 476, 477, 478, 479, 480, 481, 482, 483, 484, 489, 490, 491, 492, 493, 494, 495, 496, 497, 498, 499, 500, 501, 502, 503, 504, 505, 506, 507, 485, 486, 487, 488, 508, 509, 510, 511, 512, 513, 514, 515] rfl (by decide +kernel)
set_option maxRecDepth 20000 in
theorem gX9_step_X7_prepare : GoodIn wsX9_step (wsV RX9 336 RX7 yX7_prepare wsX7_prepare) := goodIn_app (goodIn_of _ (by decide +kernel)) ggX9_step_X7_prepare
set_option maxRecDepth 20000 in
theorem ggX9_step_X9_listSteps : GoodIn wsX9_step wsX9_listSteps := goodIn_ca (goodIn_r _ [86, 87, 88, 1, 89, 90, 91, 16, 92, 93, 19, 22, 94, 95, 96, 20, 97, 98, 99, 52, 100, 54, 101, 30, 31, 26, 32, 33, 34, 35, 36, 37, 38, 39, 40, 41, 42, 43, 44, 45, 46, 47, 28, 48, 49, 50, 51, 53, 55, 56, 57, 58, 59, 60, 61, 9, 62, 63, 64, 65, 66, 67, 68, 69, 70, 71, 72, 73, 74, 75, 76, 77, 78, 79, 80, 81, 82, 102, 103, 104, 105, 106, 107, 108, 109, 110, 111, 112, 113, 114, 115, 116, 117, 118, 119, 120, 121, 122, 123, 124, 125, 18, 126, 127, 128, 129, 130, 131, 132, 133, 134, 135, 136, 137, 138, 139, 140, 141, 142, 143, 144, 145, 146, 147, 148, 149, 150, 151, 152, 153, 154, 155, 156, 157, 158, 159, 160, 161, 162, 163, 164, 165, 166, 167, 168, 169, 170, 171, 172, 173, 174, 175, 176, 177, 178, 179, 180, 181, 182, 183, 184, 185, 186, 187, 188, 189, 190, 191, 192, 193, 194, 195, 196, 197, 198, 199, 200, 201, 202, 203, 204, 205, 206, 207, 208, 209, 210, 211, 212, 213, 214, 215, 216, 217, 218, 219, 220, 221, 222, 223, 224, 225, 226, 227, 228, 229, 230, 231, 232, 233, 234, 235, 236, 237, 238, 239, 240, 241, 242, 243, 244, 245, 246, 247, 248, 249, 250, 251, 252, 253, 254, 255, 256, 257, 258, 259, 260, 261, 262, 263, 264, 265, 266, 267, 268, 269, 270, 271, 272, 273, 274, 275, 276, 277, 278, 279, 280, 281, 282, 283, 284, 285, 286, 287, 288, 289, 290, 291, 292, 293, 294, 295, 296, 297, 298, 299, 300, 301, 302, 303, 304, 305, 306, 307, 308, 309, 310, 311, 312, 313, 314, 315, 316, 317, 318, 319, 320, 321, 322, 323, 324, 325, 326, 327, 328, 329, 330, 331, 332, 333, 334, 335, 336, 337, 338, 339, 340, 341, 342, 343, 344, 345, 21, 346, 347, 348, 349, 350, 351, 352, 353, 354, 355, 356, 357, 358, 359, 360, 361, 362, 363, 364, 365, 366, 367, 368, 369, 370, 371, 372, 373, 374, 375, 376, 377, 378, 379, 380, 381, 382, 383, 384, 385, 386, 387, 388, 389, 390, 391, 392, 393, 453, 454, 455, 456, 457, 458, 459, 460, 461, 462, 463, 464, 465, 466, 467, 468, 469, 470, 471, 472, 473, 474, 475, 476, 477, 478, 479, 480, 481, 482, 483, 484, 489, 490, 491, 492, 493, 494, 495, 496, 497, 498, 499, 500, 501, 502, 503, 504, 505, 506, 507, 485, 486, 487, 488, 508, 509, 510, 511, 512, 513, 514, 515, 516, 517, 518, 519, 520, 521, 522, 523, 524, 525, 526, 527, 528, 529, 530, 531, 532, 533, 534, 535] rfl (by decide +kernel)) (goodIn_sub (fun _ h => List.mem_cons_of_mem _ (List.mem_append_left _ (List.mem_append_right _ h))) (by decide +kernel))
set_option maxRecDepth 20000 in
theorem gX9_step_X9_listSteps : GoodIn wsX9_step (wsV RX9 339 RX9 yX9_listSteps wsX9_listSteps) := goodIn_app (goodIn_of _ (by decide +kernel)) ggX9_step_X9_listSteps
set_option maxRecDepth 20000 in
theorem ggX9_step_X9_checkStep : GoodIn wsX9_step wsX9_checkStep := goodIn_ca (goodIn_r _ [397, 398, 399, 1, 400, 401, 402, 16, 403, 93, 453, 454, 455, 456, 457, 458, 459, 460, 461, 462, 463, 464, 465, 466, 467, 468, 469, 470, 471, 472, 473, 474, 475, 476, 477, 478, 479, 480, 481, 482, 483, 484, 485, 486, 487, 488] rfl (by decide +kernel)) (goodIn_sub (fun _ h => List.mem_cons_of_mem _ (List.mem_append_right _ h)) (by decide +kernel))
set_option maxRecDepth 20000 in
theorem gX9_step_X9_checkStep : GoodIn wsX9_step (wsV RX9 345 RX9 yX9_checkStep wsX9_checkStep) := goodIn_app (goodIn_of _ (by decide +kernel)) ggX9_step_X9_checkStep
set_option maxRecDepth 20000 in
theorem ggX9_step_X7_slotOf : GoodIn wsX9_step wsX7_slotOf := goodIn_r _ [407, 93, 366, 469, 470, 471, 472, 473, 474, 475, 476, 477, 478, 479, 480, 481, 482, 483, 484, 485, 486, 487, 488] rfl (by decide +kernel)
set_option maxRecDepth 20000 in
theorem gX9_step_X7_slotOf : GoodIn wsX9_step (wsV RX9 351 RX7 yX7_slotOf wsX7_slotOf) := goodIn_app (goodIn_of _ (by decide +kernel)) ggX9_step_X7_slotOf
set_option maxRecDepth 20000 in
theorem ggX9_step_X4_take : GoodIn wsX9_step wsX4_take := goodIn_r _ [412, 413, 414, 415, 98, 99, 52, 100, 54, 416, 417, 418, 419, 386, 50, 51, 53, 55, 420, 421, 422, 423, 424, 375, 376, 377, 387, 57, 58, 59, 60, 425, 379, 380, 381, 426, 427, 428, 411, 429, 430, 431, 432, 433, 434, 435, 436, 136, 437, 438, 439, 131, 9, 132, 440, 441, 442, 443, 444, 445, 446, 447, 448, 61, 62, 449, 450, 451, 452, 536, 537, 538, 539, 540, 485, 486, 487, 488, 508, 509, 510, 511, 512, 513, 514, 515] rfl (by decide +kernel)
set_option maxRecDepth 20000 in
theorem gX9_step_X4_take : GoodIn wsX9_step (wsV RX9 272 RX4 yX4_take wsX4_take) := goodIn_app (goodIn_of _ (by decide +kernel)) ggX9_step_X4_take
theorem dX9_step_0 : decode cX9_step 0 = .ok (.aload_n 0, 1) := by decide +kernel
theorem dX9_step_1 : decode cX9_step 1 = .ok (.iload_n 1, 1) := by decide +kernel
theorem dX9_step_2 : decode cX9_step 2 = .ok (.invokevirtual 227, 3) := by decide +kernel
theorem dX9_step_5 : decode cX9_step 5 = .ok (.aload_n 0, 1) := by decide +kernel
theorem dX9_step_6 : decode cX9_step 6 = .ok (.getfield 80, 3) := by decide +kernel
theorem dX9_step_9 : decode cX9_step 9 = .ok (.aload_n 0, 1) := by decide +kernel
theorem dX9_step_10 : decode cX9_step 10 = .ok (.getfield 53, 3) := by decide +kernel
theorem dX9_step_13 : decode cX9_step 13 = .ok (.aload_n 0, 1) := by decide +kernel
theorem dX9_step_14 : decode cX9_step 14 = .ok (.getfield 100, 3) := by decide +kernel
theorem dX9_step_17 : decode cX9_step 17 = .ok (.invokevirtual 336, 3) := by decide +kernel
theorem dX9_step_20 : decode cX9_step 20 = .ok (.aload_n 0, 1) := by decide +kernel
theorem dX9_step_21 : decode cX9_step 21 = .ok (.aload_n 0, 1) := by decide +kernel
theorem dX9_step_22 : decode cX9_step 22 = .ok (.getfield 49, 3) := by decide +kernel
theorem dX9_step_25 : decode cX9_step 25 = .ok (.iload_n 1, 1) := by decide +kernel
theorem dX9_step_26 : decode cX9_step 26 = .ok (.bipush 20, 2) := by decide +kernel
theorem dX9_step_28 : decode cX9_step 28 = .ok (.invokevirtual 339, 3) := by decide +kernel
theorem dX9_step_31 : decode cX9_step 31 = .ok (.aload_n 0, 1) := by decide +kernel
theorem dX9_step_32 : decode cX9_step 32 = .ok (.iload_n 2, 1) := by decide +kernel
theorem dX9_step_33 : decode cX9_step 33 = .ok (.invokevirtual 345, 3) := by decide +kernel
theorem dX9_step_36 : decode cX9_step 36 = .ok (.aload_n 0, 1) := by decide +kernel
theorem dX9_step_37 : decode cX9_step 37 = .ok (.getfield 62, 3) := by decide +kernel
theorem dX9_step_40 : decode cX9_step 40 = .ok (.aload_n 0, 1) := by decide +kernel
theorem dX9_step_41 : decode cX9_step 41 = .ok (.getfield 80, 3) := by decide +kernel
theorem dX9_step_44 : decode cX9_step 44 = .ok (.getfield 348, 3) := by decide +kernel
theorem dX9_step_47 : decode cX9_step 47 = .ok (.aload_n 0, 1) := by decide +kernel
theorem dX9_step_48 : decode cX9_step 48 = .ok (.getfield 80, 3) := by decide +kernel
theorem dX9_step_51 : decode cX9_step 51 = .ok (.iload_n 2, 1) := by decide +kernel
theorem dX9_step_52 : decode cX9_step 52 = .ok (.invokevirtual 351, 3) := by decide +kernel
theorem dX9_step_55 : decode cX9_step 55 = .ok (.invokevirtual 272, 3) := by decide +kernel
theorem dX9_step_58 : decode cX9_step 58 = .ok (.ireturn, 1) := by decide +kernel
set_option maxRecDepth 20000 in
theorem ggX9_stepAt_X9_checkTerm : GoodIn wsX9_stepAt wsX9_checkTerm := goodIn_ca (goodIn_r _ [11, 12, 13, 6, 415, 416, 417, 418, 419, 420, 421, 422, 423, 424, 425, 426, 427, 428, 429, 430, 431, 432, 433, 434] rfl (by decide +kernel)) (goodIn_sub (fun _ h => List.mem_cons_of_mem _ (List.mem_append_left _ (List.mem_append_right _ h))) (by decide +kernel))
set_option maxRecDepth 20000 in
theorem gX9_stepAt_X9_checkTerm : GoodIn wsX9_stepAt (wsV RX9 227 RX9 yX9_checkTerm wsX9_checkTerm) := goodIn_app (goodIn_of _ (by decide +kernel)) ggX9_stepAt_X9_checkTerm
set_option maxRecDepth 20000 in
theorem ggX9_stepAt_X7_prepare : GoodIn wsX9_stepAt wsX7_prepare := goodIn_r _ [18, 19, 20, 21, 22, 23, 24, 25, 26, 27, 28, 29, 30, 31, 32, 33, 34, 35, 36, 37, 38, 39, 40, 41, 42, 43, 44, 45, 46, 47, 48, 49, 50, 51, 52, 53, 54, 55, 56, 57, 58, 59, 60, 61, 62, 10, 63, 64, 65, 66, 67, 68, 69, 70, 71, 72, 73, 74, 75, 76, 77, 78, 79, 80, 81, 82, 83, 435, 436, 437, 438, 439, 440, 441, 442, 443, 444, 445, 446, 447, 448, 449, 450, 451, 452, 453, 454, 455, 456, 457, 458, 459, 460, 461, 462, 463, 464, 465, 466, 467, 468, 469, 431, 432, 433, 434, 470, 471, 472, 473, 474, 475, 476, 477] rfl (by decide +kernel)
set_option maxRecDepth 20000 in
theorem gX9_stepAt_X7_prepare : GoodIn wsX9_stepAt (wsV RX9 336 RX7 yX7_prepare wsX7_prepare) := goodIn_app (goodIn_of _ (by decide +kernel)) ggX9_stepAt_X7_prepare
set_option maxRecDepth 20000 in
theorem ggX9_stepAt_X9_listSteps : GoodIn wsX9_stepAt wsX9_listSteps := goodIn_ca (goodIn_r _ [87, 88, 89, 3, 90, 91, 92, 17, 93, 94, 20, 23, 95, 96, 97, 21, 98, 99, 100, 53, 101, 55, 102, 31, 32, 27, 33, 34, 35, 36, 37, 38, 39, 40, 41, 42, 43, 44, 45, 46, 47, 48, 29, 49, 50, 51, 52, 54, 56, 57, 58, 59, 60, 61, 62, 10, 63, 64, 65, 66, 67, 68, 69, 70, 71, 72, 73, 74, 75, 76, 77, 78, 79, 80, 81, 82, 83, 103, 104, 105, 106, 107, 108, 109, 110, 111, 112, 113, 114, 115, 116, 117, 118, 119, 120, 121, 122, 123, 124, 125, 126, 19, 127, 128, 129, 130, 131, 132, 133, 134, 135, 136, 137, 138, 139, 140, 141, 142, 143, 144, 145, 146, 147, 148, 149, 150, 151, 152, 153, 154, 155, 156, 157, 158, 159, 160, 161, 162, 163, 164, 165, 166, 167, 168, 169, 170, 171, 172, 173, 174, 175, 176, 177, 178, 179, 180, 181, 182, 183, 184, 185, 186, 187, 188, 189, 190, 191, 192, 193, 194, 195, 196, 197, 198, 199, 200, 201, 202, 203, 204, 205, 206, 207, 208, 209, 210, 211, 212, 213, 214, 215, 216, 217, 218, 219, 220, 221, 222, 223, 224, 225, 226, 227, 228, 229, 230, 231, 232, 233, 234, 235, 236, 237, 238, 239, 240, 241, 242, 243, 244, 245, 246, 247, 248, 249, 250, 251, 252, 253, 254, 255, 256, 257, 258, 259, 260, 261, 262, 263, 264, 265, 266, 267, 268, 269, 270, 271, 272, 273, 274, 275, 276, 277, 278, 279, 280, 281, 282, 283, 284, 285, 286, 287, 288, 289, 290, 291, 292, 293, 294, 295, 296, 297, 298, 299, 300, 301, 302, 303, 304, 305, 306, 307, 308, 309, 310, 311, 312, 313, 314, 315, 316, 317, 318, 319, 320, 321, 322, 323, 324, 325, 326, 327, 328, 329, 330, 331, 332, 333, 334, 335, 336, 337, 338, 339, 340, 341, 342, 343, 344, 345, 346, 22, 347, 348, 349, 350, 351, 352, 353, 354, 355, 356, 357, 358, 359, 360, 361, 362, 363, 364, 365, 366, 367, 368, 369, 370, 371, 372, 373, 374, 375, 376, 377, 378, 379, 380, 381, 382, 383, 384, 385, 386, 387, 388, 389, 390, 391, 392, 393, 394, 415, 416, 417, 418, 419, 420, 421, 422, 423, 424, 425, 426, 427, 428, 429, 430, 435, 436, 437, 438, 439, 440, 441, 442, 443, 444, 445, 446, 447, 448, 449, 450, 451, 452, 453, 454, 455, 456, 457, 458, 459, 460, 461, 462, 463, 464, 465, 466, 467, 468, 469, 431, 432, 433, 434, 470, 471, 472, 473, 474, 475, 476, 477, 478, 479, 480, 481, 482, 483, 484, 485, 486, 487, 488, 489, 490, 491, 492, 493, 494, 495, 496, 497] rfl (by decide +kernel)) (goodIn_sub (fun _ h => List.mem_cons_of_mem _ (List.mem_append_right _ h)) (by decide +kernel))
set_option maxRecDepth 20000 in
theorem gX9_stepAt_X9_listSteps : GoodIn wsX9_stepAt (wsV RX9 339 RX9 yX9_listSteps wsX9_listSteps) := goodIn_app (goodIn_of _ (by decide +kernel)) ggX9_stepAt_X9_listSteps
set_option maxRecDepth 20000 in
theorem ggX9_stepAt_X9_checkStep : GoodIn wsX9_stepAt wsX9_checkStep := goodIn_ca (goodIn_r _ [398, 1, 2, 3, 399, 400, 401, 17, 402, 94, 415, 416, 417, 418, 419, 420, 421, 422, 423, 424, 425, 426, 427, 428, 429, 430, 435, 436, 437, 438, 439, 440, 441, 442, 443, 444, 445, 446, 447, 448, 449, 450, 431, 432, 433, 434] rfl (by decide +kernel)) (goodIn_sub (fun _ h => List.mem_cons_of_mem _ (List.mem_append_left _ (List.mem_append_left _ (List.mem_append_right _ h)))) (by decide +kernel))
set_option maxRecDepth 20000 in
theorem gX9_stepAt_X9_checkStep : GoodIn wsX9_stepAt (wsV RX9 345 RX9 yX9_checkStep wsX9_checkStep) := goodIn_app (goodIn_of _ (by decide +kernel)) ggX9_stepAt_X9_checkStep
set_option maxRecDepth 20000 in
theorem ggX9_stepAt_X7_placeOf : GoodIn wsX9_stepAt wsX7_placeOf := goodIn_r _ [406, 369, 407, 408, 409, 17, 410, 94, 367, 435, 436, 437, 438, 439, 440, 441, 442, 443, 444, 445, 446, 447, 448, 449, 450, 431, 432, 433, 434] rfl (by decide +kernel)
set_option maxRecDepth 20000 in
theorem gX9_stepAt_X7_placeOf : GoodIn wsX9_stepAt (wsV RX9 354 RX7 yX7_placeOf wsX7_placeOf) := goodIn_app (goodIn_of _ (by decide +kernel)) ggX9_stepAt_X7_placeOf
set_option maxRecDepth 20000 in
theorem ggX9_stepAt_X7_ruleOf : GoodIn wsX9_stepAt wsX7_ruleOf := goodIn_r _ [414, 370, 407, 408, 409, 17, 410, 94, 367, 435, 436, 437, 438, 439, 440, 441, 442, 443, 444, 445, 446, 447, 448, 449, 450, 431, 432, 433, 434] rfl (by decide +kernel)
set_option maxRecDepth 20000 in
theorem gX9_stepAt_X7_ruleOf : GoodIn wsX9_stepAt (wsV RX9 357 RX7 yX7_ruleOf wsX7_ruleOf) := goodIn_app (goodIn_of _ (by decide +kernel)) ggX9_stepAt_X7_ruleOf
theorem dX9_stepAt_0 : decode cX9_stepAt 0 = .ok (.aload_n 0, 1) := by decide +kernel
theorem dX9_stepAt_1 : decode cX9_stepAt 1 = .ok (.iload_n 1, 1) := by decide +kernel
theorem dX9_stepAt_2 : decode cX9_stepAt 2 = .ok (.invokevirtual 227, 3) := by decide +kernel
theorem dX9_stepAt_5 : decode cX9_stepAt 5 = .ok (.aload_n 0, 1) := by decide +kernel
theorem dX9_stepAt_6 : decode cX9_stepAt 6 = .ok (.getfield 80, 3) := by decide +kernel
theorem dX9_stepAt_9 : decode cX9_stepAt 9 = .ok (.aload_n 0, 1) := by decide +kernel
theorem dX9_stepAt_10 : decode cX9_stepAt 10 = .ok (.getfield 53, 3) := by decide +kernel
theorem dX9_stepAt_13 : decode cX9_stepAt 13 = .ok (.aload_n 0, 1) := by decide +kernel
theorem dX9_stepAt_14 : decode cX9_stepAt 14 = .ok (.getfield 100, 3) := by decide +kernel
theorem dX9_stepAt_17 : decode cX9_stepAt 17 = .ok (.invokevirtual 336, 3) := by decide +kernel
theorem dX9_stepAt_20 : decode cX9_stepAt 20 = .ok (.aload_n 0, 1) := by decide +kernel
theorem dX9_stepAt_21 : decode cX9_stepAt 21 = .ok (.aload_n 0, 1) := by decide +kernel
theorem dX9_stepAt_22 : decode cX9_stepAt 22 = .ok (.getfield 49, 3) := by decide +kernel
theorem dX9_stepAt_25 : decode cX9_stepAt 25 = .ok (.iload_n 1, 1) := by decide +kernel
theorem dX9_stepAt_26 : decode cX9_stepAt 26 = .ok (.bipush 20, 2) := by decide +kernel
theorem dX9_stepAt_28 : decode cX9_stepAt 28 = .ok (.invokevirtual 339, 3) := by decide +kernel
theorem dX9_stepAt_31 : decode cX9_stepAt 31 = .ok (.aload_n 0, 1) := by decide +kernel
theorem dX9_stepAt_32 : decode cX9_stepAt 32 = .ok (.iload_n 2, 1) := by decide +kernel
theorem dX9_stepAt_33 : decode cX9_stepAt 33 = .ok (.invokevirtual 345, 3) := by decide +kernel
theorem dX9_stepAt_36 : decode cX9_stepAt 36 = .ok (.iload_n 3, 1) := by decide +kernel
theorem dX9_stepAt_37 : decode cX9_stepAt 37 = .ok (.ifCond .eq 18, 3) := by decide +kernel
theorem dX9_stepAt_40 : decode cX9_stepAt 40 = .ok (.iload_n 3, 1) := by decide +kernel
theorem dX9_stepAt_41 : decode cX9_stepAt 41 = .ok (.iconst 1, 1) := by decide +kernel
theorem dX9_stepAt_42 : decode cX9_stepAt 42 = .ok (.if_icmp .eq 13, 3) := by decide +kernel
theorem dX9_stepAt_45 : decode cX9_stepAt 45 = .ok (.new 219, 3) := by decide +kernel
theorem dX9_stepAt_48 : decode cX9_stepAt 48 = .ok (.dup, 1) := by decide +kernel
theorem dX9_stepAt_49 : decode cX9_stepAt 49 = .ok (.ldc 221, 2) := by decide +kernel
theorem dX9_stepAt_51 : decode cX9_stepAt 51 = .ok (.invokespecial 223, 3) := by decide +kernel
theorem dX9_stepAt_54 : decode cX9_stepAt 54 = .ok (.athrow, 1) := by decide +kernel
theorem dX9_stepAt_55 : decode cX9_stepAt 55 = .ok (.iload_n 3, 1) := by decide +kernel
theorem dX9_stepAt_56 : decode cX9_stepAt 56 = .ok (.ifCond .ne 14, 3) := by decide +kernel
theorem dX9_stepAt_59 : decode cX9_stepAt 59 = .ok (.aload_n 0, 1) := by decide +kernel
theorem dX9_stepAt_60 : decode cX9_stepAt 60 = .ok (.getfield 80, 3) := by decide +kernel
theorem dX9_stepAt_63 : decode cX9_stepAt 63 = .ok (.iload_n 2, 1) := by decide +kernel
theorem dX9_stepAt_64 : decode cX9_stepAt 64 = .ok (.invokevirtual 354, 3) := by decide +kernel
theorem dX9_stepAt_67 : decode cX9_stepAt 67 = .ok (.goto 11, 3) := by decide +kernel
theorem dX9_stepAt_70 : decode cX9_stepAt 70 = .ok (.aload_n 0, 1) := by decide +kernel
theorem dX9_stepAt_71 : decode cX9_stepAt 71 = .ok (.getfield 80, 3) := by decide +kernel
theorem dX9_stepAt_74 : decode cX9_stepAt 74 = .ok (.iload_n 2, 1) := by decide +kernel
theorem dX9_stepAt_75 : decode cX9_stepAt 75 = .ok (.invokevirtual 357, 3) := by decide +kernel
theorem dX9_stepAt_78 : decode cX9_stepAt 78 = .ok (.ireturn, 1) := by decide +kernel
set_option maxRecDepth 20000 in
theorem ggX9_atTop_X9_checkTerm : GoodIn wsX9_atTop wsX9_checkTerm := goodIn_ca (goodIn_r _ [8, 9, 10, 3, 404, 405, 406, 407, 408, 409, 410, 411, 412, 413, 414, 415, 416, 417, 418, 419, 420, 421, 422, 423] rfl (by decide +kernel)) (goodIn_sub (fun _ h => List.mem_cons_of_mem _ (List.mem_append_left _ (List.mem_append_right _ h))) (by decide +kernel))
set_option maxRecDepth 20000 in
theorem gX9_atTop_X9_checkTerm : GoodIn wsX9_atTop (wsV RX9 227 RX9 yX9_checkTerm wsX9_checkTerm) := goodIn_app (goodIn_of _ (by decide +kernel)) ggX9_atTop_X9_checkTerm
set_option maxRecDepth 20000 in
theorem ggX9_atTop_X9_checkRule : GoodIn wsX9_atTop wsX9_checkRule := goodIn_ca (goodIn_r _ [14, 9, 10, 15, 16, 17, 7, 18, 2, 404, 405, 406, 407, 408, 409, 410, 411, 412, 413, 414, 415, 416, 417, 418, 419, 420, 421, 422, 423] rfl (by decide +kernel)) (goodIn_sub (fun _ h => List.mem_cons_of_mem _ (List.mem_append_left _ (List.mem_append_right _ h))) (by decide +kernel))
set_option maxRecDepth 20000 in
theorem gX9_atTop_X9_checkRule : GoodIn wsX9_atTop (wsV RX9 201 RX9 yX9_checkRule wsX9_checkRule) := goodIn_app (goodIn_of _ (by decide +kernel)) ggX9_atTop_X9_checkRule
set_option maxRecDepth 20000 in
theorem ggX9_atTop_X7_prepare : GoodIn wsX9_atTop wsX7_prepare := goodIn_r _ [23, 24, 25, 26, 27, 28, 29, 30, 31, 32, 33, 34, 35, 36, 37, 38, 39, 40, 41, 42, 43, 44, 45, 46, 47, 48, 49, 50, 51, 52, 53, 54, 55, 56, 57, 58, 59, 60, 61, 62, 63, 64, 65, 66, 67, 7, 68, 69, 70, 71, 72, 73, 74, 75, 76, 77, 78, 79, 80, 81, 82, 83, 84, 85, 86, 87, 88, 424, 425, 426, 427, 428, 429, 430, 431, 432, 433, 434, 435, 436, 437, 438, 439, 440, 441, 442, 443, 444, 445, 446, 447, 448, 449, 450, 451, 452, 453, 454, 455, 456, 457, 458, 420, 421, 422, 423, 459, 460, 461, 462, 463, 464, 465, 466] rfl (by decide +kernel)
set_option maxRecDepth 20000 in
theorem gX9_atTop_X7_prepare : GoodIn wsX9_atTop (wsV RX9 336 RX7 yX7_prepare wsX7_prepare) := goodIn_app (goodIn_of _ (by decide +kernel)) ggX9_atTop_X7_prepare
set_option maxRecDepth 20000 in
theorem ggX9_atTop_X9_listSteps : GoodIn wsX9_atTop wsX9_listSteps := goodIn_ca (goodIn_r _ [92, 93, 94, 1, 95, 96, 97, 22, 98, 99, 25, 28, 100, 101, 102, 26, 103, 104, 105, 58, 106, 60, 107, 36, 37, 32, 38, 39, 40, 41, 42, 43, 44, 45, 46, 47, 48, 49, 50, 51, 52, 53, 34, 54, 55, 56, 57, 59, 61, 62, 63, 64, 65, 66, 67, 7, 68, 69, 70, 71, 72, 73, 74, 75, 76, 77, 78, 79, 80, 81, 82, 83, 84, 85, 86, 87, 88, 108, 109, 110, 111, 112, 113, 114, 115, 116, 117, 118, 119, 120, 121, 122, 123, 124, 125, 126, 127, 128, 129, 130, 131, 24, 132, 133, 134, 135, 136, 137, 138, 139, 140, 141, 142, 143, 144, 145, 146, 147, 148, 149, 150, 151, 152, 153, 154, 155, 156, 157, 158, 159, 160, 161, 162, 163, 164, 165, 166, 167, 168, 169, 170, 171, 172, 173, 174, 175, 176, 177, 178, 179, 180, 181, 182, 183, 184, 185, 186, 187, 188, 189, 190, 191, 192, 193, 194, 195, 196, 197, 198, 199, 200, 201, 202, 203, 204, 205, 206, 207, 208, 209, 210, 211, 212, 213, 214, 215, 216, 217, 218, 219, 220, 221, 222, 223, 224, 225, 226, 227, 228, 229, 230, 231, 232, 233, 234, 235, 236, 237, 238, 239, 240, 241, 242, 243, 244, 245, 246, 247, 248, 249, 250, 251, 252, 253, 254, 255, 256, 257, 258, 259, 260, 261, 262, 263, 264, 265, 266, 267, 268, 269, 270, 271, 272, 273, 274, 275, 276, 277, 278, 279, 280, 281, 282, 283, 284, 285, 286, 287, 288, 289, 290, 291, 292, 293, 294, 295, 296, 297, 298, 299, 300, 301, 302, 303, 304, 305, 306, 307, 308, 309, 310, 311, 312, 313, 314, 315, 316, 317, 318, 319, 320, 321, 322, 323, 324, 325, 326, 327, 328, 329, 330, 331, 332, 333, 334, 335, 336, 337, 338, 339, 340, 341, 342, 343, 344, 345, 346, 347, 348, 349, 350, 351, 27, 352, 353, 354, 355, 356, 357, 358, 359, 360, 361, 362, 363, 364, 365, 366, 367, 368, 369, 370, 371, 372, 373, 374, 375, 376, 377, 378, 379, 380, 381, 382, 383, 384, 385, 386, 387, 388, 389, 390, 391, 392, 393, 394, 395, 396, 397, 398, 399, 404, 405, 406, 407, 408, 409, 410, 411, 412, 413, 414, 415, 416, 417, 418, 419, 424, 425, 426, 427, 428, 429, 430, 431, 432, 433, 434, 435, 436, 437, 438, 439, 440, 441, 442, 443, 444, 445, 446, 447, 448, 449, 450, 451, 452, 453, 454, 455, 456, 457, 458, 420, 421, 422, 423, 459, 460, 461, 462, 463, 464, 465, 466, 467, 468, 469, 470, 471, 472, 473, 474, 475, 476, 477, 478, 479, 480, 481, 482, 483, 484, 485, 486] rfl (by decide +kernel)) (goodIn_sub (fun _ h => List.mem_cons_of_mem _ (List.mem_append_right _ h)) (by decide +kernel))
set_option maxRecDepth 20000 in
theorem gX9_atTop_X9_listSteps : GoodIn wsX9_atTop (wsV RX9 339 RX9 yX9_listSteps wsX9_listSteps) := goodIn_app (goodIn_of _ (by decide +kernel)) ggX9_atTop_X9_listSteps
set_option maxRecDepth 20000 in
theorem ggX9_atTop_X7_used : GoodIn wsX9_atTop wsX7_used := goodIn_r _ [403, 99, 424, 425, 426, 427, 428, 429, 430, 431, 432, 433, 434, 435, 436, 437, 438, 439, 420, 421, 422, 423] rfl (by decide +kernel)
set_option maxRecDepth 20000 in
theorem gX9_atTop_X7_used : GoodIn wsX9_atTop (wsV RX9 343 RX7 yX7_used wsX7_used) := goodIn_app (goodIn_of _ (by decide +kernel)) ggX9_atTop_X7_used
theorem dX9_atTop_0 : decode cX9_atTop 0 = .ok (.aload_n 0, 1) := by decide +kernel
theorem dX9_atTop_1 : decode cX9_atTop 1 = .ok (.iload_n 1, 1) := by decide +kernel
theorem dX9_atTop_2 : decode cX9_atTop 2 = .ok (.invokevirtual 227, 3) := by decide +kernel
theorem dX9_atTop_5 : decode cX9_atTop 5 = .ok (.aload_n 0, 1) := by decide +kernel
theorem dX9_atTop_6 : decode cX9_atTop 6 = .ok (.iload_n 2, 1) := by decide +kernel
theorem dX9_atTop_7 : decode cX9_atTop 7 = .ok (.invokevirtual 201, 3) := by decide +kernel
theorem dX9_atTop_10 : decode cX9_atTop 10 = .ok (.aload_n 0, 1) := by decide +kernel
theorem dX9_atTop_11 : decode cX9_atTop 11 = .ok (.getfield 80, 3) := by decide +kernel
theorem dX9_atTop_14 : decode cX9_atTop 14 = .ok (.aload_n 0, 1) := by decide +kernel
theorem dX9_atTop_15 : decode cX9_atTop 15 = .ok (.getfield 53, 3) := by decide +kernel
theorem dX9_atTop_18 : decode cX9_atTop 18 = .ok (.iconst 1, 1) := by decide +kernel
theorem dX9_atTop_19 : decode cX9_atTop 19 = .ok (.iload_n 2, 1) := by decide +kernel
theorem dX9_atTop_20 : decode cX9_atTop 20 = .ok (.ishl, 1) := by decide +kernel
theorem dX9_atTop_21 : decode cX9_atTop 21 = .ok (.invokevirtual 336, 3) := by decide +kernel
theorem dX9_atTop_24 : decode cX9_atTop 24 = .ok (.aload_n 0, 1) := by decide +kernel
theorem dX9_atTop_25 : decode cX9_atTop 25 = .ok (.aload_n 0, 1) := by decide +kernel
theorem dX9_atTop_26 : decode cX9_atTop 26 = .ok (.getfield 49, 3) := by decide +kernel
theorem dX9_atTop_29 : decode cX9_atTop 29 = .ok (.iload_n 1, 1) := by decide +kernel
theorem dX9_atTop_30 : decode cX9_atTop 30 = .ok (.iconst 1, 1) := by decide +kernel
theorem dX9_atTop_31 : decode cX9_atTop 31 = .ok (.invokevirtual 339, 3) := by decide +kernel
theorem dX9_atTop_34 : decode cX9_atTop 34 = .ok (.aload_n 0, 1) := by decide +kernel
theorem dX9_atTop_35 : decode cX9_atTop 35 = .ok (.getfield 80, 3) := by decide +kernel
theorem dX9_atTop_38 : decode cX9_atTop 38 = .ok (.invokevirtual 343, 3) := by decide +kernel
theorem dX9_atTop_41 : decode cX9_atTop 41 = .ok (.ireturn, 1) := by decide +kernel
set_option maxRecDepth 20000 in
theorem ggX9_walk_X9_checkTerm : GoodIn wsX9_walk wsX9_checkTerm := goodIn_ca (goodIn_r _ [11, 12, 13, 5, 450, 451, 452, 453, 454, 455, 456, 457, 458, 459, 460, 461, 462, 463, 464, 465, 482, 483, 484, 485] rfl (by decide +kernel)) (goodIn_sub (fun _ h => List.mem_cons_of_mem _ (List.mem_append_left _ (List.mem_append_right _ h))) (by decide +kernel))
set_option maxRecDepth 20000 in
theorem gX9_walk_X9_checkTerm : GoodIn wsX9_walk (wsV RX9 227 RX9 yX9_checkTerm wsX9_checkTerm) := goodIn_app (goodIn_of _ (by decide +kernel)) ggX9_walk_X9_checkTerm
set_option maxRecDepth 20000 in
theorem ggX9_walk_X7_prepare : GoodIn wsX9_walk wsX7_prepare := goodIn_r _ [18, 19, 20, 21, 22, 23, 24, 25, 26, 27, 28, 29, 30, 31, 32, 33, 34, 35, 36, 37, 38, 39, 40, 41, 42, 43, 44, 45, 46, 47, 48, 49, 50, 51, 52, 53, 54, 55, 56, 57, 58, 59, 60, 61, 62, 10, 63, 64, 65, 66, 67, 68, 69, 70, 71, 72, 73, 74, 75, 76, 77, 78, 79, 80, 81, 82, 83, 466, 467, 468, 469, 470, 471, 472, 473, 474, 475, 476, 477, 478, 479, 480, 481, 486, 487, 488, 489, 490, 491, 492, 493, 494, 495, 496, 497, 498, 499, 500, 501, 502, 503, 504, 482, 483, 484, 485, 505, 506, 507, 508, 509, 510, 511, 512] rfl (by decide +kernel)
set_option maxRecDepth 20000 in
theorem gX9_walk_X7_prepare : GoodIn wsX9_walk (wsV RX9 336 RX7 yX7_prepare wsX7_prepare) := goodIn_app (goodIn_of _ (by decide +kernel)) ggX9_walk_X7_prepare
set_option maxRecDepth 20000 in
theorem ggX9_walk_X2_clear : GoodIn wsX9_walk wsX2_clear := goodIn_r _ [87, 55, 482, 483, 484, 485] rfl (by decide +kernel)
set_option maxRecDepth 20000 in
theorem gX9_walk_X2_clear : GoodIn wsX9_walk (wsV RX9 135 RX2 yX2_clear wsX2_clear) := goodIn_app (goodIn_of _ (by decide +kernel)) ggX9_walk_X2_clear
set_option maxRecDepth 20000 in
theorem ggX9_walk_X2_copy : GoodIn wsX9_walk wsX2_copy := goodIn_r _ [91, 92, 51, 52, 53, 54, 55, 56, 93, 94, 95, 96, 97, 98, 99, 100, 101, 58, 59, 60, 61, 102, 103, 104, 105, 482, 483, 484, 485] rfl (by decide +kernel)
set_option maxRecDepth 20000 in
theorem gX9_walk_X2_copy : GoodIn wsX9_walk (wsV RX9 197 RX2 yX2_copy wsX2_copy) := goodIn_app (goodIn_of _ (by decide +kernel)) ggX9_walk_X2_copy
set_option maxRecDepth 20000 in
theorem ggX9_walk_X9_listSteps : GoodIn wsX9_walk wsX9_listSteps := goodIn_ca (goodIn_r _ [109, 110, 111, 1, 112, 113, 114, 17, 115, 116, 20, 23, 117, 118, 119, 21, 120, 85, 86, 53, 87, 55, 121, 31, 32, 27, 33, 34, 35, 36, 37, 38, 39, 40, 41, 42, 43, 44, 45, 46, 47, 48, 29, 49, 50, 51, 52, 54, 56, 57, 58, 59, 60, 61, 62, 10, 63, 64, 65, 66, 67, 68, 69, 70, 71, 72, 73, 74, 75, 76, 77, 78, 79, 80, 81, 82, 83, 122, 123, 124, 125, 126, 127, 128, 129, 130, 131, 132, 133, 134, 135, 136, 137, 138, 139, 140, 141, 142, 143, 144, 145, 19, 146, 147, 148, 149, 150, 151, 152, 153, 154, 155, 156, 157, 158, 159, 160, 161, 162, 163, 164, 165, 166, 167, 168, 169, 170, 171, 172, 173, 174, 175, 176, 177, 178, 179, 180, 181, 182, 183, 184, 185, 186, 187, 188, 189, 190, 191, 192, 193, 194, 195, 196, 197, 198, 199, 200, 201, 202, 203, 204, 205, 206, 207, 208, 209, 210, 211, 212, 213, 214, 215, 216, 217, 218, 219, 220, 221, 222, 223, 224, 225, 226, 227, 228, 229, 230, 231, 232, 233, 234, 235, 236, 237, 238, 239, 240, 241, 242, 243, 244, 245, 246, 247, 248, 249, 250, 251, 252, 253, 254, 255, 256, 257, 258, 259, 260, 261, 262, 263, 264, 265, 266, 267, 268, 269, 270, 271, 272, 273, 274, 275, 276, 277, 278, 279, 280, 281, 282, 283, 284, 285, 286, 287, 288, 289, 290, 291, 292, 293, 294, 295, 296, 297, 298, 299, 300, 301, 302, 303, 304, 305, 306, 307, 308, 309, 310, 311, 312, 313, 314, 315, 316, 317, 318, 319, 320, 321, 322, 323, 324, 325, 326, 327, 328, 329, 330, 331, 332, 333, 334, 335, 336, 337, 338, 339, 340, 341, 342, 343, 344, 345, 346, 347, 348, 349, 350, 351, 352, 353, 354, 355, 356, 357, 358, 359, 360, 361, 362, 363, 364, 365, 22, 366, 367, 368, 369, 370, 371, 372, 373, 374, 375, 376, 377, 378, 379, 380, 381, 382, 383, 384, 385, 386, 387, 388, 389, 390, 391, 392, 393, 394, 98, 99, 100, 395, 103, 104, 105, 396, 397, 398, 399, 92, 101, 400, 401, 402, 403, 404, 405, 450, 451, 452, 453, 454, 455, 456, 457, 458, 459, 460, 461, 462, 463, 464, 465, 466, 467, 468, 469, 470, 471, 472, 473, 474, 475, 476, 477, 478, 479, 480, 481, 486, 487, 488, 489, 490, 491, 492, 493, 494, 495, 496, 497, 498, 499, 500, 501, 502, 503, 504, 482, 483, 484, 485, 505, 506, 507, 508, 509, 510, 511, 512, 513, 514, 515, 516, 517, 518, 519, 520, 521, 522, 523, 524, 525, 526, 527, 528, 529, 530, 531, 532] rfl (by decide +kernel)) (goodIn_sub (fun _ h => List.mem_cons_of_mem _ (List.mem_append_right _ h)) (by decide +kernel))
set_option maxRecDepth 20000 in
theorem gX9_walk_X9_listSteps : GoodIn wsX9_walk (wsV RX9 339 RX9 yX9_listSteps wsX9_listSteps) := goodIn_app (goodIn_of _ (by decide +kernel)) ggX9_walk_X9_listSteps
set_option maxRecDepth 20000 in
theorem ggX9_walk_X7_used : GoodIn wsX9_walk wsX7_used := goodIn_r _ [409, 116, 466, 467, 468, 469, 470, 471, 472, 473, 474, 475, 476, 477, 478, 479, 480, 481, 482, 483, 484, 485] rfl (by decide +kernel)
set_option maxRecDepth 20000 in
theorem gX9_walk_X7_used : GoodIn wsX9_walk (wsV RX9 343 RX7 yX7_used wsX7_used) := goodIn_app (goodIn_of _ (by decide +kernel)) ggX9_walk_X7_used
set_option maxRecDepth 20000 in
theorem ggX9_walk_X7_slotOf : GoodIn wsX9_walk wsX7_slotOf := goodIn_r _ [413, 116, 386, 466, 467, 468, 469, 470, 471, 472, 473, 474, 475, 476, 477, 478, 479, 480, 481, 482, 483, 484, 485] rfl (by decide +kernel)
set_option maxRecDepth 20000 in
theorem gX9_walk_X7_slotOf : GoodIn wsX9_walk (wsV RX9 351 RX7 yX7_slotOf wsX7_slotOf) := goodIn_app (goodIn_of _ (by decide +kernel)) ggX9_walk_X7_slotOf
set_option maxRecDepth 20000 in
theorem ggX9_walk_X4_take : GoodIn wsX9_walk wsX4_take := goodIn_r _ [418, 419, 420, 421, 85, 86, 53, 87, 55, 422, 89, 90, 91, 92, 51, 52, 54, 56, 93, 94, 95, 96, 97, 98, 99, 100, 101, 58, 59, 60, 61, 102, 103, 104, 105, 423, 424, 425, 417, 426, 427, 428, 429, 430, 431, 432, 433, 156, 434, 435, 436, 151, 10, 152, 437, 438, 439, 440, 441, 442, 443, 444, 445, 62, 63, 446, 447, 448, 449, 533, 534, 535, 536, 537, 482, 483, 484, 485, 505, 506, 507, 508, 509, 510, 511, 512] rfl (by decide +kernel)
set_option maxRecDepth 20000 in
theorem gX9_walk_X4_take : GoodIn wsX9_walk (wsV RX9 272 RX4 yX4_take wsX4_take) := goodIn_app (goodIn_of _ (by decide +kernel)) ggX9_walk_X4_take
theorem dX9_walk_0 : decode cX9_walk 0 = .ok (.aload_n 0, 1) := by decide +kernel
theorem dX9_walk_1 : decode cX9_walk 1 = .ok (.iload_n 1, 1) := by decide +kernel
theorem dX9_walk_2 : decode cX9_walk 2 = .ok (.invokevirtual 227, 3) := by decide +kernel
theorem dX9_walk_5 : decode cX9_walk 5 = .ok (.aload_n 0, 1) := by decide +kernel
theorem dX9_walk_6 : decode cX9_walk 6 = .ok (.getfield 80, 3) := by decide +kernel
theorem dX9_walk_9 : decode cX9_walk 9 = .ok (.aload_n 0, 1) := by decide +kernel
theorem dX9_walk_10 : decode cX9_walk 10 = .ok (.getfield 53, 3) := by decide +kernel
theorem dX9_walk_13 : decode cX9_walk 13 = .ok (.aload_n 0, 1) := by decide +kernel
theorem dX9_walk_14 : decode cX9_walk 14 = .ok (.getfield 100, 3) := by decide +kernel
theorem dX9_walk_17 : decode cX9_walk 17 = .ok (.invokevirtual 336, 3) := by decide +kernel
theorem dX9_walk_20 : decode cX9_walk 20 = .ok (.aload_n 0, 1) := by decide +kernel
theorem dX9_walk_21 : decode cX9_walk 21 = .ok (.getfield 56, 3) := by decide +kernel
theorem dX9_walk_24 : decode cX9_walk 24 = .ok (.invokevirtual 135, 3) := by decide +kernel
theorem dX9_walk_27 : decode cX9_walk 27 = .ok (.aload_n 0, 1) := by decide +kernel
theorem dX9_walk_28 : decode cX9_walk 28 = .ok (.getfield 56, 3) := by decide +kernel
theorem dX9_walk_31 : decode cX9_walk 31 = .ok (.aload_n 0, 1) := by decide +kernel
theorem dX9_walk_32 : decode cX9_walk 32 = .ok (.getfield 49, 3) := by decide +kernel
theorem dX9_walk_35 : decode cX9_walk 35 = .ok (.iload_n 1, 1) := by decide +kernel
theorem dX9_walk_36 : decode cX9_walk 36 = .ok (.invokevirtual 197, 3) := by decide +kernel
theorem dX9_walk_39 : decode cX9_walk 39 = .ok (.iconst 0, 1) := by decide +kernel
theorem dX9_walk_40 : decode cX9_walk 40 = .ok (.istore_n 2, 1) := by decide +kernel
theorem dX9_walk_41 : decode cX9_walk 41 = .ok (.iload_n 2, 1) := by decide +kernel
theorem dX9_walk_42 : decode cX9_walk 42 = .ok (.bipush 40, 2) := by decide +kernel
theorem dX9_walk_44 : decode cX9_walk 44 = .ok (.if_icmp .ge 62, 3) := by decide +kernel
theorem dX9_walk_47 : decode cX9_walk 47 = .ok (.aload_n 0, 1) := by decide +kernel
theorem dX9_walk_48 : decode cX9_walk 48 = .ok (.aload_n 0, 1) := by decide +kernel
theorem dX9_walk_49 : decode cX9_walk 49 = .ok (.getfield 56, 3) := by decide +kernel
theorem dX9_walk_52 : decode cX9_walk 52 = .ok (.iconst 0, 1) := by decide +kernel
theorem dX9_walk_53 : decode cX9_walk 53 = .ok (.bipush 20, 2) := by decide +kernel
theorem dX9_walk_55 : decode cX9_walk 55 = .ok (.invokevirtual 339, 3) := by decide +kernel
theorem dX9_walk_58 : decode cX9_walk 58 = .ok (.aload_n 0, 1) := by decide +kernel
theorem dX9_walk_59 : decode cX9_walk 59 = .ok (.getfield 80, 3) := by decide +kernel
theorem dX9_walk_62 : decode cX9_walk 62 = .ok (.invokevirtual 343, 3) := by decide +kernel
theorem dX9_walk_65 : decode cX9_walk 65 = .ok (.ifCond .ne 6, 3) := by decide +kernel
theorem dX9_walk_68 : decode cX9_walk 68 = .ok (.goto 38, 3) := by decide +kernel
theorem dX9_walk_71 : decode cX9_walk 71 = .ok (.aload_n 0, 1) := by decide +kernel
theorem dX9_walk_72 : decode cX9_walk 72 = .ok (.getfield 56, 3) := by decide +kernel
theorem dX9_walk_75 : decode cX9_walk 75 = .ok (.invokevirtual 135, 3) := by decide +kernel
theorem dX9_walk_78 : decode cX9_walk 78 = .ok (.aload_n 0, 1) := by decide +kernel
theorem dX9_walk_79 : decode cX9_walk 79 = .ok (.getfield 56, 3) := by decide +kernel
theorem dX9_walk_82 : decode cX9_walk 82 = .ok (.aload_n 0, 1) := by decide +kernel
theorem dX9_walk_83 : decode cX9_walk 83 = .ok (.getfield 80, 3) := by decide +kernel
theorem dX9_walk_86 : decode cX9_walk 86 = .ok (.getfield 348, 3) := by decide +kernel
theorem dX9_walk_89 : decode cX9_walk 89 = .ok (.aload_n 0, 1) := by decide +kernel
theorem dX9_walk_90 : decode cX9_walk 90 = .ok (.getfield 80, 3) := by decide +kernel
theorem dX9_walk_93 : decode cX9_walk 93 = .ok (.iconst 0, 1) := by decide +kernel
theorem dX9_walk_94 : decode cX9_walk 94 = .ok (.invokevirtual 351, 3) := by decide +kernel
theorem dX9_walk_97 : decode cX9_walk 97 = .ok (.invokevirtual 197, 3) := by decide +kernel
theorem dX9_walk_100 : decode cX9_walk 100 = .ok (.iinc 2 1, 3) := by decide +kernel
theorem dX9_walk_103 : decode cX9_walk 103 = .ok (.goto (-62), 3) := by decide +kernel
theorem dX9_walk_106 : decode cX9_walk 106 = .ok (.aload_n 0, 1) := by decide +kernel
theorem dX9_walk_107 : decode cX9_walk 107 = .ok (.getfield 62, 3) := by decide +kernel
theorem dX9_walk_110 : decode cX9_walk 110 = .ok (.aload_n 0, 1) := by decide +kernel
theorem dX9_walk_111 : decode cX9_walk 111 = .ok (.getfield 56, 3) := by decide +kernel
theorem dX9_walk_114 : decode cX9_walk 114 = .ok (.iconst 0, 1) := by decide +kernel
theorem dX9_walk_115 : decode cX9_walk 115 = .ok (.invokevirtual 272, 3) := by decide +kernel
theorem dX9_walk_118 : decode cX9_walk 118 = .ok (.pop, 1) := by decide +kernel
theorem dX9_walk_119 : decode cX9_walk 119 = .ok (.iload_n 2, 1) := by decide +kernel
theorem dX9_walk_120 : decode cX9_walk 120 = .ok (.ireturn, 1) := by decide +kernel
set_option maxRecDepth 20000 in
theorem ggX9_listSteps_X7_list : GoodIn wsX9_listSteps wsX7_list := goodIn_r _ [8, 9, 10, 11, 12, 13, 14, 15, 16, 17, 18, 19, 20, 21, 22, 23, 24, 25, 26, 27, 28, 29, 30, 31, 32, 33, 34, 35, 36, 37, 38, 39, 40, 41, 42, 43, 44, 45, 46, 47, 48, 49, 50, 51, 52, 53, 54, 55, 56, 57, 58, 59, 60, 61, 62, 63, 64, 65, 66, 67, 68, 69, 70, 71, 72, 73, 74, 75, 76, 77, 78, 79, 7, 80, 81, 82, 83, 84, 85, 86, 87, 88, 89, 90, 91, 92, 93, 94, 95, 96, 97, 98, 99, 100, 101, 102, 103, 104, 105, 106, 107, 108, 109, 110, 111, 112, 113, 114, 115, 116, 117, 118, 119, 120, 121, 122, 123, 124, 125, 126, 127, 128, 129, 130, 131, 132, 133, 134, 135, 136, 137, 138, 139, 140, 141, 142, 143, 144, 145, 146, 147, 148, 149, 150, 151, 152, 153, 154, 155, 156, 157, 158, 159, 160, 161, 162, 163, 164, 165, 166, 167, 168, 169, 170, 171, 172, 173, 174, 175, 176, 177, 178, 179, 180, 181, 182, 183, 184, 185, 186, 187, 188, 189, 190, 191, 192, 193, 194, 195, 196, 197, 198, 199, 200, 201, 202, 203, 204, 205, 206, 207, 208, 209, 210, 211, 212, 213, 214, 215, 216, 217, 218, 219, 220, 221, 222, 223, 224, 225, 226, 227, 228, 229, 230, 231, 232, 233, 234, 235, 236, 237, 238, 239, 240, 241, 242, 243, 244, 245, 246, 247, 248, 249, 250, 251, 252, 253, 254, 255, 256, 257, 258, 259, 260, 261, 262, 263, 264, 265, 266, 267, 268, 269, 270, 271, 272, 273, 274, 275, 276, 277, 278, 279, 280, 281, 282, 283, 284, 285, 286, 287, 288, 289, 290, 291, 292, 293, 294, 295, 296, 297, 298, 299, 300, 301, 302, 303, 304, 305, 306, 307, 308, 309, 310, 311, 312, 313, 314, 315, 316, 317, 318, 319, 320, 321, 322, 323, 324, 325, 326, 327, 328, 329, 330, 331, 332, 333, 334, 335, 336, 337, 338, 339, 340, 341, 342, 343, 344, 345, 346, 347, 348, 349, 350, 351, 352, 353, 354, 355, 356, 357, 358, 359, 360, 361, 362, 363, 364, 365, 366, 367, 368, 369, 370, 387, 388, 389, 390, 391, 392, 393, 394, 395, 396, 397, 398, 399, 400, 401, 402, 403, 404, 405, 406, 407, 408, 409, 410, 411, 412, 413, 414, 415, 416, 417, 418, 419, 420, 421, 422, 423, 424, 425, 426, 427, 428, 429, 430, 431, 432, 433, 434, 435, 436, 437, 438, 439, 440, 441, 442, 443, 444, 445, 446, 447, 448, 449, 450, 451, 452, 453] rfl (by decide +kernel)
set_option maxRecDepth 20000 in
theorem gX9_listSteps_X7_list : GoodIn wsX9_listSteps (wsV RX9 360 RX7 yX7_list wsX7_list) := goodIn_app (goodIn_of _ (by decide +kernel)) ggX9_listSteps_X7_list
theorem dX9_listSteps_0 : decode cX9_listSteps 0 = .ok (.aload_n 0, 1) := by decide +kernel
theorem dX9_listSteps_1 : decode cX9_listSteps 1 = .ok (.getfield 80, 3) := by decide +kernel
theorem dX9_listSteps_4 : decode cX9_listSteps 4 = .ok (.aload_n 1, 1) := by decide +kernel
theorem dX9_listSteps_5 : decode cX9_listSteps 5 = .ok (.iload_n 2, 1) := by decide +kernel
theorem dX9_listSteps_6 : decode cX9_listSteps 6 = .ok (.iload_n 3, 1) := by decide +kernel
theorem dX9_listSteps_7 : decode cX9_listSteps 7 = .ok (.invokevirtual 360, 3) := by decide +kernel
theorem dX9_listSteps_10 : decode cX9_listSteps 10 = .ok (.ifCond .ne 14, 3) := by decide +kernel
theorem dX9_listSteps_13 : decode cX9_listSteps 13 = .ok (.new 153, 3) := by decide +kernel
theorem dX9_listSteps_16 : decode cX9_listSteps 16 = .ok (.dup, 1) := by decide +kernel
theorem dX9_listSteps_17 : decode cX9_listSteps 17 = .ok (.ldc_w 364, 3) := by decide +kernel
theorem dX9_listSteps_20 : decode cX9_listSteps 20 = .ok (.invokespecial 157, 3) := by decide +kernel
theorem dX9_listSteps_23 : decode cX9_listSteps 23 = .ok (.athrow, 1) := by decide +kernel
theorem dX9_listSteps_24 : decode cX9_listSteps 24 = .ok (.return_, 1) := by decide +kernel
set_option maxRecDepth 20000 in
theorem ggX9_checkStep_X7_used : GoodIn wsX9_checkStep wsX7_used := goodIn_r _ [8, 9, 26, 27, 28, 29, 30, 31, 32, 33, 34, 35, 36, 37, 38, 39, 40, 41, 42, 43, 44, 45] rfl (by decide +kernel)
set_option maxRecDepth 20000 in
theorem gX9_checkStep_X7_used : GoodIn wsX9_checkStep (wsV RX9 343 RX7 yX7_used wsX7_used) := goodIn_app (goodIn_of _ (by decide +kernel)) ggX9_checkStep_X7_used
theorem dX9_checkStep_0 : decode cX9_checkStep 0 = .ok (.iload_n 1, 1) := by decide +kernel
theorem dX9_checkStep_1 : decode cX9_checkStep 1 = .ok (.ifCond .lt 14, 3) := by decide +kernel
theorem dX9_checkStep_4 : decode cX9_checkStep 4 = .ok (.iload_n 1, 1) := by decide +kernel
theorem dX9_checkStep_5 : decode cX9_checkStep 5 = .ok (.aload_n 0, 1) := by decide +kernel
theorem dX9_checkStep_6 : decode cX9_checkStep 6 = .ok (.getfield 80, 3) := by decide +kernel
theorem dX9_checkStep_9 : decode cX9_checkStep 9 = .ok (.invokevirtual 343, 3) := by decide +kernel
theorem dX9_checkStep_12 : decode cX9_checkStep 12 = .ok (.if_icmp .lt 14, 3) := by decide +kernel
theorem dX9_checkStep_15 : decode cX9_checkStep 15 = .ok (.new 219, 3) := by decide +kernel
theorem dX9_checkStep_18 : decode cX9_checkStep 18 = .ok (.dup, 1) := by decide +kernel
theorem dX9_checkStep_19 : decode cX9_checkStep 19 = .ok (.ldc_w 366, 3) := by decide +kernel
theorem dX9_checkStep_22 : decode cX9_checkStep 22 = .ok (.invokespecial 223, 3) := by decide +kernel
theorem dX9_checkStep_25 : decode cX9_checkStep 25 = .ok (.athrow, 1) := by decide +kernel
theorem dX9_checkStep_26 : decode cX9_checkStep 26 = .ok (.return_, 1) := by decide +kernel
set_option maxRecDepth 20000 in
theorem ggX9_reach_X9_checkTerm : GoodIn wsX9_reach wsX9_checkTerm := goodIn_ca (goodIn_r _ [12, 13, 14, 7, 444, 445, 446, 447, 448, 449, 450, 451, 452, 453, 454, 455, 456, 457, 458, 459, 464, 465, 466, 467] rfl (by decide +kernel)) (goodIn_sub (fun _ h => List.mem_cons_of_mem _ (List.mem_append_left _ (List.mem_append_right _ h))) (by decide +kernel))
set_option maxRecDepth 20000 in
theorem gX9_reach_X9_checkTerm : GoodIn wsX9_reach (wsV RX9 227 RX9 yX9_checkTerm wsX9_checkTerm) := goodIn_app (goodIn_of _ (by decide +kernel)) ggX9_reach_X9_checkTerm
set_option maxRecDepth 20000 in
theorem ggX9_reach_X9_checkDistance : GoodIn wsX9_reach wsX9_checkDistance := goodIn_ca (goodIn_r _ [18, 19, 20] rfl (by decide +kernel)) (goodIn_sub (fun _ h => List.mem_cons_of_mem _ (List.mem_append_right _ h)) (by decide +kernel))
set_option maxRecDepth 20000 in
theorem gX9_reach_X9_checkDistance : GoodIn wsX9_reach (wsV RX9 368 RX9 yX9_checkDistance wsX9_checkDistance) := goodIn_app (goodIn_of _ (by decide +kernel)) ggX9_reach_X9_checkDistance
set_option maxRecDepth 20000 in
theorem ggX9_reach_X7_prepare : GoodIn wsX9_reach wsX7_prepare := goodIn_r _ [25, 26, 27, 28, 29, 30, 31, 32, 33, 34, 35, 36, 37, 38, 39, 40, 41, 42, 43, 44, 45, 46, 47, 48, 49, 50, 51, 52, 53, 54, 55, 56, 57, 58, 59, 60, 61, 62, 63, 64, 65, 66, 67, 68, 69, 11, 70, 71, 72, 73, 74, 75, 76, 77, 78, 79, 80, 81, 82, 83, 84, 85, 86, 87, 88, 89, 90, 468, 469, 470, 471, 472, 473, 474, 475, 476, 477, 478, 479, 480, 481, 482, 483, 484, 485, 486, 487, 488, 489, 490, 491, 492, 493, 494, 495, 496, 497, 498, 499, 500, 501, 502, 464, 465, 466, 467, 503, 504, 505, 506, 507, 508, 509, 510] rfl (by decide +kernel)
set_option maxRecDepth 20000 in
theorem gX9_reach_X7_prepare : GoodIn wsX9_reach (wsV RX9 336 RX7 yX7_prepare wsX7_prepare) := goodIn_app (goodIn_of _ (by decide +kernel)) ggX9_reach_X7_prepare
set_option maxRecDepth 20000 in
theorem ggX9_reach_X6_begin : GoodIn wsX9_reach wsX6_begin := goodIn_r _ [95, 96, 97, 98, 99, 100, 101, 60, 102, 62, 103, 104, 105, 106, 107, 58, 59, 61, 63, 108, 109, 110, 111, 112, 113, 114, 115, 116, 65, 66, 67, 68, 117, 118, 119, 120, 460, 461, 462, 463, 464, 465, 466, 467] rfl (by decide +kernel)
set_option maxRecDepth 20000 in
theorem gX9_reach_X6_begin : GoodIn wsX9_reach (wsV RX9 371 RX6 yX6_begin wsX6_begin) := goodIn_app (goodIn_of _ (by decide +kernel)) ggX9_reach_X6_begin
set_option maxRecDepth 20000 in
theorem ggX9_reach_X6_grow : GoodIn wsX9_reach wsX6_grow := goodIn_r _ [124, 96, 97, 125, 98, 126, 127, 128, 24, 129, 130, 27, 30, 131, 132, 133, 28, 134, 100, 101, 60, 102, 62, 135, 38, 39, 34, 40, 41, 42, 43, 44, 45, 46, 47, 48, 49, 50, 51, 52, 53, 54, 55, 36, 56, 57, 58, 59, 61, 63, 64, 65, 66, 67, 68, 69, 11, 70, 71, 72, 73, 74, 75, 76, 77, 78, 79, 80, 81, 82, 83, 84, 85, 86, 87, 88, 89, 90, 136, 137, 138, 139, 140, 141, 142, 143, 144, 145, 146, 147, 148, 149, 150, 151, 152, 153, 154, 155, 156, 157, 158, 159, 26, 160, 161, 162, 163, 164, 165, 166, 167, 168, 169, 170, 171, 172, 173, 174, 175, 176, 177, 178, 179, 180, 181, 182, 183, 184, 185, 186, 187, 188, 189, 190, 191, 192, 193, 194, 195, 196, 197, 198, 199, 200, 201, 202, 203, 204, 205, 206, 207, 208, 209, 210, 211, 212, 213, 214, 215, 216, 217, 218, 219, 220, 221, 222, 223, 224, 225, 226, 227, 228, 229, 230, 231, 232, 233, 234, 235, 236, 237, 238, 239, 240, 241, 242, 243, 244, 245, 246, 247, 248, 249, 250, 251, 252, 253, 254, 255, 256, 257, 258, 259, 260, 261, 262, 263, 264, 265, 266, 267, 268, 269, 270, 271, 272, 273, 274, 275, 276, 277, 278, 279, 280, 281, 282, 283, 284, 285, 286, 287, 288, 289, 290, 291, 292, 293, 294, 295, 296, 297, 298, 299, 300, 301, 302, 303, 304, 305, 306, 307, 308, 309, 310, 311, 312, 313, 314, 315, 316, 317, 318, 319, 320, 321, 322, 323, 324, 325, 326, 327, 328, 329, 330, 331, 332, 333, 334, 335, 336, 337, 338, 339, 340, 341, 342, 343, 344, 345, 346, 347, 348, 349, 350, 351, 352, 353, 354, 355, 356, 357, 358, 359, 360, 361, 362, 363, 364, 365, 366, 367, 368, 369, 370, 371, 372, 373, 374, 375, 376, 377, 378, 379, 29, 380, 381, 382, 383, 384, 385, 386, 387, 388, 389, 390, 391, 392, 393, 394, 395, 396, 397, 398, 399, 400, 401, 402, 403, 404, 405, 406, 407, 408, 113, 114, 115, 409, 118, 119, 120, 410, 411, 412, 413, 107, 116, 414, 415, 416, 417, 418, 419, 420, 421, 422, 94, 423, 424, 425, 426, 427, 428, 429, 430, 431, 432, 103, 104, 105, 106, 108, 109, 110, 111, 112, 117, 460, 461, 462, 463, 464, 465, 466, 467, 468, 469, 470, 471, 472, 473, 474, 475, 476, 477, 478, 479, 480, 481, 482, 483, 484, 485, 486, 487, 488, 489, 490, 491, 492, 493, 494, 495, 496, 497, 498, 499, 500, 501, 502, 503, 504, 505, 506, 507, 508, 509, 510, 511, 512, 513, 514, 515, 516, 517, 518, 519, 520, 521, 522, 523, 524, 525, 526, 527, 528, 529, 530] rfl (by decide +kernel)
set_option maxRecDepth 20000 in
theorem gX9_reach_X6_grow : GoodIn wsX9_reach (wsV RX9 373 RX6 yX6_grow wsX6_grow) := goodIn_app (goodIn_of _ (by decide +kernel)) ggX9_reach_X6_grow
set_option maxRecDepth 20000 in
theorem ggX9_reach_X6_howManyNormal : GoodIn wsX9_reach wsX6_howManyNormal := goodIn_r _ [436, 98, 437, 438, 439, 440, 441, 442, 443, 460, 461, 462, 463] rfl (by decide +kernel)
set_option maxRecDepth 20000 in
theorem gX9_reach_X6_howManyNormal : GoodIn wsX9_reach (wsV RX9 379 RX6 yX6_howManyNormal wsX6_howManyNormal) := goodIn_app (goodIn_of _ (by decide +kernel)) ggX9_reach_X6_howManyNormal
theorem dX9_reach_0 : decode cX9_reach 0 = .ok (.aload_n 0, 1) := by decide +kernel
theorem dX9_reach_1 : decode cX9_reach 1 = .ok (.iload_n 1, 1) := by decide +kernel
theorem dX9_reach_2 : decode cX9_reach 2 = .ok (.invokevirtual 227, 3) := by decide +kernel
theorem dX9_reach_5 : decode cX9_reach 5 = .ok (.aload_n 0, 1) := by decide +kernel
theorem dX9_reach_6 : decode cX9_reach 6 = .ok (.iload_n 2, 1) := by decide +kernel
theorem dX9_reach_7 : decode cX9_reach 7 = .ok (.invokevirtual 368, 3) := by decide +kernel
theorem dX9_reach_10 : decode cX9_reach 10 = .ok (.aload_n 0, 1) := by decide +kernel
theorem dX9_reach_11 : decode cX9_reach 11 = .ok (.getfield 80, 3) := by decide +kernel
theorem dX9_reach_14 : decode cX9_reach 14 = .ok (.aload_n 0, 1) := by decide +kernel
theorem dX9_reach_15 : decode cX9_reach 15 = .ok (.getfield 53, 3) := by decide +kernel
theorem dX9_reach_18 : decode cX9_reach 18 = .ok (.aload_n 0, 1) := by decide +kernel
theorem dX9_reach_19 : decode cX9_reach 19 = .ok (.getfield 100, 3) := by decide +kernel
theorem dX9_reach_22 : decode cX9_reach 22 = .ok (.invokevirtual 336, 3) := by decide +kernel
theorem dX9_reach_25 : decode cX9_reach 25 = .ok (.aload_n 0, 1) := by decide +kernel
theorem dX9_reach_26 : decode cX9_reach 26 = .ok (.getfield 89, 3) := by decide +kernel
theorem dX9_reach_29 : decode cX9_reach 29 = .ok (.aload_n 0, 1) := by decide +kernel
theorem dX9_reach_30 : decode cX9_reach 30 = .ok (.getfield 49, 3) := by decide +kernel
theorem dX9_reach_33 : decode cX9_reach 33 = .ok (.iload_n 1, 1) := by decide +kernel
theorem dX9_reach_34 : decode cX9_reach 34 = .ok (.invokevirtual 371, 3) := by decide +kernel
theorem dX9_reach_37 : decode cX9_reach 37 = .ok (.aload_n 0, 1) := by decide +kernel
theorem dX9_reach_38 : decode cX9_reach 38 = .ok (.getfield 89, 3) := by decide +kernel
theorem dX9_reach_41 : decode cX9_reach 41 = .ok (.iload_n 2, 1) := by decide +kernel
theorem dX9_reach_42 : decode cX9_reach 42 = .ok (.iload_n 3, 1) := by decide +kernel
theorem dX9_reach_43 : decode cX9_reach 43 = .ok (.invokevirtual 373, 3) := by decide +kernel
theorem dX9_reach_46 : decode cX9_reach 46 = .ok (.ifCond .ne 14, 3) := by decide +kernel
theorem dX9_reach_49 : decode cX9_reach 49 = .ok (.new 153, 3) := by decide +kernel
theorem dX9_reach_52 : decode cX9_reach 52 = .ok (.dup, 1) := by decide +kernel
theorem dX9_reach_53 : decode cX9_reach 53 = .ok (.ldc_w 377, 3) := by decide +kernel
theorem dX9_reach_56 : decode cX9_reach 56 = .ok (.invokespecial 157, 3) := by decide +kernel
theorem dX9_reach_59 : decode cX9_reach 59 = .ok (.athrow, 1) := by decide +kernel
theorem dX9_reach_60 : decode cX9_reach 60 = .ok (.iload_n 3, 1) := by decide +kernel
theorem dX9_reach_61 : decode cX9_reach 61 = .ok (.ifCond .eq 13, 3) := by decide +kernel
theorem dX9_reach_64 : decode cX9_reach 64 = .ok (.aload_n 0, 1) := by decide +kernel
theorem dX9_reach_65 : decode cX9_reach 65 = .ok (.getfield 89, 3) := by decide +kernel
theorem dX9_reach_68 : decode cX9_reach 68 = .ok (.invokevirtual 379, 3) := by decide +kernel
theorem dX9_reach_71 : decode cX9_reach 71 = .ok (.goto 13, 3) := by decide +kernel
theorem dX9_reach_74 : decode cX9_reach 74 = .ok (.aload_n 0, 1) := by decide +kernel
theorem dX9_reach_75 : decode cX9_reach 75 = .ok (.getfield 89, 3) := by decide +kernel
theorem dX9_reach_78 : decode cX9_reach 78 = .ok (.getfield 382, 3) := by decide +kernel
theorem dX9_reach_81 : decode cX9_reach 81 = .ok (.getfield 192, 3) := by decide +kernel
theorem dX9_reach_84 : decode cX9_reach 84 = .ok (.ireturn, 1) := by decide +kernel
set_option maxRecDepth 20000 in
theorem ggX9_reached_X9_checkTerm : GoodIn wsX9_reached wsX9_checkTerm := goodIn_ca (goodIn_r _ [16, 17, 18, 9, 481, 482, 483, 484, 485, 486, 487, 488, 489, 490, 491, 492, 493, 494, 495, 496, 501, 502, 503, 504] rfl (by decide +kernel)) (goodIn_sub (fun _ h => List.mem_cons_of_mem _ (List.mem_append_left _ (List.mem_append_right _ h))) (by decide +kernel))
set_option maxRecDepth 20000 in
theorem gX9_reached_X9_checkTerm : GoodIn wsX9_reached (wsV RX9 227 RX9 yX9_checkTerm wsX9_checkTerm) := goodIn_app (goodIn_of _ (by decide +kernel)) ggX9_reached_X9_checkTerm
set_option maxRecDepth 20000 in
theorem ggX9_reached_X9_checkDistance : GoodIn wsX9_reached wsX9_checkDistance := goodIn_ca (goodIn_r _ [22, 23, 24] rfl (by decide +kernel)) (goodIn_sub (fun _ h => List.mem_cons_of_mem _ (List.mem_append_right _ h)) (by decide +kernel))
set_option maxRecDepth 20000 in
theorem gX9_reached_X9_checkDistance : GoodIn wsX9_reached (wsV RX9 368 RX9 yX9_checkDistance wsX9_checkDistance) := goodIn_app (goodIn_of _ (by decide +kernel)) ggX9_reached_X9_checkDistance
set_option maxRecDepth 20000 in
theorem ggX9_reached_X7_prepare : GoodIn wsX9_reached wsX7_prepare := goodIn_r _ [29, 30, 31, 32, 33, 34, 35, 36, 37, 38, 39, 40, 41, 42, 43, 44, 45, 46, 47, 48, 49, 50, 51, 52, 53, 54, 55, 56, 57, 58, 59, 60, 61, 62, 63, 64, 65, 66, 67, 68, 69, 70, 71, 72, 73, 15, 74, 75, 76, 77, 78, 79, 80, 81, 82, 83, 84, 85, 86, 87, 88, 89, 90, 91, 92, 93, 94, 505, 506, 507, 508, 509, 510, 511, 512, 513, 514, 515, 516, 517, 518, 519, 520, 521, 522, 523, 524, 525, 526, 527, 528, 529, 530, 531, 532, 533, 534, 535, 536, 537, 538, 539, 501, 502, 503, 504, 540, 541, 542, 543, 544, 545, 546, 547] rfl (by decide +kernel)
set_option maxRecDepth 20000 in
theorem gX9_reached_X7_prepare : GoodIn wsX9_reached (wsV RX9 336 RX7 yX7_prepare wsX7_prepare) := goodIn_app (goodIn_of _ (by decide +kernel)) ggX9_reached_X7_prepare
set_option maxRecDepth 20000 in
theorem ggX9_reached_X6_begin : GoodIn wsX9_reached wsX6_begin := goodIn_r _ [99, 100, 101, 102, 103, 104, 105, 64, 106, 66, 107, 108, 109, 110, 111, 62, 63, 65, 67, 112, 113, 114, 115, 116, 117, 118, 119, 120, 69, 70, 71, 72, 121, 122, 123, 124, 497, 498, 499, 500, 501, 502, 503, 504] rfl (by decide +kernel)
set_option maxRecDepth 20000 in
theorem gX9_reached_X6_begin : GoodIn wsX9_reached (wsV RX9 371 RX6 yX6_begin wsX6_begin) := goodIn_app (goodIn_of _ (by decide +kernel)) ggX9_reached_X6_begin
set_option maxRecDepth 20000 in
theorem ggX9_reached_X6_grow : GoodIn wsX9_reached wsX6_grow := goodIn_r _ [128, 100, 101, 129, 102, 130, 131, 132, 28, 133, 134, 31, 34, 135, 136, 137, 32, 138, 104, 105, 64, 106, 66, 139, 42, 43, 38, 44, 45, 46, 47, 48, 49, 50, 51, 52, 53, 54, 55, 56, 57, 58, 59, 40, 60, 61, 62, 63, 65, 67, 68, 69, 70, 71, 72, 73, 15, 74, 75, 76, 77, 78, 79, 80, 81, 82, 83, 84, 85, 86, 87, 88, 89, 90, 91, 92, 93, 94, 140, 141, 142, 143, 144, 145, 146, 147, 148, 149, 150, 151, 152, 153, 154, 155, 156, 157, 158, 159, 160, 161, 162, 163, 30, 164, 165, 166, 167, 168, 169, 170, 171, 172, 173, 174, 175, 176, 177, 178, 179, 180, 181, 182, 183, 184, 185, 186, 187, 188, 189, 190, 191, 192, 193, 194, 195, 196, 197, 198, 199, 200, 201, 202, 203, 204, 205, 206, 207, 208, 209, 210, 211, 212, 213, 214, 215, 216, 217, 218, 219, 220, 221, 222, 223, 224, 225, 226, 227, 228, 229, 230, 231, 232, 233, 234, 235, 236, 237, 238, 239, 240, 241, 242, 243, 244, 245, 246, 247, 248, 249, 250, 251, 252, 253, 254, 255, 256, 257, 258, 259, 260, 261, 262, 263, 264, 265, 266, 267, 268, 269, 270, 271, 272, 273, 274, 275, 276, 277, 278, 279, 280, 281, 282, 283, 284, 285, 286, 287, 288, 289, 290, 291, 292, 293, 294, 295, 296, 297, 298, 299, 300, 301, 302, 303, 304, 305, 306, 307, 308, 309, 310, 311, 312, 313, 314, 315, 316, 317, 318, 319, 320, 321, 322, 323, 324, 325, 326, 327, 328, 329, 330, 331, 332, 333, 334, 335, 336, 337, 338, 339, 340, 341, 342, 343, 344, 345, 346, 347, 348, 349, 350, 351, 352, 353, 354, 355, 356, 357, 358, 359, 360, 361, 362, 363, 364, 365, 366, 367, 368, 369, 370, 371, 372, 373, 374, 375, 376, 377, 378, 379, 380, 381, 382, 383, 33, 384, 385, 386, 387, 388, 389, 390, 391, 392, 393, 394, 395, 396, 397, 398, 399, 400, 401, 402, 403, 404, 405, 406, 407, 408, 409, 410, 411, 412, 117, 118, 119, 413, 122, 123, 124, 414, 415, 416, 417, 111, 120, 418, 419, 420, 421, 422, 423, 424, 425, 426, 98, 427, 428, 429, 430, 431, 432, 433, 434, 435, 436, 107, 108, 109, 110, 112, 113, 114, 115, 116, 121, 497, 498, 499, 500, 501, 502, 503, 504, 505, 506, 507, 508, 509, 510, 511, 512, 513, 514, 515, 516, 517, 518, 519, 520, 521, 522, 523, 524, 525, 526, 527, 528, 529, 530, 531, 532, 533, 534, 535, 536, 537, 538, 539, 540, 541, 542, 543, 544, 545, 546, 547, 548, 549, 550, 551, 552, 553, 554, 555, 556, 557, 558, 559, 560, 561, 562, 563, 564, 565, 566, 567] rfl (by decide +kernel)
set_option maxRecDepth 20000 in
theorem gX9_reached_X6_grow : GoodIn wsX9_reached (wsV RX9 373 RX6 yX6_grow wsX6_grow) := goodIn_app (goodIn_of _ (by decide +kernel)) ggX9_reached_X6_grow
set_option maxRecDepth 20000 in
theorem ggX9_reached_X2_nth : GoodIn wsX9_reached wsX2_nth := goodIn_r _ [440, 66, 441, 442, 443, 64, 444, 436, 415, 416, 417, 111, 62, 63, 65, 67, 120, 69, 70, 71, 72, 418, 291, 192, 292, 501, 502, 503, 504] rfl (by decide +kernel)
set_option maxRecDepth 20000 in
theorem gX9_reached_X2_nth : GoodIn wsX9_reached (wsV RX9 268 RX2 yX2_nth wsX2_nth) := goodIn_app (goodIn_of _ (by decide +kernel)) ggX9_reached_X2_nth
set_option maxRecDepth 20000 in
theorem ggX9_reached_X4_take : GoodIn wsX9_reached wsX4_take := goodIn_r _ [449, 450, 451, 452, 104, 105, 64, 106, 66, 453, 108, 109, 110, 111, 62, 63, 65, 67, 112, 113, 114, 115, 116, 117, 118, 119, 120, 69, 70, 71, 72, 121, 122, 123, 124, 454, 455, 456, 448, 457, 458, 459, 460, 461, 462, 463, 464, 174, 465, 466, 467, 169, 15, 170, 468, 469, 470, 471, 472, 473, 474, 475, 476, 73, 74, 477, 478, 479, 480, 568, 569, 570, 571, 572, 501, 502, 503, 504, 540, 541, 542, 543, 544, 545, 546, 547] rfl (by decide +kernel)
set_option maxRecDepth 20000 in
theorem gX9_reached_X4_take : GoodIn wsX9_reached (wsV RX9 272 RX4 yX4_take wsX4_take) := goodIn_app (goodIn_of _ (by decide +kernel)) ggX9_reached_X4_take
theorem dX9_reached_0 : decode cX9_reached 0 = .ok (.aload_n 0, 1) := by decide +kernel
theorem dX9_reached_1 : decode cX9_reached 1 = .ok (.iload_n 1, 1) := by decide +kernel
theorem dX9_reached_2 : decode cX9_reached 2 = .ok (.invokevirtual 227, 3) := by decide +kernel
theorem dX9_reached_5 : decode cX9_reached 5 = .ok (.aload_n 0, 1) := by decide +kernel
theorem dX9_reached_6 : decode cX9_reached 6 = .ok (.iload_n 2, 1) := by decide +kernel
theorem dX9_reached_7 : decode cX9_reached 7 = .ok (.invokevirtual 368, 3) := by decide +kernel
theorem dX9_reached_10 : decode cX9_reached 10 = .ok (.aload_n 0, 1) := by decide +kernel
theorem dX9_reached_11 : decode cX9_reached 11 = .ok (.getfield 80, 3) := by decide +kernel
theorem dX9_reached_14 : decode cX9_reached 14 = .ok (.aload_n 0, 1) := by decide +kernel
theorem dX9_reached_15 : decode cX9_reached 15 = .ok (.getfield 53, 3) := by decide +kernel
theorem dX9_reached_18 : decode cX9_reached 18 = .ok (.aload_n 0, 1) := by decide +kernel
theorem dX9_reached_19 : decode cX9_reached 19 = .ok (.getfield 100, 3) := by decide +kernel
theorem dX9_reached_22 : decode cX9_reached 22 = .ok (.invokevirtual 336, 3) := by decide +kernel
theorem dX9_reached_25 : decode cX9_reached 25 = .ok (.aload_n 0, 1) := by decide +kernel
theorem dX9_reached_26 : decode cX9_reached 26 = .ok (.getfield 89, 3) := by decide +kernel
theorem dX9_reached_29 : decode cX9_reached 29 = .ok (.aload_n 0, 1) := by decide +kernel
theorem dX9_reached_30 : decode cX9_reached 30 = .ok (.getfield 49, 3) := by decide +kernel
theorem dX9_reached_33 : decode cX9_reached 33 = .ok (.iload_n 1, 1) := by decide +kernel
theorem dX9_reached_34 : decode cX9_reached 34 = .ok (.invokevirtual 371, 3) := by decide +kernel
theorem dX9_reached_37 : decode cX9_reached 37 = .ok (.aload_n 0, 1) := by decide +kernel
theorem dX9_reached_38 : decode cX9_reached 38 = .ok (.getfield 89, 3) := by decide +kernel
theorem dX9_reached_41 : decode cX9_reached 41 = .ok (.iload_n 2, 1) := by decide +kernel
theorem dX9_reached_42 : decode cX9_reached 42 = .ok (.iload_n 3, 1) := by decide +kernel
theorem dX9_reached_43 : decode cX9_reached 43 = .ok (.invokevirtual 373, 3) := by decide +kernel
theorem dX9_reached_46 : decode cX9_reached 46 = .ok (.ifCond .ne 14, 3) := by decide +kernel
theorem dX9_reached_49 : decode cX9_reached 49 = .ok (.new 153, 3) := by decide +kernel
theorem dX9_reached_52 : decode cX9_reached 52 = .ok (.dup, 1) := by decide +kernel
theorem dX9_reached_53 : decode cX9_reached 53 = .ok (.ldc_w 377, 3) := by decide +kernel
theorem dX9_reached_56 : decode cX9_reached 56 = .ok (.invokespecial 157, 3) := by decide +kernel
theorem dX9_reached_59 : decode cX9_reached 59 = .ok (.athrow, 1) := by decide +kernel
theorem dX9_reached_60 : decode cX9_reached 60 = .ok (.aload_n 0, 1) := by decide +kernel
theorem dX9_reached_61 : decode cX9_reached 61 = .ok (.getfield 89, 3) := by decide +kernel
theorem dX9_reached_64 : decode cX9_reached 64 = .ok (.getfield 382, 3) := by decide +kernel
theorem dX9_reached_67 : decode cX9_reached 67 = .ok (.iload 4, 2) := by decide +kernel
theorem dX9_reached_69 : decode cX9_reached 69 = .ok (.iload_n 3, 1) := by decide +kernel
theorem dX9_reached_70 : decode cX9_reached 70 = .ok (.ifCond .eq 13, 3) := by decide +kernel
theorem dX9_reached_73 : decode cX9_reached 73 = .ok (.aload_n 0, 1) := by decide +kernel
theorem dX9_reached_74 : decode cX9_reached 74 = .ok (.getfield 89, 3) := by decide +kernel
theorem dX9_reached_77 : decode cX9_reached 77 = .ok (.getfield 385, 3) := by decide +kernel
theorem dX9_reached_80 : decode cX9_reached 80 = .ok (.goto 6, 3) := by decide +kernel
theorem dX9_reached_83 : decode cX9_reached 83 = .ok (.ldc2_w 266, 3) := by decide +kernel
theorem dX9_reached_86 : decode cX9_reached 86 = .ok (.invokevirtual 268, 3) := by decide +kernel
theorem dX9_reached_89 : decode cX9_reached 89 = .ok (.istore 5, 2) := by decide +kernel
theorem dX9_reached_91 : decode cX9_reached 91 = .ok (.iload 5, 2) := by decide +kernel
theorem dX9_reached_93 : decode cX9_reached 93 = .ok (.ifCond .ge 14, 3) := by decide +kernel
theorem dX9_reached_96 : decode cX9_reached 96 = .ok (.new 219, 3) := by decide +kernel
theorem dX9_reached_99 : decode cX9_reached 99 = .ok (.dup, 1) := by decide +kernel
theorem dX9_reached_100 : decode cX9_reached 100 = .ok (.ldc_w 389, 3) := by decide +kernel
theorem dX9_reached_103 : decode cX9_reached 103 = .ok (.invokespecial 223, 3) := by decide +kernel
theorem dX9_reached_106 : decode cX9_reached 106 = .ok (.athrow, 1) := by decide +kernel
theorem dX9_reached_107 : decode cX9_reached 107 = .ok (.aload_n 0, 1) := by decide +kernel
theorem dX9_reached_108 : decode cX9_reached 108 = .ok (.getfield 62, 3) := by decide +kernel
theorem dX9_reached_111 : decode cX9_reached 111 = .ok (.aload_n 0, 1) := by decide +kernel
theorem dX9_reached_112 : decode cX9_reached 112 = .ok (.getfield 89, 3) := by decide +kernel
theorem dX9_reached_115 : decode cX9_reached 115 = .ok (.getfield 382, 3) := by decide +kernel
theorem dX9_reached_118 : decode cX9_reached 118 = .ok (.iload 5, 2) := by decide +kernel
theorem dX9_reached_120 : decode cX9_reached 120 = .ok (.invokevirtual 272, 3) := by decide +kernel
theorem dX9_reached_123 : decode cX9_reached 123 = .ok (.ireturn, 1) := by decide +kernel
set_option maxRecDepth 20000 in
theorem ggX9_meet_X9_checkTerm : GoodIn wsX9_meet wsX9_checkTerm := goodIn_ca (goodIn_r _ [13, 14, 15, 7, 438, 439, 440, 441, 442, 443, 444, 445, 446, 447, 448, 449, 450, 451, 452, 453, 454, 455, 456, 457] rfl (by decide +kernel)) (goodIn_sub (fun _ h => List.mem_cons_of_mem _ (List.mem_append_left _ (List.mem_append_right _ h))) (by decide +kernel))
set_option maxRecDepth 20000 in
theorem gX9_meet_X9_checkTerm : GoodIn wsX9_meet (wsV RX9 227 RX9 yX9_checkTerm wsX9_checkTerm) := goodIn_app (goodIn_of _ (by decide +kernel)) ggX9_meet_X9_checkTerm
set_option maxRecDepth 20000 in
theorem ggX9_meet_X9_checkDistance : GoodIn wsX9_meet wsX9_checkDistance := goodIn_ca (goodIn_r _ [19, 20, 21] rfl (by decide +kernel)) (goodIn_sub (fun _ h => List.mem_cons_of_mem _ (List.mem_append_right _ h)) (by decide +kernel))
set_option maxRecDepth 20000 in
theorem gX9_meet_X9_checkDistance : GoodIn wsX9_meet (wsV RX9 368 RX9 yX9_checkDistance wsX9_checkDistance) := goodIn_app (goodIn_of _ (by decide +kernel)) ggX9_meet_X9_checkDistance
set_option maxRecDepth 20000 in
theorem ggX9_meet_X7_prepare : GoodIn wsX9_meet wsX7_prepare := goodIn_r _ [26, 27, 28, 29, 30, 31, 32, 33, 34, 35, 36, 37, 38, 39, 40, 41, 42, 43, 44, 45, 46, 47, 48, 49, 50, 51, 52, 53, 54, 55, 56, 57, 58, 59, 60, 61, 62, 63, 64, 65, 66, 67, 68, 69, 70, 12, 71, 72, 73, 74, 75, 76, 77, 78, 79, 80, 81, 82, 83, 84, 85, 86, 87, 88, 89, 90, 91, 458, 459, 460, 461, 462, 463, 464, 465, 466, 467, 468, 469, 470, 471, 472, 473, 474, 475, 476, 477, 478, 479, 480, 481, 482, 483, 484, 485, 486, 487, 488, 489, 490, 491, 492, 454, 455, 456, 457, 493, 494, 495, 496, 497, 498, 499, 500] rfl (by decide +kernel)
set_option maxRecDepth 20000 in
theorem gX9_meet_X7_prepare : GoodIn wsX9_meet (wsV RX9 336 RX7 yX7_prepare wsX7_prepare) := goodIn_app (goodIn_of _ (by decide +kernel)) ggX9_meet_X7_prepare
set_option maxRecDepth 20000 in
theorem ggX9_meet_X6_begin : GoodIn wsX9_meet wsX6_begin := goodIn_r _ [96, 97, 98, 99, 100, 101, 102, 61, 103, 63, 104, 105, 106, 107, 108, 59, 60, 62, 64, 109, 110, 111, 112, 113, 114, 115, 116, 117, 66, 67, 68, 69, 118, 119, 120, 121, 501, 502, 503, 504, 454, 455, 456, 457] rfl (by decide +kernel)
set_option maxRecDepth 20000 in
theorem gX9_meet_X6_begin : GoodIn wsX9_meet (wsV RX9 371 RX6 yX6_begin wsX6_begin) := goodIn_app (goodIn_of _ (by decide +kernel)) ggX9_meet_X6_begin
set_option maxRecDepth 20000 in
theorem ggX9_meet_X6_grow : GoodIn wsX9_meet wsX6_grow := goodIn_r _ [125, 97, 98, 126, 99, 127, 128, 129, 25, 130, 131, 28, 31, 132, 133, 134, 29, 135, 101, 102, 61, 103, 63, 136, 39, 40, 35, 41, 42, 43, 44, 45, 46, 47, 48, 49, 50, 51, 52, 53, 54, 55, 56, 37, 57, 58, 59, 60, 62, 64, 65, 66, 67, 68, 69, 70, 12, 71, 72, 73, 74, 75, 76, 77, 78, 79, 80, 81, 82, 83, 84, 85, 86, 87, 88, 89, 90, 91, 137, 138, 139, 140, 141, 142, 143, 144, 145, 146, 147, 148, 149, 150, 151, 152, 153, 154, 155, 156, 157, 158, 159, 160, 27, 161, 162, 163, 164, 165, 166, 167, 168, 169, 170, 171, 172, 173, 174, 175, 176, 177, 178, 179, 180, 181, 182, 183, 184, 185, 186, 187, 188, 189, 190, 191, 192, 193, 194, 195, 196, 197, 198, 199, 200, 201, 202, 203, 204, 205, 206, 207, 208, 209, 210, 211, 212, 213, 214, 215, 216, 217, 218, 219, 220, 221, 222, 223, 224, 225, 226, 227, 228, 229, 230, 231, 232, 233, 234, 235, 236, 237, 238, 239, 240, 241, 242, 243, 244, 245, 246, 247, 248, 249, 250, 251, 252, 253, 254, 255, 256, 257, 258, 259, 260, 261, 262, 263, 264, 265, 266, 267, 268, 269, 270, 271, 272, 273, 274, 275, 276, 277, 278, 279, 280, 281, 282, 283, 284, 285, 286, 287, 288, 289, 290, 291, 292, 293, 294, 295, 296, 297, 298, 299, 300, 301, 302, 303, 304, 305, 306, 307, 308, 309, 310, 311, 312, 313, 314, 315, 316, 317, 318, 319, 320, 321, 322, 323, 324, 325, 326, 327, 328, 329, 330, 331, 332, 333, 334, 335, 336, 337, 338, 339, 340, 341, 342, 343, 344, 345, 346, 347, 348, 349, 350, 351, 352, 353, 354, 355, 356, 357, 358, 359, 360, 361, 362, 363, 364, 365, 366, 367, 368, 369, 370, 371, 372, 373, 374, 375, 376, 377, 378, 379, 380, 30, 381, 382, 383, 384, 385, 386, 387, 388, 389, 390, 391, 392, 393, 394, 395, 396, 397, 398, 399, 400, 401, 402, 403, 404, 405, 406, 407, 408, 409, 114, 115, 116, 410, 119, 120, 121, 411, 412, 413, 414, 108, 117, 415, 416, 417, 418, 419, 420, 421, 422, 423, 95, 424, 425, 426, 427, 428, 429, 430, 431, 432, 433, 104, 105, 106, 107, 109, 110, 111, 112, 113, 118, 501, 502, 503, 504, 454, 455, 456, 457, 458, 459, 460, 461, 462, 463, 464, 465, 466, 467, 468, 469, 470, 471, 472, 473, 474, 475, 476, 477, 478, 479, 480, 481, 482, 483, 484, 485, 486, 487, 488, 489, 490, 491, 492, 493, 494, 495, 496, 497, 498, 499, 500, 505, 506, 507, 508, 509, 510, 511, 512, 513, 514, 515, 516, 517, 518, 519, 520, 521, 522, 523, 524] rfl (by decide +kernel)
set_option maxRecDepth 20000 in
theorem gX9_meet_X6_grow : GoodIn wsX9_meet (wsV RX9 373 RX6 yX6_grow wsX6_grow) := goodIn_app (goodIn_of _ (by decide +kernel)) ggX9_meet_X6_grow
set_option maxRecDepth 20000 in
theorem ggX9_meet_X6_meets : GoodIn wsX9_meet wsX6_meets := goodIn_r _ [437, 97, 429, 430, 431, 61, 432, 63, 433, 412, 413, 414, 108, 59, 60, 62, 64, 117, 66, 67, 68, 69, 415, 288, 189, 289, 501, 502, 503, 504, 454, 455, 456, 457] rfl (by decide +kernel)
set_option maxRecDepth 20000 in
theorem gX9_meet_X6_meets : GoodIn wsX9_meet (wsV RX9 391 RX6 yX6_meets wsX6_meets) := goodIn_app (goodIn_of _ (by decide +kernel)) ggX9_meet_X6_meets
theorem dX9_meet_0 : decode cX9_meet 0 = .ok (.aload_n 0, 1) := by decide +kernel
theorem dX9_meet_1 : decode cX9_meet 1 = .ok (.iload_n 1, 1) := by decide +kernel
theorem dX9_meet_2 : decode cX9_meet 2 = .ok (.invokevirtual 227, 3) := by decide +kernel
theorem dX9_meet_5 : decode cX9_meet 5 = .ok (.aload_n 0, 1) := by decide +kernel
theorem dX9_meet_6 : decode cX9_meet 6 = .ok (.iload_n 2, 1) := by decide +kernel
theorem dX9_meet_7 : decode cX9_meet 7 = .ok (.invokevirtual 227, 3) := by decide +kernel
theorem dX9_meet_10 : decode cX9_meet 10 = .ok (.aload_n 0, 1) := by decide +kernel
theorem dX9_meet_11 : decode cX9_meet 11 = .ok (.iload_n 3, 1) := by decide +kernel
theorem dX9_meet_12 : decode cX9_meet 12 = .ok (.invokevirtual 368, 3) := by decide +kernel
theorem dX9_meet_15 : decode cX9_meet 15 = .ok (.aload_n 0, 1) := by decide +kernel
theorem dX9_meet_16 : decode cX9_meet 16 = .ok (.getfield 80, 3) := by decide +kernel
theorem dX9_meet_19 : decode cX9_meet 19 = .ok (.aload_n 0, 1) := by decide +kernel
theorem dX9_meet_20 : decode cX9_meet 20 = .ok (.getfield 53, 3) := by decide +kernel
theorem dX9_meet_23 : decode cX9_meet 23 = .ok (.aload_n 0, 1) := by decide +kernel
theorem dX9_meet_24 : decode cX9_meet 24 = .ok (.getfield 100, 3) := by decide +kernel
theorem dX9_meet_27 : decode cX9_meet 27 = .ok (.invokevirtual 336, 3) := by decide +kernel
theorem dX9_meet_30 : decode cX9_meet 30 = .ok (.aload_n 0, 1) := by decide +kernel
theorem dX9_meet_31 : decode cX9_meet 31 = .ok (.getfield 89, 3) := by decide +kernel
theorem dX9_meet_34 : decode cX9_meet 34 = .ok (.aload_n 0, 1) := by decide +kernel
theorem dX9_meet_35 : decode cX9_meet 35 = .ok (.getfield 49, 3) := by decide +kernel
theorem dX9_meet_38 : decode cX9_meet 38 = .ok (.iload_n 1, 1) := by decide +kernel
theorem dX9_meet_39 : decode cX9_meet 39 = .ok (.invokevirtual 371, 3) := by decide +kernel
theorem dX9_meet_42 : decode cX9_meet 42 = .ok (.aload_n 0, 1) := by decide +kernel
theorem dX9_meet_43 : decode cX9_meet 43 = .ok (.getfield 93, 3) := by decide +kernel
theorem dX9_meet_46 : decode cX9_meet 46 = .ok (.aload_n 0, 1) := by decide +kernel
theorem dX9_meet_47 : decode cX9_meet 47 = .ok (.getfield 49, 3) := by decide +kernel
theorem dX9_meet_50 : decode cX9_meet 50 = .ok (.iload_n 2, 1) := by decide +kernel
theorem dX9_meet_51 : decode cX9_meet 51 = .ok (.invokevirtual 371, 3) := by decide +kernel
theorem dX9_meet_54 : decode cX9_meet 54 = .ok (.iconst 0, 1) := by decide +kernel
theorem dX9_meet_55 : decode cX9_meet 55 = .ok (.istore 4, 2) := by decide +kernel
theorem dX9_meet_57 : decode cX9_meet 57 = .ok (.iload 4, 2) := by decide +kernel
theorem dX9_meet_59 : decode cX9_meet 59 = .ok (.iload_n 3, 1) := by decide +kernel
theorem dX9_meet_60 : decode cX9_meet 60 = .ok (.if_icmp .gt 66, 3) := by decide +kernel
theorem dX9_meet_63 : decode cX9_meet 63 = .ok (.iload 4, 2) := by decide +kernel
theorem dX9_meet_65 : decode cX9_meet 65 = .ok (.ifCond .le 38, 3) := by decide +kernel
theorem dX9_meet_68 : decode cX9_meet 68 = .ok (.aload_n 0, 1) := by decide +kernel
theorem dX9_meet_69 : decode cX9_meet 69 = .ok (.getfield 89, 3) := by decide +kernel
theorem dX9_meet_72 : decode cX9_meet 72 = .ok (.iconst 1, 1) := by decide +kernel
theorem dX9_meet_73 : decode cX9_meet 73 = .ok (.iconst 0, 1) := by decide +kernel
theorem dX9_meet_74 : decode cX9_meet 74 = .ok (.invokevirtual 373, 3) := by decide +kernel
theorem dX9_meet_77 : decode cX9_meet 77 = .ok (.ifCond .eq 15, 3) := by decide +kernel
theorem dX9_meet_80 : decode cX9_meet 80 = .ok (.aload_n 0, 1) := by decide +kernel
theorem dX9_meet_81 : decode cX9_meet 81 = .ok (.getfield 93, 3) := by decide +kernel
theorem dX9_meet_84 : decode cX9_meet 84 = .ok (.iconst 1, 1) := by decide +kernel
theorem dX9_meet_85 : decode cX9_meet 85 = .ok (.iconst 0, 1) := by decide +kernel
theorem dX9_meet_86 : decode cX9_meet 86 = .ok (.invokevirtual 373, 3) := by decide +kernel
theorem dX9_meet_89 : decode cX9_meet 89 = .ok (.ifCond .ne 14, 3) := by decide +kernel
theorem dX9_meet_92 : decode cX9_meet 92 = .ok (.new 153, 3) := by decide +kernel
theorem dX9_meet_95 : decode cX9_meet 95 = .ok (.dup, 1) := by decide +kernel
theorem dX9_meet_96 : decode cX9_meet 96 = .ok (.ldc_w 377, 3) := by decide +kernel
theorem dX9_meet_99 : decode cX9_meet 99 = .ok (.invokespecial 157, 3) := by decide +kernel
theorem dX9_meet_102 : decode cX9_meet 102 = .ok (.athrow, 1) := by decide +kernel
theorem dX9_meet_103 : decode cX9_meet 103 = .ok (.aload_n 0, 1) := by decide +kernel
theorem dX9_meet_104 : decode cX9_meet 104 = .ok (.getfield 89, 3) := by decide +kernel
theorem dX9_meet_107 : decode cX9_meet 107 = .ok (.aload_n 0, 1) := by decide +kernel
theorem dX9_meet_108 : decode cX9_meet 108 = .ok (.getfield 93, 3) := by decide +kernel
theorem dX9_meet_111 : decode cX9_meet 111 = .ok (.invokevirtual 391, 3) := by decide +kernel
theorem dX9_meet_114 : decode cX9_meet 114 = .ok (.ifCond .eq 6, 3) := by decide +kernel
theorem dX9_meet_117 : decode cX9_meet 117 = .ok (.iload 4, 2) := by decide +kernel
theorem dX9_meet_119 : decode cX9_meet 119 = .ok (.ireturn, 1) := by decide +kernel
theorem dX9_meet_120 : decode cX9_meet 120 = .ok (.iinc 4 1, 3) := by decide +kernel
theorem dX9_meet_123 : decode cX9_meet 123 = .ok (.goto (-66), 3) := by decide +kernel
theorem dX9_meet_126 : decode cX9_meet 126 = .ok (.iconst (-1), 1) := by decide +kernel
theorem dX9_meet_127 : decode cX9_meet 127 = .ok (.ireturn, 1) := by decide +kernel
set_option maxRecDepth 20000 in
theorem ggX9_count_X9_rules : GoodIn wsX9_count wsX9_rules := goodIn_r _ [9, 10, 410, 411, 412, 413, 414, 415, 416, 417, 418, 419, 420, 421, 422, 423, 424, 425, 434, 435, 436, 437] rfl (by decide +kernel)
set_option maxRecDepth 20000 in
theorem gX9_count_X9_rules : GoodIn wsX9_count (wsV RX9 181 RX9 yX9_rules wsX9_rules) := goodIn_app (goodIn_of _ (by decide +kernel)) ggX9_count_X9_rules
set_option maxRecDepth 20000 in
theorem ggX9_count_X9_normalTerms : GoodIn wsX9_count wsX9_normalTerms := goodIn_r _ [14, 15, 10, 3, 2, 16, 17, 18, 19, 20, 21, 22, 23, 24, 25, 26, 27, 28, 29, 30, 31, 32, 33, 34, 35, 36, 37, 38, 39, 40, 41, 42, 43, 44, 45, 46, 47, 48, 49, 50, 51, 52, 53, 54, 55, 56, 57, 58, 59, 60, 61, 62, 63, 64, 8, 65, 66, 67, 68, 69, 70, 71, 72, 73, 74, 75, 76, 77, 78, 79, 80, 81, 82, 83, 84, 85, 86, 87, 88, 89, 90, 91, 92, 93, 94, 95, 96, 97, 98, 99, 100, 101, 102, 103, 104, 105, 106, 107, 108, 109, 110, 111, 112, 113, 114, 115, 116, 117, 118, 119, 120, 121, 122, 123, 124, 125, 126, 127, 128, 129, 130, 131, 132, 133, 134, 135, 136, 137, 138, 139, 140, 141, 142, 143, 144, 145, 146, 147, 148, 149, 150, 151, 152, 153, 154, 155, 156, 157, 158, 159, 160, 161, 162, 163, 164, 165, 166, 167, 168, 169, 170, 171, 172, 173, 174, 175, 176, 177, 178, 179, 180, 181, 182, 183, 184, 185, 186, 187, 188, 189, 190, 191, 192, 193, 194, 195, 196, 197, 198, 199, 200, 201, 202, 203, 204, 205, 206, 207, 208, 209, 210, 211, 212, 213, 214, 215, 216, 217, 218, 219, 220, 221, 222, 223, 224, 225, 226, 227, 228, 229, 230, 231, 232, 233, 234, 235, 236, 237, 238, 239, 240, 241, 242, 243, 244, 245, 246, 247, 248, 249, 250, 251, 252, 253, 254, 255, 256, 257, 258, 259, 260, 261, 262, 263, 264, 265, 266, 267, 268, 269, 270, 271, 272, 273, 274, 275, 276, 277, 278, 279, 280, 281, 282, 283, 284, 285, 286, 287, 288, 289, 290, 291, 292, 293, 294, 295, 296, 297, 298, 299, 300, 301, 302, 303, 304, 305, 306, 307, 308, 309, 310, 311, 312, 313, 314, 315, 316, 317, 318, 319, 320, 321, 322, 323, 324, 325, 326, 327, 328, 329, 330, 331, 332, 333, 334, 335, 336, 337, 338, 339, 340, 341, 342, 343, 344, 345, 346, 347, 348, 349, 350, 351, 352, 353, 354, 355, 356, 357, 358, 359, 360, 361, 362, 363, 364, 365, 366, 367, 368, 369, 370, 371, 372, 373, 374, 375, 376, 377, 378, 379, 380, 381, 382, 383, 384, 385, 386, 387, 388, 389, 390, 391, 392, 393, 394, 410, 411, 412, 413, 414, 415, 416, 417, 418, 419, 420, 421, 422, 423, 424, 425, 434, 435, 436, 437, 443, 444, 445, 446, 447, 448, 449, 450, 451, 452, 453, 454, 455, 456, 457, 458, 459, 460, 461, 462, 463, 464, 465, 466, 467, 468, 469, 470, 471, 472, 473, 474, 475, 476, 477, 426, 427, 428, 429, 430, 431, 432, 433, 478, 479, 480, 481, 482, 483, 484, 485, 486, 487, 488, 489, 490, 491, 492, 493, 494, 495, 496, 497] rfl (by decide +kernel)
set_option maxRecDepth 20000 in
theorem gX9_count_X9_normalTerms : GoodIn wsX9_count (wsV RX9 401 RX9 yX9_normalTerms wsX9_normalTerms) := goodIn_app (goodIn_of _ (by decide +kernel)) ggX9_count_X9_normalTerms
set_option maxRecDepth 20000 in
theorem ggX9_count_X9_greatestSize : GoodIn wsX9_count wsX9_greatestSize := goodIn_r _ [398, 2, 399, 45, 42, 46, 400, 53, 54, 55, 56, 57, 58, 410, 411, 412, 413, 414, 415, 416, 417, 418, 419, 420, 421, 422, 423, 424, 425, 434, 435, 436, 437] rfl (by decide +kernel)
set_option maxRecDepth 20000 in
theorem gX9_count_X9_greatestSize : GoodIn wsX9_count (wsV RX9 404 RX9 yX9_greatestSize wsX9_greatestSize) := goodIn_app (goodIn_of _ (by decide +kernel)) ggX9_count_X9_greatestSize
set_option maxRecDepth 20000 in
theorem ggX9_count_X9_matchesOfAll : GoodIn wsX9_count wsX9_matchesOfAll := goodIn_r _ [404, 3, 2, 405, 10, 406, 5, 6, 7, 8, 9, 407, 27, 28, 29, 30, 31, 32, 33, 34, 35, 36, 37, 38, 39, 40, 41, 42, 43, 44, 45, 46, 408, 48, 49, 50, 51, 52, 53, 54, 55, 56, 57, 58, 59, 60, 61, 62, 63, 64, 65, 66, 67, 68, 69, 70, 71, 72, 73, 74, 75, 76, 77, 78, 79, 80, 81, 82, 83, 84, 85, 409, 175, 176, 177, 178, 179, 180, 181, 182, 183, 184, 185, 186, 187, 188, 189, 190, 191, 192, 193, 194, 195, 196, 197, 198, 199, 200, 201, 202, 203, 204, 205, 206, 207, 208, 209, 210, 124, 125, 126, 127, 112, 113, 114, 128, 129, 130, 131, 132, 133, 134, 135, 211, 212, 213, 214, 215, 216, 217, 218, 219, 168, 169, 170, 171, 148, 220, 116, 117, 118, 221, 222, 223, 224, 225, 226, 227, 228, 229, 230, 231, 232, 233, 234, 235, 236, 237, 238, 239, 240, 241, 242, 243, 244, 245, 246, 247, 248, 249, 250, 151, 251, 252, 253, 254, 255, 172, 173, 256, 257, 258, 259, 260, 160, 161, 162, 163, 261, 262, 263, 264, 265, 266, 141, 142, 143, 144, 145, 146, 147, 267, 150, 152, 153, 154, 155, 268, 165, 166, 167, 269, 270, 271, 272, 273, 274, 275, 276, 277, 278, 279, 280, 281, 282, 283, 284, 285, 286, 287, 288, 289, 290, 291, 292, 293, 294, 295, 296, 297, 298, 299, 300, 301, 302, 303, 304, 305, 306, 307, 308, 309, 310, 311, 312, 313, 314, 315, 316, 317, 318, 319, 320, 321, 322, 323, 324, 325, 326, 327, 328, 329, 330, 331, 332, 333, 334, 335, 336, 337, 338, 157, 158, 159, 410, 411, 412, 413, 414, 415, 416, 417, 418, 419, 420, 421, 422, 423, 424, 425, 434, 435, 436, 437, 478, 479, 480, 481, 482, 483, 484, 485, 486, 487, 488, 489, 490, 491, 492, 493, 494, 495, 496, 497, 459, 460, 461, 462, 463, 464, 465, 466, 467, 468, 469, 470, 471, 472, 473, 474, 475, 476, 477, 426, 427, 428, 429, 430, 431, 432, 433] rfl (by decide +kernel)
set_option maxRecDepth 20000 in
theorem gX9_count_X9_matchesOfAll : GoodIn wsX9_count (wsV RX9 407 RX9 yX9_matchesOfAll wsX9_matchesOfAll) := goodIn_app (goodIn_of _ (by decide +kernel)) ggX9_count_X9_matchesOfAll
theorem dX9_count_0 : decode cX9_count 0 = .ok (.iload_n 1, 1) := by decide +kernel
theorem dX9_count_1 : decode cX9_count 1 = .ok (.tableswitch 108 0 8 #[51, 59, 67, 75, 80, 85, 93, 98, 103], 51) := by decide +kernel
theorem dX9_count_52 : decode cX9_count 52 = .ok (.aload_n 0, 1) := by decide +kernel
theorem dX9_count_53 : decode cX9_count 53 = .ok (.getfield 19, 3) := by decide +kernel
theorem dX9_count_56 : decode cX9_count 56 = .ok (.getfield 139, 3) := by decide +kernel
theorem dX9_count_59 : decode cX9_count 59 = .ok (.ireturn, 1) := by decide +kernel
theorem dX9_count_60 : decode cX9_count 60 = .ok (.aload_n 0, 1) := by decide +kernel
theorem dX9_count_61 : decode cX9_count 61 = .ok (.getfield 19, 3) := by decide +kernel
theorem dX9_count_64 : decode cX9_count 64 = .ok (.getfield 395, 3) := by decide +kernel
theorem dX9_count_67 : decode cX9_count 67 = .ok (.ireturn, 1) := by decide +kernel
theorem dX9_count_68 : decode cX9_count 68 = .ok (.aload_n 0, 1) := by decide +kernel
theorem dX9_count_69 : decode cX9_count 69 = .ok (.getfield 49, 3) := by decide +kernel
theorem dX9_count_72 : decode cX9_count 72 = .ok (.getfield 192, 3) := by decide +kernel
theorem dX9_count_75 : decode cX9_count 75 = .ok (.ireturn, 1) := by decide +kernel
theorem dX9_count_76 : decode cX9_count 76 = .ok (.aload_n 0, 1) := by decide +kernel
theorem dX9_count_77 : decode cX9_count 77 = .ok (.invokevirtual 181, 3) := by decide +kernel
theorem dX9_count_80 : decode cX9_count 80 = .ok (.ireturn, 1) := by decide +kernel
theorem dX9_count_81 : decode cX9_count 81 = .ok (.aload_n 0, 1) := by decide +kernel
theorem dX9_count_82 : decode cX9_count 82 = .ok (.getfield 100, 3) := by decide +kernel
theorem dX9_count_85 : decode cX9_count 85 = .ok (.ireturn, 1) := by decide +kernel
theorem dX9_count_86 : decode cX9_count 86 = .ok (.aload_n 0, 1) := by decide +kernel
theorem dX9_count_87 : decode cX9_count 87 = .ok (.getfield 62, 3) := by decide +kernel
theorem dX9_count_90 : decode cX9_count 90 = .ok (.getfield 398, 3) := by decide +kernel
theorem dX9_count_93 : decode cX9_count 93 = .ok (.ireturn, 1) := by decide +kernel
theorem dX9_count_94 : decode cX9_count 94 = .ok (.aload_n 0, 1) := by decide +kernel
theorem dX9_count_95 : decode cX9_count 95 = .ok (.invokevirtual 401, 3) := by decide +kernel
theorem dX9_count_98 : decode cX9_count 98 = .ok (.ireturn, 1) := by decide +kernel
theorem dX9_count_99 : decode cX9_count 99 = .ok (.aload_n 0, 1) := by decide +kernel
theorem dX9_count_100 : decode cX9_count 100 = .ok (.invokevirtual 404, 3) := by decide +kernel
theorem dX9_count_103 : decode cX9_count 103 = .ok (.ireturn, 1) := by decide +kernel
theorem dX9_count_104 : decode cX9_count 104 = .ok (.aload_n 0, 1) := by decide +kernel
theorem dX9_count_105 : decode cX9_count 105 = .ok (.invokevirtual 407, 3) := by decide +kernel
theorem dX9_count_108 : decode cX9_count 108 = .ok (.ireturn, 1) := by decide +kernel
theorem dX9_count_109 : decode cX9_count 109 = .ok (.iconst (-1), 1) := by decide +kernel
theorem dX9_count_110 : decode cX9_count 110 = .ok (.ireturn, 1) := by decide +kernel
set_option maxRecDepth 20000 in
theorem ggX9_normalTerms_X7_prepare : GoodIn wsX9_normalTerms wsX7_prepare := goodIn_r _ [9, 10, 11, 12, 13, 14, 15, 16, 17, 18, 19, 20, 21, 22, 23, 24, 25, 26, 27, 28, 29, 30, 31, 32, 33, 34, 35, 36, 37, 38, 39, 40, 41, 42, 43, 44, 45, 46, 47, 48, 49, 50, 51, 52, 53, 54, 55, 56, 57, 58, 59, 60, 61, 62, 63, 64, 65, 66, 67, 68, 69, 70, 71, 72, 73, 74, 75, 405, 406, 407, 408, 409, 410, 411, 412, 413, 414, 415, 416, 417, 418, 419, 420, 421, 422, 423, 424, 425, 426, 427, 428, 429, 430, 431, 432, 433, 434, 435, 436, 437, 438, 439, 401, 402, 403, 404, 440, 441, 442, 443, 444, 445, 446, 447] rfl (by decide +kernel)
set_option maxRecDepth 20000 in
theorem gX9_normalTerms_X7_prepare : GoodIn wsX9_normalTerms (wsV RX9 336 RX7 yX7_prepare wsX7_prepare) := goodIn_app (goodIn_of _ (by decide +kernel)) ggX9_normalTerms_X7_prepare
set_option maxRecDepth 20000 in
theorem ggX9_normalTerms_X7_list : GoodIn wsX9_normalTerms wsX7_list := goodIn_r _ [79, 80, 11, 14, 81, 82, 83, 12, 84, 85, 86, 44, 87, 46, 88, 22, 23, 18, 24, 25, 26, 27, 28, 29, 30, 31, 32, 33, 34, 35, 36, 37, 38, 39, 20, 40, 41, 42, 43, 45, 47, 48, 49, 50, 51, 52, 53, 54, 55, 56, 57, 58, 59, 60, 61, 62, 63, 64, 65, 66, 67, 68, 69, 70, 71, 72, 73, 74, 75, 89, 90, 91, 8, 92, 93, 94, 95, 96, 97, 98, 99, 100, 101, 102, 103, 104, 105, 106, 107, 108, 109, 110, 111, 112, 10, 113, 114, 115, 116, 117, 118, 119, 120, 121, 122, 123, 124, 125, 126, 127, 128, 129, 130, 131, 132, 133, 134, 135, 136, 137, 138, 139, 140, 141, 142, 143, 144, 145, 146, 147, 148, 149, 150, 151, 152, 153, 154, 155, 156, 157, 158, 159, 160, 161, 162, 163, 164, 165, 166, 167, 168, 169, 170, 171, 172, 173, 174, 175, 176, 177, 178, 179, 180, 181, 182, 183, 184, 185, 186, 187, 188, 189, 190, 191, 192, 193, 194, 195, 196, 197, 198, 199, 200, 201, 202, 203, 204, 205, 206, 207, 208, 209, 210, 211, 212, 213, 214, 215, 216, 217, 218, 219, 220, 221, 222, 223, 224, 225, 226, 227, 228, 229, 230, 231, 232, 233, 234, 235, 236, 237, 238, 239, 240, 241, 242, 243, 244, 245, 246, 247, 248, 249, 250, 251, 252, 253, 254, 255, 256, 257, 258, 259, 260, 261, 262, 263, 264, 265, 266, 267, 268, 269, 270, 271, 272, 273, 274, 275, 276, 277, 278, 279, 280, 281, 282, 283, 284, 285, 286, 287, 288, 289, 290, 291, 292, 293, 294, 295, 296, 297, 298, 299, 300, 301, 302, 303, 304, 305, 306, 307, 308, 309, 310, 311, 312, 313, 314, 315, 316, 317, 318, 319, 320, 321, 322, 323, 324, 325, 326, 327, 328, 329, 330, 331, 332, 13, 333, 334, 335, 336, 337, 338, 339, 340, 341, 342, 343, 344, 345, 346, 347, 348, 349, 350, 351, 352, 353, 354, 355, 356, 357, 358, 359, 360, 361, 362, 363, 364, 365, 366, 367, 368, 369, 370, 371, 372, 373, 374, 375, 376, 377, 378, 379, 380, 405, 406, 407, 408, 409, 410, 411, 412, 413, 414, 415, 416, 417, 418, 419, 420, 421, 422, 423, 424, 425, 426, 427, 428, 429, 430, 431, 432, 433, 434, 435, 436, 437, 438, 439, 401, 402, 403, 404, 440, 441, 442, 443, 444, 445, 446, 447, 448, 449, 450, 451, 452, 453, 454, 455, 456, 457, 458, 459, 460, 461, 462, 463, 464, 465, 466, 467] rfl (by decide +kernel)
set_option maxRecDepth 20000 in
theorem gX9_normalTerms_X7_list : GoodIn wsX9_normalTerms (wsV RX9 360 RX7 yX7_list wsX7_list) := goodIn_app (goodIn_of _ (by decide +kernel)) ggX9_normalTerms_X7_list
set_option maxRecDepth 20000 in
theorem ggX9_normalTerms_X7_used : GoodIn wsX9_normalTerms wsX7_used := goodIn_r _ [384, 80, 405, 406, 407, 408, 409, 410, 411, 412, 413, 414, 415, 416, 417, 418, 419, 420, 401, 402, 403, 404] rfl (by decide +kernel)
set_option maxRecDepth 20000 in
theorem gX9_normalTerms_X7_used : GoodIn wsX9_normalTerms (wsV RX9 343 RX7 yX7_used wsX7_used) := goodIn_app (goodIn_of _ (by decide +kernel)) ggX9_normalTerms_X7_used
theorem dX9_normalTerms_0 : decode cX9_normalTerms 0 = .ok (.iconst 0, 1) := by decide +kernel
theorem dX9_normalTerms_1 : decode cX9_normalTerms 1 = .ok (.istore_n 1, 1) := by decide +kernel
theorem dX9_normalTerms_2 : decode cX9_normalTerms 2 = .ok (.aload_n 0, 1) := by decide +kernel
theorem dX9_normalTerms_3 : decode cX9_normalTerms 3 = .ok (.getfield 80, 3) := by decide +kernel
theorem dX9_normalTerms_6 : decode cX9_normalTerms 6 = .ok (.aload_n 0, 1) := by decide +kernel
theorem dX9_normalTerms_7 : decode cX9_normalTerms 7 = .ok (.getfield 53, 3) := by decide +kernel
theorem dX9_normalTerms_10 : decode cX9_normalTerms 10 = .ok (.aload_n 0, 1) := by decide +kernel
theorem dX9_normalTerms_11 : decode cX9_normalTerms 11 = .ok (.getfield 100, 3) := by decide +kernel
theorem dX9_normalTerms_14 : decode cX9_normalTerms 14 = .ok (.invokevirtual 336, 3) := by decide +kernel
theorem dX9_normalTerms_17 : decode cX9_normalTerms 17 = .ok (.iconst 0, 1) := by decide +kernel
theorem dX9_normalTerms_18 : decode cX9_normalTerms 18 = .ok (.istore_n 2, 1) := by decide +kernel
theorem dX9_normalTerms_19 : decode cX9_normalTerms 19 = .ok (.iload_n 2, 1) := by decide +kernel
theorem dX9_normalTerms_20 : decode cX9_normalTerms 20 = .ok (.aload_n 0, 1) := by decide +kernel
theorem dX9_normalTerms_21 : decode cX9_normalTerms 21 = .ok (.getfield 49, 3) := by decide +kernel
theorem dX9_normalTerms_24 : decode cX9_normalTerms 24 = .ok (.getfield 192, 3) := by decide +kernel
theorem dX9_normalTerms_27 : decode cX9_normalTerms 27 = .ok (.if_icmp .ge 44, 3) := by decide +kernel
theorem dX9_normalTerms_30 : decode cX9_normalTerms 30 = .ok (.aload_n 0, 1) := by decide +kernel
theorem dX9_normalTerms_31 : decode cX9_normalTerms 31 = .ok (.getfield 80, 3) := by decide +kernel
theorem dX9_normalTerms_34 : decode cX9_normalTerms 34 = .ok (.aload_n 0, 1) := by decide +kernel
theorem dX9_normalTerms_35 : decode cX9_normalTerms 35 = .ok (.getfield 49, 3) := by decide +kernel
theorem dX9_normalTerms_38 : decode cX9_normalTerms 38 = .ok (.iload_n 2, 1) := by decide +kernel
theorem dX9_normalTerms_39 : decode cX9_normalTerms 39 = .ok (.bipush 20, 2) := by decide +kernel
theorem dX9_normalTerms_41 : decode cX9_normalTerms 41 = .ok (.invokevirtual 360, 3) := by decide +kernel
theorem dX9_normalTerms_44 : decode cX9_normalTerms 44 = .ok (.ifCond .ne 5, 3) := by decide +kernel
theorem dX9_normalTerms_47 : decode cX9_normalTerms 47 = .ok (.iconst (-1), 1) := by decide +kernel
theorem dX9_normalTerms_48 : decode cX9_normalTerms 48 = .ok (.ireturn, 1) := by decide +kernel
theorem dX9_normalTerms_49 : decode cX9_normalTerms 49 = .ok (.aload_n 0, 1) := by decide +kernel
theorem dX9_normalTerms_50 : decode cX9_normalTerms 50 = .ok (.getfield 80, 3) := by decide +kernel
theorem dX9_normalTerms_53 : decode cX9_normalTerms 53 = .ok (.invokevirtual 343, 3) := by decide +kernel
theorem dX9_normalTerms_56 : decode cX9_normalTerms 56 = .ok (.ifCond .ne 9, 3) := by decide +kernel
theorem dX9_normalTerms_59 : decode cX9_normalTerms 59 = .ok (.iload_n 1, 1) := by decide +kernel
theorem dX9_normalTerms_60 : decode cX9_normalTerms 60 = .ok (.iconst 1, 1) := by decide +kernel
theorem dX9_normalTerms_61 : decode cX9_normalTerms 61 = .ok (.iload_n 2, 1) := by decide +kernel
theorem dX9_normalTerms_62 : decode cX9_normalTerms 62 = .ok (.ishl, 1) := by decide +kernel
theorem dX9_normalTerms_63 : decode cX9_normalTerms 63 = .ok (.ior, 1) := by decide +kernel
theorem dX9_normalTerms_64 : decode cX9_normalTerms 64 = .ok (.istore_n 1, 1) := by decide +kernel
theorem dX9_normalTerms_65 : decode cX9_normalTerms 65 = .ok (.iinc 2 1, 3) := by decide +kernel
theorem dX9_normalTerms_68 : decode cX9_normalTerms 68 = .ok (.goto (-49), 3) := by decide +kernel
theorem dX9_normalTerms_71 : decode cX9_normalTerms 71 = .ok (.iload_n 1, 1) := by decide +kernel
theorem dX9_normalTerms_72 : decode cX9_normalTerms 72 = .ok (.ireturn, 1) := by decide +kernel
set_option maxRecDepth 20000 in
theorem ggX9_greatestSize_X2_lengthOf : GoodIn wsX9_greatestSize wsX2_lengthOf := goodIn_r _ [10, 11, 12, 29, 30, 31, 32] rfl (by decide +kernel)
set_option maxRecDepth 20000 in
theorem gX9_greatestSize_X2_lengthOf : GoodIn wsX9_greatestSize (wsV RX9 240 RX2 yX2_lengthOf wsX2_lengthOf) := goodIn_app (goodIn_of _ (by decide +kernel)) ggX9_greatestSize_X2_lengthOf
theorem dX9_greatestSize_0 : decode cX9_greatestSize 0 = .ok (.iconst 0, 1) := by decide +kernel
theorem dX9_greatestSize_1 : decode cX9_greatestSize 1 = .ok (.istore_n 1, 1) := by decide +kernel
theorem dX9_greatestSize_2 : decode cX9_greatestSize 2 = .ok (.iconst 0, 1) := by decide +kernel
theorem dX9_greatestSize_3 : decode cX9_greatestSize 3 = .ok (.istore_n 2, 1) := by decide +kernel
theorem dX9_greatestSize_4 : decode cX9_greatestSize 4 = .ok (.iload_n 2, 1) := by decide +kernel
theorem dX9_greatestSize_5 : decode cX9_greatestSize 5 = .ok (.aload_n 0, 1) := by decide +kernel
theorem dX9_greatestSize_6 : decode cX9_greatestSize 6 = .ok (.getfield 49, 3) := by decide +kernel
theorem dX9_greatestSize_9 : decode cX9_greatestSize 9 = .ok (.getfield 192, 3) := by decide +kernel
theorem dX9_greatestSize_12 : decode cX9_greatestSize 12 = .ok (.if_icmp .ge 22, 3) := by decide +kernel
theorem dX9_greatestSize_15 : decode cX9_greatestSize 15 = .ok (.iload_n 1, 1) := by decide +kernel
theorem dX9_greatestSize_16 : decode cX9_greatestSize 16 = .ok (.aload_n 0, 1) := by decide +kernel
theorem dX9_greatestSize_17 : decode cX9_greatestSize 17 = .ok (.getfield 49, 3) := by decide +kernel
theorem dX9_greatestSize_20 : decode cX9_greatestSize 20 = .ok (.iload_n 2, 1) := by decide +kernel
theorem dX9_greatestSize_21 : decode cX9_greatestSize 21 = .ok (.invokevirtual 240, 3) := by decide +kernel
theorem dX9_greatestSize_24 : decode cX9_greatestSize 24 = .ok (.invokestatic 410, 3) := by decide +kernel
theorem dX9_greatestSize_27 : decode cX9_greatestSize 27 = .ok (.istore_n 1, 1) := by decide +kernel
theorem dX9_greatestSize_28 : decode cX9_greatestSize 28 = .ok (.iinc 2 1, 3) := by decide +kernel
theorem dX9_greatestSize_31 : decode cX9_greatestSize 31 = .ok (.goto (-27), 3) := by decide +kernel
theorem dX9_greatestSize_34 : decode cX9_greatestSize 34 = .ok (.iload_n 1, 1) := by decide +kernel
theorem dX9_greatestSize_35 : decode cX9_greatestSize 35 = .ok (.ireturn, 1) := by decide +kernel
set_option maxRecDepth 20000 in
theorem ggX9_matchesOfAll_X9_rules : GoodIn wsX9_matchesOfAll wsX9_rules := goodIn_r _ [10, 4, 284, 285, 286, 287, 288, 289, 290, 291, 292, 293, 294, 295, 296, 297, 298, 299, 300, 301, 302, 303] rfl (by decide +kernel)
set_option maxRecDepth 20000 in
theorem gX9_matchesOfAll_X9_rules : GoodIn wsX9_matchesOfAll (wsV RX9 181 RX9 yX9_rules wsX9_rules) := goodIn_app (goodIn_of _ (by decide +kernel)) ggX9_matchesOfAll_X9_rules
set_option maxRecDepth 20000 in
theorem ggX9_matchesOfAll_X8_clear : GoodIn wsX9_matchesOfAll wsX8_clear := goodIn_r _ [15, 16, 17, 18, 19, 14, 20, 21, 22, 23, 24, 25, 26, 27, 28, 29, 30, 31, 324, 325, 326, 327, 328, 329, 330, 331, 332, 333, 334, 335, 336, 337, 338, 339, 340, 341, 342] rfl (by decide +kernel)
set_option maxRecDepth 20000 in
theorem gX9_matchesOfAll_X8_clear : GoodIn wsX9_matchesOfAll (wsV RX9 142 RX8 yX8_clear wsX8_clear) := goodIn_app (goodIn_of _ (by decide +kernel)) ggX9_matchesOfAll_X8_clear
set_option maxRecDepth 20000 in
theorem ggX9_matchesOfAll_X8_fromRow : GoodIn wsX9_matchesOfAll wsX8_fromRow := goodIn_r _ [35, 16, 36, 37, 38, 39, 40, 41, 42, 43, 44, 45, 46, 47, 48, 49, 9, 50, 51, 52, 53, 14, 54, 55, 56, 57, 58, 59, 21, 60, 61, 23, 62, 63, 24, 22, 64, 65, 66, 67, 68, 69, 70, 324, 325, 326, 327, 328, 329, 330, 331, 332, 333, 334, 335, 336, 337, 338, 339, 340, 341, 342, 300, 301, 302, 303, 343, 344, 345, 346, 347, 348, 349, 350] rfl (by decide +kernel)
set_option maxRecDepth 20000 in
theorem gX9_matchesOfAll_X8_fromRow : GoodIn wsX9_matchesOfAll (wsV RX9 308 RX8 yX8_fromRow wsX8_fromRow) := goodIn_app (goodIn_of _ (by decide +kernel)) ggX9_matchesOfAll_X8_fromRow
set_option maxRecDepth 20000 in
theorem ggX9_matchesOfAll_X0_run : GoodIn wsX9_matchesOfAll wsX0_run := goodIn_r _ [75, 76, 77, 78, 79, 80, 81, 82, 83, 84, 85, 86, 87, 74, 88, 89, 90, 91, 92, 93, 94, 14, 95, 21, 65, 96, 97, 98, 99, 66, 100, 101, 102, 103, 104, 105, 106, 107, 108, 109, 110, 64, 111, 112, 113, 114, 62, 115, 9, 116, 117, 118, 119, 120, 121, 122, 123, 124, 125, 126, 127, 49, 50, 128, 129, 130, 131, 132, 133, 134, 135, 136, 137, 138, 139, 140, 63, 141, 142, 143, 144, 61, 145, 146, 147, 148, 16, 55, 149, 150, 151, 67, 68, 69, 70, 152, 153, 154, 155, 156, 157, 158, 159, 160, 161, 162, 163, 164, 36, 165, 166, 167, 168, 169, 170, 171, 172, 173, 174, 175, 176, 56, 57, 58, 59, 60, 23, 24, 22, 177, 178, 179, 180, 181, 182, 183, 184, 185, 186, 187, 188, 18, 19, 20, 25, 26, 27, 28, 29, 30, 31, 189, 190, 191, 192, 193, 194, 195, 196, 197, 198, 199, 200, 201, 202, 203, 204, 205, 206, 207, 208, 209, 210, 211, 212, 213, 214, 215, 216, 217, 218, 219, 220, 221, 222, 223, 224, 225, 226, 227, 228, 229, 230, 231, 232, 233, 234, 235, 236, 237, 238, 239, 240, 241, 242, 243, 244, 245, 246, 247, 248, 249, 250, 251, 252, 253, 254, 255, 256, 257, 258, 259, 260, 261, 262, 263, 264, 265, 266, 267, 268, 269, 270, 271, 272, 273, 274, 275, 276, 277, 278, 279, 280, 281, 282, 283, 304, 305, 306, 307, 308, 309, 310, 311, 312, 313, 314, 315, 316, 317, 318, 319, 320, 321, 322, 323, 324, 325, 326, 327, 328, 329, 330, 331, 332, 333, 334, 335, 336, 337, 338, 339, 340, 341, 342, 343, 344, 345, 346, 347, 348, 349, 350] rfl (by decide +kernel)
set_option maxRecDepth 20000 in
theorem gX9_matchesOfAll_X0_run : GoodIn wsX9_matchesOfAll (wsV RX9 311 RX0 yX0_run wsX0_run) := goodIn_app (goodIn_of _ (by decide +kernel)) ggX9_matchesOfAll_X0_run
theorem dX9_matchesOfAll_0 : decode cX9_matchesOfAll 0 = .ok (.iconst 0, 1) := by decide +kernel
theorem dX9_matchesOfAll_1 : decode cX9_matchesOfAll 1 = .ok (.istore_n 1, 1) := by decide +kernel
theorem dX9_matchesOfAll_2 : decode cX9_matchesOfAll 2 = .ok (.iconst 0, 1) := by decide +kernel
theorem dX9_matchesOfAll_3 : decode cX9_matchesOfAll 3 = .ok (.istore_n 2, 1) := by decide +kernel
theorem dX9_matchesOfAll_4 : decode cX9_matchesOfAll 4 = .ok (.iload_n 2, 1) := by decide +kernel
theorem dX9_matchesOfAll_5 : decode cX9_matchesOfAll 5 = .ok (.aload_n 0, 1) := by decide +kernel
theorem dX9_matchesOfAll_6 : decode cX9_matchesOfAll 6 = .ok (.invokevirtual 181, 3) := by decide +kernel
theorem dX9_matchesOfAll_9 : decode cX9_matchesOfAll 9 = .ok (.if_icmp .ge 98, 3) := by decide +kernel
theorem dX9_matchesOfAll_12 : decode cX9_matchesOfAll 12 = .ok (.iconst 0, 1) := by decide +kernel
theorem dX9_matchesOfAll_13 : decode cX9_matchesOfAll 13 = .ok (.istore_n 3, 1) := by decide +kernel
theorem dX9_matchesOfAll_14 : decode cX9_matchesOfAll 14 = .ok (.aload_n 0, 1) := by decide +kernel
theorem dX9_matchesOfAll_15 : decode cX9_matchesOfAll 15 = .ok (.getfield 100, 3) := by decide +kernel
theorem dX9_matchesOfAll_18 : decode cX9_matchesOfAll 18 = .ok (.iload_n 2, 1) := by decide +kernel
theorem dX9_matchesOfAll_19 : decode cX9_matchesOfAll 19 = .ok (.ishr, 1) := by decide +kernel
theorem dX9_matchesOfAll_20 : decode cX9_matchesOfAll 20 = .ok (.iconst 1, 1) := by decide +kernel
theorem dX9_matchesOfAll_21 : decode cX9_matchesOfAll 21 = .ok (.iand, 1) := by decide +kernel
theorem dX9_matchesOfAll_22 : decode cX9_matchesOfAll 22 = .ok (.ifCond .eq 79, 3) := by decide +kernel
theorem dX9_matchesOfAll_25 : decode cX9_matchesOfAll 25 = .ok (.iload_n 3, 1) := by decide +kernel
theorem dX9_matchesOfAll_26 : decode cX9_matchesOfAll 26 = .ok (.aload_n 0, 1) := by decide +kernel
theorem dX9_matchesOfAll_27 : decode cX9_matchesOfAll 27 = .ok (.getfield 49, 3) := by decide +kernel
theorem dX9_matchesOfAll_30 : decode cX9_matchesOfAll 30 = .ok (.getfield 192, 3) := by decide +kernel
theorem dX9_matchesOfAll_33 : decode cX9_matchesOfAll 33 = .ok (.if_icmp .ge 68, 3) := by decide +kernel
theorem dX9_matchesOfAll_36 : decode cX9_matchesOfAll 36 = .ok (.aload_n 0, 1) := by decide +kernel
theorem dX9_matchesOfAll_37 : decode cX9_matchesOfAll 37 = .ok (.getfield 31, 3) := by decide +kernel
theorem dX9_matchesOfAll_40 : decode cX9_matchesOfAll 40 = .ok (.invokevirtual 142, 3) := by decide +kernel
theorem dX9_matchesOfAll_43 : decode cX9_matchesOfAll 43 = .ok (.aload_n 0, 1) := by decide +kernel
theorem dX9_matchesOfAll_44 : decode cX9_matchesOfAll 44 = .ok (.getfield 31, 3) := by decide +kernel
theorem dX9_matchesOfAll_47 : decode cX9_matchesOfAll 47 = .ok (.aload_n 0, 1) := by decide +kernel
theorem dX9_matchesOfAll_48 : decode cX9_matchesOfAll 48 = .ok (.getfield 53, 3) := by decide +kernel
theorem dX9_matchesOfAll_51 : decode cX9_matchesOfAll 51 = .ok (.iconst 2, 1) := by decide +kernel
theorem dX9_matchesOfAll_52 : decode cX9_matchesOfAll 52 = .ok (.iload_n 2, 1) := by decide +kernel
theorem dX9_matchesOfAll_53 : decode cX9_matchesOfAll 53 = .ok (.imul, 1) := by decide +kernel
theorem dX9_matchesOfAll_54 : decode cX9_matchesOfAll 54 = .ok (.invokevirtual 308, 3) := by decide +kernel
theorem dX9_matchesOfAll_57 : decode cX9_matchesOfAll 57 = .ok (.istore 4, 2) := by decide +kernel
theorem dX9_matchesOfAll_59 : decode cX9_matchesOfAll 59 = .ok (.aload_n 0, 1) := by decide +kernel
theorem dX9_matchesOfAll_60 : decode cX9_matchesOfAll 60 = .ok (.getfield 71, 3) := by decide +kernel
theorem dX9_matchesOfAll_63 : decode cX9_matchesOfAll 63 = .ok (.iload 4, 2) := by decide +kernel
theorem dX9_matchesOfAll_65 : decode cX9_matchesOfAll 65 = .ok (.aload_n 0, 1) := by decide +kernel
theorem dX9_matchesOfAll_66 : decode cX9_matchesOfAll 66 = .ok (.getfield 31, 3) := by decide +kernel
theorem dX9_matchesOfAll_69 : decode cX9_matchesOfAll 69 = .ok (.aload_n 0, 1) := by decide +kernel
theorem dX9_matchesOfAll_70 : decode cX9_matchesOfAll 70 = .ok (.getfield 49, 3) := by decide +kernel
theorem dX9_matchesOfAll_73 : decode cX9_matchesOfAll 73 = .ok (.iload_n 3, 1) := by decide +kernel
theorem dX9_matchesOfAll_74 : decode cX9_matchesOfAll 74 = .ok (.invokevirtual 308, 3) := by decide +kernel
theorem dX9_matchesOfAll_77 : decode cX9_matchesOfAll 77 = .ok (.invokevirtual 311, 3) := by decide +kernel
theorem dX9_matchesOfAll_80 : decode cX9_matchesOfAll 80 = .ok (.ifCond .ne 5, 3) := by decide +kernel
theorem dX9_matchesOfAll_83 : decode cX9_matchesOfAll 83 = .ok (.iconst (-1), 1) := by decide +kernel
theorem dX9_matchesOfAll_84 : decode cX9_matchesOfAll 84 = .ok (.ireturn, 1) := by decide +kernel
theorem dX9_matchesOfAll_85 : decode cX9_matchesOfAll 85 = .ok (.iload_n 1, 1) := by decide +kernel
theorem dX9_matchesOfAll_86 : decode cX9_matchesOfAll 86 = .ok (.aload_n 0, 1) := by decide +kernel
theorem dX9_matchesOfAll_87 : decode cX9_matchesOfAll 87 = .ok (.getfield 71, 3) := by decide +kernel
theorem dX9_matchesOfAll_90 : decode cX9_matchesOfAll 90 = .ok (.getfield 296, 3) := by decide +kernel
theorem dX9_matchesOfAll_93 : decode cX9_matchesOfAll 93 = .ok (.iadd, 1) := by decide +kernel
theorem dX9_matchesOfAll_94 : decode cX9_matchesOfAll 94 = .ok (.istore_n 1, 1) := by decide +kernel
theorem dX9_matchesOfAll_95 : decode cX9_matchesOfAll 95 = .ok (.iinc 3 1, 3) := by decide +kernel
theorem dX9_matchesOfAll_98 : decode cX9_matchesOfAll 98 = .ok (.goto (-84), 3) := by decide +kernel
theorem dX9_matchesOfAll_101 : decode cX9_matchesOfAll 101 = .ok (.iinc 2 1, 3) := by decide +kernel
theorem dX9_matchesOfAll_104 : decode cX9_matchesOfAll 104 = .ok (.goto (-100), 3) := by decide +kernel
theorem dX9_matchesOfAll_107 : decode cX9_matchesOfAll 107 = .ok (.iload_n 1, 1) := by decide +kernel
theorem dX9_matchesOfAll_108 : decode cX9_matchesOfAll 108 = .ok (.ireturn, 1) := by decide +kernel
theorem dX9_rules_0 : decode cX9_rules 0 = .ok (.aload_n 0, 1) := by decide +kernel
theorem dX9_rules_1 : decode cX9_rules 1 = .ok (.getfield 53, 3) := by decide +kernel
theorem dX9_rules_4 : decode cX9_rules 4 = .ok (.getfield 192, 3) := by decide +kernel
theorem dX9_rules_7 : decode cX9_rules 7 = .ok (.iconst 1, 1) := by decide +kernel
theorem dX9_rules_8 : decode cX9_rules 8 = .ok (.ishr, 1) := by decide +kernel
theorem dX9_rules_9 : decode cX9_rules 9 = .ok (.ireturn, 1) := by decide +kernel
theorem dX9_checkTerm_0 : decode cX9_checkTerm 0 = .ok (.iload_n 1, 1) := by decide +kernel
theorem dX9_checkTerm_1 : decode cX9_checkTerm 1 = .ok (.ifCond .lt 14, 3) := by decide +kernel
theorem dX9_checkTerm_4 : decode cX9_checkTerm 4 = .ok (.iload_n 1, 1) := by decide +kernel
theorem dX9_checkTerm_5 : decode cX9_checkTerm 5 = .ok (.aload_n 0, 1) := by decide +kernel
theorem dX9_checkTerm_6 : decode cX9_checkTerm 6 = .ok (.getfield 49, 3) := by decide +kernel
theorem dX9_checkTerm_9 : decode cX9_checkTerm 9 = .ok (.getfield 192, 3) := by decide +kernel
theorem dX9_checkTerm_12 : decode cX9_checkTerm 12 = .ok (.if_icmp .lt 14, 3) := by decide +kernel
theorem dX9_checkTerm_15 : decode cX9_checkTerm 15 = .ok (.new 415, 3) := by decide +kernel
theorem dX9_checkTerm_18 : decode cX9_checkTerm 18 = .ok (.dup, 1) := by decide +kernel
theorem dX9_checkTerm_19 : decode cX9_checkTerm 19 = .ok (.ldc_w 417, 3) := by decide +kernel
theorem dX9_checkTerm_22 : decode cX9_checkTerm 22 = .ok (.invokespecial 419, 3) := by decide +kernel
theorem dX9_checkTerm_25 : decode cX9_checkTerm 25 = .ok (.athrow, 1) := by decide +kernel
theorem dX9_checkTerm_26 : decode cX9_checkTerm 26 = .ok (.return_, 1) := by decide +kernel
set_option maxRecDepth 20000 in
theorem ggX9_checkRule_X9_rules : GoodIn wsX9_checkRule wsX9_rules := goodIn_r _ [7, 8, 9, 10, 11, 12, 13, 14, 15, 16, 17, 18, 19, 20, 21, 22, 23, 24, 25, 26, 27, 28] rfl (by decide +kernel)
set_option maxRecDepth 20000 in
theorem gX9_checkRule_X9_rules : GoodIn wsX9_checkRule (wsV RX9 181 RX9 yX9_rules wsX9_rules) := goodIn_app (goodIn_of _ (by decide +kernel)) ggX9_checkRule_X9_rules
theorem dX9_checkRule_0 : decode cX9_checkRule 0 = .ok (.iload_n 1, 1) := by decide +kernel
theorem dX9_checkRule_1 : decode cX9_checkRule 1 = .ok (.ifCond .lt 11, 3) := by decide +kernel
theorem dX9_checkRule_4 : decode cX9_checkRule 4 = .ok (.iload_n 1, 1) := by decide +kernel
theorem dX9_checkRule_5 : decode cX9_checkRule 5 = .ok (.aload_n 0, 1) := by decide +kernel
theorem dX9_checkRule_6 : decode cX9_checkRule 6 = .ok (.invokevirtual 181, 3) := by decide +kernel
theorem dX9_checkRule_9 : decode cX9_checkRule 9 = .ok (.if_icmp .lt 14, 3) := by decide +kernel
theorem dX9_checkRule_12 : decode cX9_checkRule 12 = .ok (.new 415, 3) := by decide +kernel
theorem dX9_checkRule_15 : decode cX9_checkRule 15 = .ok (.dup, 1) := by decide +kernel
theorem dX9_checkRule_16 : decode cX9_checkRule 16 = .ok (.ldc_w 420, 3) := by decide +kernel
theorem dX9_checkRule_19 : decode cX9_checkRule 19 = .ok (.invokespecial 419, 3) := by decide +kernel
theorem dX9_checkRule_22 : decode cX9_checkRule 22 = .ok (.athrow, 1) := by decide +kernel
theorem dX9_checkRule_23 : decode cX9_checkRule 23 = .ok (.return_, 1) := by decide +kernel
theorem dX9_checkOperator_0 : decode cX9_checkOperator 0 = .ok (.iload_n 1, 1) := by decide +kernel
theorem dX9_checkOperator_1 : decode cX9_checkOperator 1 = .ok (.ifCond .lt 14, 3) := by decide +kernel
theorem dX9_checkOperator_4 : decode cX9_checkOperator 4 = .ok (.iload_n 1, 1) := by decide +kernel
theorem dX9_checkOperator_5 : decode cX9_checkOperator 5 = .ok (.aload_n 0, 1) := by decide +kernel
theorem dX9_checkOperator_6 : decode cX9_checkOperator 6 = .ok (.getfield 19, 3) := by decide +kernel
theorem dX9_checkOperator_9 : decode cX9_checkOperator 9 = .ok (.getfield 139, 3) := by decide +kernel
theorem dX9_checkOperator_12 : decode cX9_checkOperator 12 = .ok (.if_icmp .lt 14, 3) := by decide +kernel
theorem dX9_checkOperator_15 : decode cX9_checkOperator 15 = .ok (.new 415, 3) := by decide +kernel
theorem dX9_checkOperator_18 : decode cX9_checkOperator 18 = .ok (.dup, 1) := by decide +kernel
theorem dX9_checkOperator_19 : decode cX9_checkOperator 19 = .ok (.ldc_w 422, 3) := by decide +kernel
theorem dX9_checkOperator_22 : decode cX9_checkOperator 22 = .ok (.invokespecial 419, 3) := by decide +kernel
theorem dX9_checkOperator_25 : decode cX9_checkOperator 25 = .ok (.athrow, 1) := by decide +kernel
theorem dX9_checkOperator_26 : decode cX9_checkOperator 26 = .ok (.return_, 1) := by decide +kernel
theorem dX9_checkVariable_0 : decode cX9_checkVariable 0 = .ok (.iload_n 1, 1) := by decide +kernel
theorem dX9_checkVariable_1 : decode cX9_checkVariable 1 = .ok (.ifCond .lt 14, 3) := by decide +kernel
theorem dX9_checkVariable_4 : decode cX9_checkVariable 4 = .ok (.iload_n 1, 1) := by decide +kernel
theorem dX9_checkVariable_5 : decode cX9_checkVariable 5 = .ok (.aload_n 0, 1) := by decide +kernel
theorem dX9_checkVariable_6 : decode cX9_checkVariable 6 = .ok (.getfield 19, 3) := by decide +kernel
theorem dX9_checkVariable_9 : decode cX9_checkVariable 9 = .ok (.getfield 395, 3) := by decide +kernel
theorem dX9_checkVariable_12 : decode cX9_checkVariable 12 = .ok (.if_icmp .lt 14, 3) := by decide +kernel
theorem dX9_checkVariable_15 : decode cX9_checkVariable 15 = .ok (.new 415, 3) := by decide +kernel
theorem dX9_checkVariable_18 : decode cX9_checkVariable 18 = .ok (.dup, 1) := by decide +kernel
theorem dX9_checkVariable_19 : decode cX9_checkVariable 19 = .ok (.ldc_w 424, 3) := by decide +kernel
theorem dX9_checkVariable_22 : decode cX9_checkVariable 22 = .ok (.invokespecial 419, 3) := by decide +kernel
theorem dX9_checkVariable_25 : decode cX9_checkVariable 25 = .ok (.athrow, 1) := by decide +kernel
theorem dX9_checkVariable_26 : decode cX9_checkVariable 26 = .ok (.return_, 1) := by decide +kernel
theorem dX9_checkDistance_0 : decode cX9_checkDistance 0 = .ok (.iload_n 1, 1) := by decide +kernel
theorem dX9_checkDistance_1 : decode cX9_checkDistance 1 = .ok (.ifCond .lt 8, 3) := by decide +kernel
theorem dX9_checkDistance_4 : decode cX9_checkDistance 4 = .ok (.iload_n 1, 1) := by decide +kernel
theorem dX9_checkDistance_5 : decode cX9_checkDistance 5 = .ok (.iconst 4, 1) := by decide +kernel
theorem dX9_checkDistance_6 : decode cX9_checkDistance 6 = .ok (.if_icmp .le 14, 3) := by decide +kernel
theorem dX9_checkDistance_9 : decode cX9_checkDistance 9 = .ok (.new 125, 3) := by decide +kernel
theorem dX9_checkDistance_12 : decode cX9_checkDistance 12 = .ok (.dup, 1) := by decide +kernel
theorem dX9_checkDistance_13 : decode cX9_checkDistance 13 = .ok (.ldc_w 426, 3) := by decide +kernel
theorem dX9_checkDistance_16 : decode cX9_checkDistance 16 = .ok (.invokespecial 129, 3) := by decide +kernel
theorem dX9_checkDistance_19 : decode cX9_checkDistance 19 = .ok (.athrow, 1) := by decide +kernel
theorem dX9_checkDistance_20 : decode cX9_checkDistance 20 = .ok (.return_, 1) := by decide +kernel
