set_option maxRecDepth 20000 in
theorem ggX6_init_X2_init : GoodIn wsX6_init wsX2_init := goodIn_r _ [11, 12, 2, 3, 13, 14, 15, 16, 17, 18, 19, 20, 21, 22, 23, 24, 25, 26, 27] rfl (by decide +kernel)
set_option maxRecDepth 20000 in
theorem gX6_init_X2_init : GoodIn wsX6_init (wsX2_init) := ggX6_init_X2_init
theorem dX6_init_0 : decode cX6_init 0 = .ok (.aload_n 0, 1) := by decide +kernel
theorem dX6_init_1 : decode cX6_init 1 = .ok (.invokespecial 3, 3) := by decide +kernel
theorem dX6_init_4 : decode cX6_init 4 = .ok (.aload_n 0, 1) := by decide +kernel
theorem dX6_init_5 : decode cX6_init 5 = .ok (.new 9, 3) := by decide +kernel
theorem dX6_init_8 : decode cX6_init 8 = .ok (.dup, 1) := by decide +kernel
theorem dX6_init_9 : decode cX6_init 9 = .ok (.bipush 51, 2) := by decide +kernel
theorem dX6_init_11 : decode cX6_init 11 = .ok (.invokespecial 11, 3) := by decide +kernel
theorem dX6_init_14 : decode cX6_init 14 = .ok (.putfield 14, 3) := by decide +kernel
theorem dX6_init_17 : decode cX6_init 17 = .ok (.aload_n 0, 1) := by decide +kernel
theorem dX6_init_18 : decode cX6_init 18 = .ok (.aload_n 1, 1) := by decide +kernel
theorem dX6_init_19 : decode cX6_init 19 = .ok (.putfield 20, 3) := by decide +kernel
theorem dX6_init_22 : decode cX6_init 22 = .ok (.return_, 1) := by decide +kernel
set_option maxRecDepth 20000 in
theorem ggX6_begin_X2_clear : GoodIn wsX6_begin wsX2_clear := goodIn_r _ [8, 9, 40, 41, 42, 43] rfl (by decide +kernel)
set_option maxRecDepth 20000 in
theorem gX6_begin_X2_clear : GoodIn wsX6_begin (wsV RX6 24 RX2 yX2_clear wsX2_clear) := goodIn_app (goodIn_of _ (by decide +kernel)) ggX6_begin_X2_clear
set_option maxRecDepth 20000 in
theorem ggX6_begin_X2_copy : GoodIn wsX6_begin wsX2_copy := goodIn_r _ [13, 14, 15, 16, 7, 17, 9, 18, 19, 20, 21, 22, 23, 24, 25, 26, 27, 28, 29, 30, 31, 32, 33, 34, 35, 40, 41, 42, 43] rfl (by decide +kernel)
set_option maxRecDepth 20000 in
theorem gX6_begin_X2_copy : GoodIn wsX6_begin (wsV RX6 27 RX2 yX2_copy wsX2_copy) := goodIn_app (goodIn_of _ (by decide +kernel)) ggX6_begin_X2_copy
theorem dX6_begin_0 : decode cX6_begin 0 = .ok (.aload_n 0, 1) := by decide +kernel
theorem dX6_begin_1 : decode cX6_begin 1 = .ok (.getfield 14, 3) := by decide +kernel
theorem dX6_begin_4 : decode cX6_begin 4 = .ok (.invokevirtual 24, 3) := by decide +kernel
theorem dX6_begin_7 : decode cX6_begin 7 = .ok (.aload_n 0, 1) := by decide +kernel
theorem dX6_begin_8 : decode cX6_begin 8 = .ok (.getfield 14, 3) := by decide +kernel
theorem dX6_begin_11 : decode cX6_begin 11 = .ok (.aload_n 1, 1) := by decide +kernel
theorem dX6_begin_12 : decode cX6_begin 12 = .ok (.iload_n 2, 1) := by decide +kernel
theorem dX6_begin_13 : decode cX6_begin 13 = .ok (.invokevirtual 27, 3) := by decide +kernel
theorem dX6_begin_16 : decode cX6_begin 16 = .ok (.aload_n 0, 1) := by decide +kernel
theorem dX6_begin_17 : decode cX6_begin 17 = .ok (.iconst 0, 1) := by decide +kernel
theorem dX6_begin_18 : decode cX6_begin 18 = .ok (.putfield 31, 3) := by decide +kernel
theorem dX6_begin_21 : decode cX6_begin 21 = .ok (.aload_n 0, 1) := by decide +kernel
theorem dX6_begin_22 : decode cX6_begin 22 = .ok (.lconst 0, 1) := by decide +kernel
theorem dX6_begin_23 : decode cX6_begin 23 = .ok (.putfield 35, 3) := by decide +kernel
theorem dX6_begin_26 : decode cX6_begin 26 = .ok (.return_, 1) := by decide +kernel
set_option maxRecDepth 20000 in
theorem ggX6_grow_X7_list : GoodIn wsX6_grow wsX7_list := goodIn_r _ [9, 10, 11, 12, 13, 14, 15, 16, 17, 18, 19, 20, 21, 22, 23, 24, 25, 26, 27, 28, 29, 30, 31, 32, 33, 34, 35, 36, 37, 38, 39, 40, 41, 42, 43, 44, 45, 46, 47, 48, 49, 50, 51, 52, 53, 54, 55, 56, 57, 58, 59, 60, 61, 62, 63, 64, 65, 66, 67, 68, 69, 70, 71, 72, 73, 74, 75, 76, 77, 78, 79, 80, 8, 81, 82, 83, 84, 85, 86, 87, 88, 89, 90, 91, 92, 93, 94, 95, 96, 97, 98, 99, 100, 101, 102, 103, 104, 105, 106, 107, 108, 109, 110, 111, 112, 113, 114, 115, 116, 117, 118, 119, 120, 121, 122, 123, 124, 125, 126, 127, 128, 129, 130, 131, 132, 133, 134, 135, 136, 137, 138, 139, 140, 141, 142, 143, 144, 145, 146, 147, 148, 149, 150, 151, 152, 153, 154, 155, 156, 157, 158, 159, 160, 161, 162, 163, 164, 165, 166, 167, 168, 169, 170, 171, 172, 173, 174, 175, 176, 177, 178, 179, 180, 181, 182, 183, 184, 185, 186, 187, 188, 189, 190, 191, 192, 193, 194, 195, 196, 197, 198, 199, 200, 201, 202, 203, 204, 205, 206, 207, 208, 209, 210, 211, 212, 213, 214, 215, 216, 217, 218, 219, 220, 221, 222, 223, 224, 225, 226, 227, 228, 229, 230, 231, 232, 233, 234, 235, 236, 237, 238, 239, 240, 241, 242, 243, 244, 245, 246, 247, 248, 249, 250, 251, 252, 253, 254, 255, 256, 257, 258, 259, 260, 261, 262, 263, 264, 265, 266, 267, 268, 269, 270, 271, 272, 273, 274, 275, 276, 277, 278, 279, 280, 281, 282, 283, 284, 285, 286, 287, 288, 289, 290, 291, 292, 293, 294, 295, 296, 297, 298, 299, 300, 301, 302, 303, 304, 305, 306, 307, 308, 309, 310, 311, 312, 313, 314, 315, 316, 317, 318, 319, 320, 321, 322, 323, 324, 325, 326, 327, 328, 329, 330, 331, 332, 333, 334, 335, 336, 337, 338, 339, 340, 341, 342, 343, 344, 345, 346, 347, 348, 349, 350, 351, 352, 353, 354, 355, 356, 357, 358, 359, 360, 361, 362, 363, 364, 365, 366, 367, 368, 369, 370, 371, 404, 405, 406, 407, 408, 409, 410, 411, 412, 413, 414, 415, 416, 417, 418, 419, 420, 421, 422, 423, 424, 425, 426, 427, 428, 429, 430, 431, 432, 433, 434, 435, 436, 437, 438, 400, 401, 402, 403, 439, 440, 441, 442, 443, 444, 445, 446, 447, 448, 449, 450, 451, 452, 453, 454, 455, 456, 457, 458, 459, 460, 461, 462, 463, 464, 465, 466] rfl (by decide +kernel)
set_option maxRecDepth 20000 in
theorem gX6_grow_X7_list : GoodIn wsX6_grow (wsV RX6 42 RX7 yX7_list wsX7_list) := goodIn_app (goodIn_of _ (by decide +kernel)) ggX6_grow_X7_list
set_option maxRecDepth 20000 in
theorem ggX6_grow_X6_keepNew : GoodIn wsX6_grow wsX6_keepNew := goodIn_r _ [376, 3, 1, 377, 378, 379, 8, 380, 10, 381, 382, 383, 20, 384, 22, 385, 361, 362, 363, 364, 46, 47, 48, 49, 365, 51, 52, 53, 54, 366, 230, 131, 231, 386, 387, 388, 389, 390, 391, 392, 393, 394, 353, 354, 355, 395, 357, 358, 359, 396, 397, 398, 399, 404, 405, 406, 407, 408, 409, 410, 411, 412, 413, 414, 415, 416, 417, 418, 419, 400, 401, 402, 403] rfl (by decide +kernel)
set_option maxRecDepth 20000 in
theorem gX6_grow_X6_keepNew : GoodIn wsX6_grow (wsV RX6 48 RX6 yX6_keepNew wsX6_keepNew) := goodIn_app (goodIn_of _ (by decide +kernel)) ggX6_grow_X6_keepNew
set_option maxRecDepth 20000 in
theorem ggX6_grow_X7_used : GoodIn wsX6_grow wsX7_used := goodIn_r _ [380, 10, 404, 405, 406, 407, 408, 409, 410, 411, 412, 413, 414, 415, 416, 417, 418, 419, 400, 401, 402, 403] rfl (by decide +kernel)
set_option maxRecDepth 20000 in
theorem gX6_grow_X7_used : GoodIn wsX6_grow (wsV RX6 52 RX7 yX7_used wsX7_used) := goodIn_app (goodIn_of _ (by decide +kernel)) ggX6_grow_X7_used
theorem dX6_grow_0 : decode cX6_grow 0 = .ok (.iconst 0, 1) := by decide +kernel
theorem dX6_grow_1 : decode cX6_grow 1 = .ok (.istore_n 3, 1) := by decide +kernel
theorem dX6_grow_2 : decode cX6_grow 2 = .ok (.iload_n 3, 1) := by decide +kernel
theorem dX6_grow_3 : decode cX6_grow 3 = .ok (.iload_n 1, 1) := by decide +kernel
theorem dX6_grow_4 : decode cX6_grow 4 = .ok (.if_icmp .lt 12, 3) := by decide +kernel
theorem dX6_grow_7 : decode cX6_grow 7 = .ok (.iload_n 3, 1) := by decide +kernel
theorem dX6_grow_8 : decode cX6_grow 8 = .ok (.iload_n 1, 1) := by decide +kernel
theorem dX6_grow_9 : decode cX6_grow 9 = .ok (.if_icmp .ne 102, 3) := by decide +kernel
theorem dX6_grow_12 : decode cX6_grow 12 = .ok (.iload_n 2, 1) := by decide +kernel
theorem dX6_grow_13 : decode cX6_grow 13 = .ok (.ifCond .eq 98, 3) := by decide +kernel
theorem dX6_grow_16 : decode cX6_grow 16 = .ok (.aload_n 0, 1) := by decide +kernel
theorem dX6_grow_17 : decode cX6_grow 17 = .ok (.getfield 14, 3) := by decide +kernel
theorem dX6_grow_20 : decode cX6_grow 20 = .ok (.getfield 39, 3) := by decide +kernel
theorem dX6_grow_23 : decode cX6_grow 23 = .ok (.istore 4, 2) := by decide +kernel
theorem dX6_grow_25 : decode cX6_grow 25 = .ok (.aload_n 0, 1) := by decide +kernel
theorem dX6_grow_26 : decode cX6_grow 26 = .ok (.getfield 31, 3) := by decide +kernel
theorem dX6_grow_29 : decode cX6_grow 29 = .ok (.istore 5, 2) := by decide +kernel
theorem dX6_grow_31 : decode cX6_grow 31 = .ok (.iload 5, 2) := by decide +kernel
theorem dX6_grow_33 : decode cX6_grow 33 = .ok (.iload 4, 2) := by decide +kernel
theorem dX6_grow_35 : decode cX6_grow 35 = .ok (.if_icmp .ge 64, 3) := by decide +kernel
theorem dX6_grow_38 : decode cX6_grow 38 = .ok (.aload_n 0, 1) := by decide +kernel
theorem dX6_grow_39 : decode cX6_grow 39 = .ok (.getfield 20, 3) := by decide +kernel
theorem dX6_grow_42 : decode cX6_grow 42 = .ok (.aload_n 0, 1) := by decide +kernel
theorem dX6_grow_43 : decode cX6_grow 43 = .ok (.getfield 14, 3) := by decide +kernel
theorem dX6_grow_46 : decode cX6_grow 46 = .ok (.iload 5, 2) := by decide +kernel
theorem dX6_grow_48 : decode cX6_grow 48 = .ok (.bipush 20, 2) := by decide +kernel
theorem dX6_grow_50 : decode cX6_grow 50 = .ok (.invokevirtual 42, 3) := by decide +kernel
theorem dX6_grow_53 : decode cX6_grow 53 = .ok (.ifCond .eq 15, 3) := by decide +kernel
theorem dX6_grow_56 : decode cX6_grow 56 = .ok (.iload_n 3, 1) := by decide +kernel
theorem dX6_grow_57 : decode cX6_grow 57 = .ok (.iload_n 1, 1) := by decide +kernel
theorem dX6_grow_58 : decode cX6_grow 58 = .ok (.if_icmp .ge 12, 3) := by decide +kernel
theorem dX6_grow_61 : decode cX6_grow 61 = .ok (.aload_n 0, 1) := by decide +kernel
theorem dX6_grow_62 : decode cX6_grow 62 = .ok (.invokevirtual 48, 3) := by decide +kernel
theorem dX6_grow_65 : decode cX6_grow 65 = .ok (.ifCond .ne 5, 3) := by decide +kernel
theorem dX6_grow_68 : decode cX6_grow 68 = .ok (.iconst 0, 1) := by decide +kernel
theorem dX6_grow_69 : decode cX6_grow 69 = .ok (.ireturn, 1) := by decide +kernel
theorem dX6_grow_70 : decode cX6_grow 70 = .ok (.aload_n 0, 1) := by decide +kernel
theorem dX6_grow_71 : decode cX6_grow 71 = .ok (.getfield 20, 3) := by decide +kernel
theorem dX6_grow_74 : decode cX6_grow 74 = .ok (.invokevirtual 52, 3) := by decide +kernel
theorem dX6_grow_77 : decode cX6_grow 77 = .ok (.ifCond .ne 16, 3) := by decide +kernel
theorem dX6_grow_80 : decode cX6_grow 80 = .ok (.aload_n 0, 1) := by decide +kernel
theorem dX6_grow_81 : decode cX6_grow 81 = .ok (.dup, 1) := by decide +kernel
theorem dX6_grow_82 : decode cX6_grow 82 = .ok (.getfield 35, 3) := by decide +kernel
theorem dX6_grow_85 : decode cX6_grow 85 = .ok (.lconst 1, 1) := by decide +kernel
theorem dX6_grow_86 : decode cX6_grow 86 = .ok (.iload 5, 2) := by decide +kernel
theorem dX6_grow_88 : decode cX6_grow 88 = .ok (.lshl, 1) := by decide +kernel
theorem dX6_grow_89 : decode cX6_grow 89 = .ok (.lor, 1) := by decide +kernel
theorem dX6_grow_90 : decode cX6_grow 90 = .ok (.putfield 35, 3) := by decide +kernel
theorem dX6_grow_93 : decode cX6_grow 93 = .ok (.iinc 5 1, 3) := by decide +kernel
theorem dX6_grow_96 : decode cX6_grow 96 = .ok (.goto (-65), 3) := by decide +kernel
theorem dX6_grow_99 : decode cX6_grow 99 = .ok (.aload_n 0, 1) := by decide +kernel
theorem dX6_grow_100 : decode cX6_grow 100 = .ok (.iload 4, 2) := by decide +kernel
theorem dX6_grow_102 : decode cX6_grow 102 = .ok (.putfield 31, 3) := by decide +kernel
theorem dX6_grow_105 : decode cX6_grow 105 = .ok (.iinc 3 1, 3) := by decide +kernel
theorem dX6_grow_108 : decode cX6_grow 108 = .ok (.goto (-106), 3) := by decide +kernel
theorem dX6_grow_111 : decode cX6_grow 111 = .ok (.iconst 1, 1) := by decide +kernel
theorem dX6_grow_112 : decode cX6_grow 112 = .ok (.ireturn, 1) := by decide +kernel
set_option maxRecDepth 20000 in
theorem ggX6_keepNew_X7_used : GoodIn wsX6_keepNew wsX7_used := goodIn_r _ [7, 8, 53, 54, 55, 56, 57, 58, 59, 60, 61, 62, 63, 64, 65, 66, 67, 68, 69, 70, 71, 72] rfl (by decide +kernel)
set_option maxRecDepth 20000 in
theorem gX6_keepNew_X7_used : GoodIn wsX6_keepNew (wsV RX6 52 RX7 yX7_used wsX7_used) := goodIn_app (goodIn_of _ (by decide +kernel)) ggX6_keepNew_X7_used
set_option maxRecDepth 20000 in
theorem ggX6_keepNew_X2_indexOf : GoodIn wsX6_keepNew wsX2_indexOf := goodIn_r _ [13, 14, 15, 16, 17, 12, 18, 19, 20, 21, 22, 23, 24, 25, 26, 27, 28, 29, 30, 31, 32, 69, 70, 71, 72] rfl (by decide +kernel)
set_option maxRecDepth 20000 in
theorem gX6_keepNew_X2_indexOf : GoodIn wsX6_keepNew (wsV RX6 58 RX2 yX2_indexOf wsX2_indexOf) := goodIn_app (goodIn_of _ (by decide +kernel)) ggX6_keepNew_X2_indexOf
set_option maxRecDepth 20000 in
theorem ggX6_keepNew_X2_copy : GoodIn wsX6_keepNew wsX2_copy := goodIn_r _ [36, 19, 20, 21, 12, 22, 14, 23, 37, 38, 39, 40, 41, 42, 43, 44, 24, 25, 26, 27, 28, 45, 46, 47, 48, 69, 70, 71, 72] rfl (by decide +kernel)
set_option maxRecDepth 20000 in
theorem gX6_keepNew_X2_copy : GoodIn wsX6_keepNew (wsV RX6 27 RX2 yX2_copy wsX2_copy) := goodIn_app (goodIn_of _ (by decide +kernel)) ggX6_keepNew_X2_copy
theorem dX6_keepNew_0 : decode cX6_keepNew 0 = .ok (.iconst 0, 1) := by decide +kernel
theorem dX6_keepNew_1 : decode cX6_keepNew 1 = .ok (.istore_n 1, 1) := by decide +kernel
theorem dX6_keepNew_2 : decode cX6_keepNew 2 = .ok (.iload_n 1, 1) := by decide +kernel
theorem dX6_keepNew_3 : decode cX6_keepNew 3 = .ok (.aload_n 0, 1) := by decide +kernel
theorem dX6_keepNew_4 : decode cX6_keepNew 4 = .ok (.getfield 20, 3) := by decide +kernel
theorem dX6_keepNew_7 : decode cX6_keepNew 7 = .ok (.invokevirtual 52, 3) := by decide +kernel
theorem dX6_keepNew_10 : decode cX6_keepNew 10 = .ok (.if_icmp .ge 56, 3) := by decide +kernel
theorem dX6_keepNew_13 : decode cX6_keepNew 13 = .ok (.aload_n 0, 1) := by decide +kernel
theorem dX6_keepNew_14 : decode cX6_keepNew 14 = .ok (.getfield 14, 3) := by decide +kernel
theorem dX6_keepNew_17 : decode cX6_keepNew 17 = .ok (.aload_n 0, 1) := by decide +kernel
theorem dX6_keepNew_18 : decode cX6_keepNew 18 = .ok (.getfield 20, 3) := by decide +kernel
theorem dX6_keepNew_21 : decode cX6_keepNew 21 = .ok (.getfield 55, 3) := by decide +kernel
theorem dX6_keepNew_24 : decode cX6_keepNew 24 = .ok (.iload_n 1, 1) := by decide +kernel
theorem dX6_keepNew_25 : decode cX6_keepNew 25 = .ok (.invokevirtual 58, 3) := by decide +kernel
theorem dX6_keepNew_28 : decode cX6_keepNew 28 = .ok (.ifCond .ge 32, 3) := by decide +kernel
theorem dX6_keepNew_31 : decode cX6_keepNew 31 = .ok (.aload_n 0, 1) := by decide +kernel
theorem dX6_keepNew_32 : decode cX6_keepNew 32 = .ok (.getfield 14, 3) := by decide +kernel
theorem dX6_keepNew_35 : decode cX6_keepNew 35 = .ok (.getfield 39, 3) := by decide +kernel
theorem dX6_keepNew_38 : decode cX6_keepNew 38 = .ok (.bipush 50, 2) := by decide +kernel
theorem dX6_keepNew_40 : decode cX6_keepNew 40 = .ok (.if_icmp .lt 5, 3) := by decide +kernel
theorem dX6_keepNew_43 : decode cX6_keepNew 43 = .ok (.iconst 0, 1) := by decide +kernel
theorem dX6_keepNew_44 : decode cX6_keepNew 44 = .ok (.ireturn, 1) := by decide +kernel
theorem dX6_keepNew_45 : decode cX6_keepNew 45 = .ok (.aload_n 0, 1) := by decide +kernel
theorem dX6_keepNew_46 : decode cX6_keepNew 46 = .ok (.getfield 14, 3) := by decide +kernel
theorem dX6_keepNew_49 : decode cX6_keepNew 49 = .ok (.aload_n 0, 1) := by decide +kernel
theorem dX6_keepNew_50 : decode cX6_keepNew 50 = .ok (.getfield 20, 3) := by decide +kernel
theorem dX6_keepNew_53 : decode cX6_keepNew 53 = .ok (.getfield 55, 3) := by decide +kernel
theorem dX6_keepNew_56 : decode cX6_keepNew 56 = .ok (.iload_n 1, 1) := by decide +kernel
theorem dX6_keepNew_57 : decode cX6_keepNew 57 = .ok (.invokevirtual 27, 3) := by decide +kernel
theorem dX6_keepNew_60 : decode cX6_keepNew 60 = .ok (.iinc 1 1, 3) := by decide +kernel
theorem dX6_keepNew_63 : decode cX6_keepNew 63 = .ok (.goto (-61), 3) := by decide +kernel
theorem dX6_keepNew_66 : decode cX6_keepNew 66 = .ok (.iconst 1, 1) := by decide +kernel
theorem dX6_keepNew_67 : decode cX6_keepNew 67 = .ok (.ireturn, 1) := by decide +kernel
set_option maxRecDepth 20000 in
theorem ggX6_howManyNormal_J13_bitCount_95d88 : GoodIn wsX6_howManyNormal wsJ13_bitCount_95d88 := goodIn_r _ [5, 6, 7, 8] rfl (by decide +kernel)
set_option maxRecDepth 20000 in
theorem gX6_howManyNormal_J13_bitCount_95d88 : GoodIn wsX6_howManyNormal (va_wsS RX6 62 yJ13_bitCount_95d88 wsJ13_bitCount_95d88) := goodIn_app (goodIn_of _ (by decide +kernel)) ggX6_howManyNormal_J13_bitCount_95d88
theorem dX6_howManyNormal_0 : decode cX6_howManyNormal 0 = .ok (.aload_n 0, 1) := by decide +kernel
theorem dX6_howManyNormal_1 : decode cX6_howManyNormal 1 = .ok (.getfield 35, 3) := by decide +kernel
theorem dX6_howManyNormal_4 : decode cX6_howManyNormal 4 = .ok (.invokestatic 62, 3) := by decide +kernel
theorem dX6_howManyNormal_7 : decode cX6_howManyNormal 7 = .ok (.ireturn, 1) := by decide +kernel
set_option maxRecDepth 20000 in
theorem ggX6_meets_X2_indexOf : GoodIn wsX6_meets wsX2_indexOf := goodIn_r _ [6, 7, 8, 9, 10, 5, 11, 12, 13, 14, 15, 16, 17, 18, 19, 20, 21, 22, 23, 24, 25, 30, 31, 32, 33] rfl (by decide +kernel)
set_option maxRecDepth 20000 in
theorem gX6_meets_X2_indexOf : GoodIn wsX6_meets (wsV RX6 58 RX2 yX2_indexOf wsX2_indexOf) := goodIn_app (goodIn_of _ (by decide +kernel)) ggX6_meets_X2_indexOf
theorem dX6_meets_0 : decode cX6_meets 0 = .ok (.iconst 0, 1) := by decide +kernel
theorem dX6_meets_1 : decode cX6_meets 1 = .ok (.istore_n 2, 1) := by decide +kernel
theorem dX6_meets_2 : decode cX6_meets 2 = .ok (.iload_n 2, 1) := by decide +kernel
theorem dX6_meets_3 : decode cX6_meets 3 = .ok (.aload_n 0, 1) := by decide +kernel
theorem dX6_meets_4 : decode cX6_meets 4 = .ok (.getfield 14, 3) := by decide +kernel
theorem dX6_meets_7 : decode cX6_meets 7 = .ok (.getfield 39, 3) := by decide +kernel
theorem dX6_meets_10 : decode cX6_meets 10 = .ok (.if_icmp .ge 26, 3) := by decide +kernel
theorem dX6_meets_13 : decode cX6_meets 13 = .ok (.aload_n 1, 1) := by decide +kernel
theorem dX6_meets_14 : decode cX6_meets 14 = .ok (.getfield 14, 3) := by decide +kernel
theorem dX6_meets_17 : decode cX6_meets 17 = .ok (.aload_n 0, 1) := by decide +kernel
theorem dX6_meets_18 : decode cX6_meets 18 = .ok (.getfield 14, 3) := by decide +kernel
theorem dX6_meets_21 : decode cX6_meets 21 = .ok (.iload_n 2, 1) := by decide +kernel
theorem dX6_meets_22 : decode cX6_meets 22 = .ok (.invokevirtual 58, 3) := by decide +kernel
theorem dX6_meets_25 : decode cX6_meets 25 = .ok (.ifCond .lt 5, 3) := by decide +kernel
theorem dX6_meets_28 : decode cX6_meets 28 = .ok (.iconst 1, 1) := by decide +kernel
theorem dX6_meets_29 : decode cX6_meets 29 = .ok (.ireturn, 1) := by decide +kernel
theorem dX6_meets_30 : decode cX6_meets 30 = .ok (.iinc 2 1, 3) := by decide +kernel
theorem dX6_meets_33 : decode cX6_meets 33 = .ok (.goto (-31), 3) := by decide +kernel
theorem dX6_meets_36 : decode cX6_meets 36 = .ok (.iconst 0, 1) := by decide +kernel
theorem dX6_meets_37 : decode cX6_meets 37 = .ok (.ireturn, 1) := by decide +kernel
