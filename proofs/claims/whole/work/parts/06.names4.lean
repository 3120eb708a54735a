theorem dX6_partOfFraction_0 : decode cX6_partOfFraction 0 = .ok (.iload_n 0, 1) := by decide +kernel
theorem dX6_partOfFraction_1 : decode cX6_partOfFraction 1 = .ok (.invokestatic 284, 3) := by decide +kernel
theorem dX6_partOfFraction_4 : decode cX6_partOfFraction 4 = .ok (.iload_n 1, 1) := by decide +kernel
theorem dX6_partOfFraction_5 : decode cX6_partOfFraction 5 = .ok (.invokestatic 287, 3) := by decide +kernel
theorem dX6_partOfFraction_8 : decode cX6_partOfFraction 8 = .ok (.istore_n 3, 1) := by decide +kernel
theorem dX6_partOfFraction_9 : decode cX6_partOfFraction 9 = .ok (.iload_n 3, 1) := by decide +kernel
theorem dX6_partOfFraction_10 : decode cX6_partOfFraction 10 = .ok (.ifCond .ne 5, 3) := by decide +kernel
theorem dX6_partOfFraction_13 : decode cX6_partOfFraction 13 = .ok (.iconst 0, 1) := by decide +kernel
theorem dX6_partOfFraction_14 : decode cX6_partOfFraction 14 = .ok (.ireturn, 1) := by decide +kernel
theorem dX6_partOfFraction_15 : decode cX6_partOfFraction 15 = .ok (.iload_n 2, 1) := by decide +kernel
theorem dX6_partOfFraction_16 : decode cX6_partOfFraction 16 = .ok (.ifCond .eq 9, 3) := by decide +kernel
theorem dX6_partOfFraction_19 : decode cX6_partOfFraction 19 = .ok (.iload_n 0, 1) := by decide +kernel
theorem dX6_partOfFraction_20 : decode cX6_partOfFraction 20 = .ok (.iload_n 3, 1) := by decide +kernel
theorem dX6_partOfFraction_21 : decode cX6_partOfFraction 21 = .ok (.idiv, 1) := by decide +kernel
theorem dX6_partOfFraction_22 : decode cX6_partOfFraction 22 = .ok (.goto 6, 3) := by decide +kernel
theorem dX6_partOfFraction_25 : decode cX6_partOfFraction 25 = .ok (.iload_n 1, 1) := by decide +kernel
theorem dX6_partOfFraction_26 : decode cX6_partOfFraction 26 = .ok (.iload_n 3, 1) := by decide +kernel
theorem dX6_partOfFraction_27 : decode cX6_partOfFraction 27 = .ok (.idiv, 1) := by decide +kernel
theorem dX6_partOfFraction_28 : decode cX6_partOfFraction 28 = .ok (.ireturn, 1) := by decide +kernel
theorem dX6_commonDivisor_0 : decode cX6_commonDivisor 0 = .ok (.iload_n 0, 1) := by decide +kernel
theorem dX6_commonDivisor_1 : decode cX6_commonDivisor 1 = .ok (.istore_n 2, 1) := by decide +kernel
theorem dX6_commonDivisor_2 : decode cX6_commonDivisor 2 = .ok (.iload_n 1, 1) := by decide +kernel
theorem dX6_commonDivisor_3 : decode cX6_commonDivisor 3 = .ok (.istore_n 3, 1) := by decide +kernel
theorem dX6_commonDivisor_4 : decode cX6_commonDivisor 4 = .ok (.iconst 0, 1) := by decide +kernel
theorem dX6_commonDivisor_5 : decode cX6_commonDivisor 5 = .ok (.istore 4, 2) := by decide +kernel
theorem dX6_commonDivisor_7 : decode cX6_commonDivisor 7 = .ok (.iload 4, 2) := by decide +kernel
theorem dX6_commonDivisor_9 : decode cX6_commonDivisor 9 = .ok (.bipush 64, 2) := by decide +kernel
theorem dX6_commonDivisor_11 : decode cX6_commonDivisor 11 = .ok (.if_icmp .ge 23, 3) := by decide +kernel
theorem dX6_commonDivisor_14 : decode cX6_commonDivisor 14 = .ok (.iload_n 3, 1) := by decide +kernel
theorem dX6_commonDivisor_15 : decode cX6_commonDivisor 15 = .ok (.ifCond .eq 19, 3) := by decide +kernel
theorem dX6_commonDivisor_18 : decode cX6_commonDivisor 18 = .ok (.iload_n 2, 1) := by decide +kernel
theorem dX6_commonDivisor_19 : decode cX6_commonDivisor 19 = .ok (.iload_n 3, 1) := by decide +kernel
theorem dX6_commonDivisor_20 : decode cX6_commonDivisor 20 = .ok (.irem, 1) := by decide +kernel
theorem dX6_commonDivisor_21 : decode cX6_commonDivisor 21 = .ok (.istore 5, 2) := by decide +kernel
theorem dX6_commonDivisor_23 : decode cX6_commonDivisor 23 = .ok (.iload_n 3, 1) := by decide +kernel
theorem dX6_commonDivisor_24 : decode cX6_commonDivisor 24 = .ok (.istore_n 2, 1) := by decide +kernel
theorem dX6_commonDivisor_25 : decode cX6_commonDivisor 25 = .ok (.iload 5, 2) := by decide +kernel
theorem dX6_commonDivisor_27 : decode cX6_commonDivisor 27 = .ok (.istore_n 3, 1) := by decide +kernel
theorem dX6_commonDivisor_28 : decode cX6_commonDivisor 28 = .ok (.iinc 4 1, 3) := by decide +kernel
theorem dX6_commonDivisor_31 : decode cX6_commonDivisor 31 = .ok (.goto (-24), 3) := by decide +kernel
theorem dX6_commonDivisor_34 : decode cX6_commonDivisor 34 = .ok (.iload_n 2, 1) := by decide +kernel
theorem dX6_commonDivisor_35 : decode cX6_commonDivisor 35 = .ok (.ireturn, 1) := by decide +kernel
theorem dX6_seed_0 : decode cX6_seed 0 = .ok (.aload_n 0, 1) := by decide +kernel
theorem dX6_seed_1 : decode cX6_seed 1 = .ok (.getfield 290, 3) := by decide +kernel
theorem dX6_seed_4 : decode cX6_seed 4 = .ok (.lstore_n 3, 1) := by decide +kernel
theorem dX6_seed_5 : decode cX6_seed 5 = .ok (.aload_n 0, 1) := by decide +kernel
theorem dX6_seed_6 : decode cX6_seed 6 = .ok (.lload_n 1, 1) := by decide +kernel
theorem dX6_seed_7 : decode cX6_seed 7 = .ok (.putfield 290, 3) := by decide +kernel
theorem dX6_seed_10 : decode cX6_seed 10 = .ok (.lload_n 3, 1) := by decide +kernel
theorem dX6_seed_11 : decode cX6_seed 11 = .ok (.lreturn, 1) := by decide +kernel
set_option maxRecDepth 20000 in
theorem ggX6_drawn_X1_copyFrom : GoodIn wsX6_drawn wsX1_copyFrom := goodIn_r _ [10, 11, 12, 13, 14, 15, 16, 17, 18, 229, 230, 231, 232] (by decide +kernel) (by decide +kernel)
set_option maxRecDepth 20000 in
theorem gX6_drawn_X1_copyFrom : GoodIn wsX6_drawn (wsV RX6 90 RX1 yX1_copyFrom wsX1_copyFrom) := goodIn_app (goodIn_of _ (by decide +kernel)) ggX6_drawn_X1_copyFrom
set_option maxRecDepth 20000 in
theorem ggX6_drawn_X6_foundAfterDraw : GoodIn wsX6_drawn wsX6_foundAfterDraw := goodIn_r _ [23, 1, 24, 25, 26, 9, 27, 12, 28, 29, 30, 31, 11, 32, 33, 34, 35, 36, 37, 38, 39, 18, 40, 41, 42, 43, 44, 45, 46, 47, 13, 48, 49, 50, 51, 52, 53, 54, 55, 56, 57, 58, 59, 60, 61, 62, 63, 64, 65, 66, 67, 68, 69, 70, 71, 72, 73, 74, 75, 76, 77, 78, 79, 80, 81, 82, 83, 84, 85, 86, 87, 88, 89, 90, 91, 92, 93, 94, 95, 96, 97, 98, 99, 100, 101, 102, 103, 104, 105, 106, 107, 108, 109, 110, 111, 112, 113, 114, 115, 116, 117, 118, 119, 120, 121, 122, 123, 124, 125, 126, 127, 128, 129, 130, 131, 132, 133, 134, 135, 136, 137, 138, 139, 140, 141, 142, 143, 144, 145, 146, 147, 148, 149, 150, 151, 152, 153, 154, 155, 156, 157, 158, 159, 160, 161, 162, 163, 164, 165, 166, 167, 168, 169, 170, 171, 172, 173, 174, 175, 176, 177, 178, 179, 180, 181, 182, 183, 184, 185, 186, 187, 188, 189, 190, 191, 192, 193, 194, 195, 196, 197, 198, 199, 200, 201, 202, 203, 204, 205, 206, 207, 208, 209, 210, 211, 212, 213, 214, 215, 216, 217, 218, 219, 220, 221, 222, 223, 224, 225, 226, 227, 228, 229, 230, 231, 232] (by decide +kernel) (by decide +kernel)
set_option maxRecDepth 20000 in
theorem gX6_drawn_X6_foundAfterDraw : GoodIn wsX6_drawn (wsV RX6 298 RX6 yX6_foundAfterDraw wsX6_foundAfterDraw) := goodIn_app (goodIn_of _ (by decide +kernel)) ggX6_drawn_X6_foundAfterDraw
theorem dX6_drawn_0 : decode cX6_drawn 0 = .ok (.iload_n 1, 1) := by decide +kernel
theorem dX6_drawn_1 : decode cX6_drawn 1 = .ok (.iconst 1, 1) := by decide +kernel
theorem dX6_drawn_2 : decode cX6_drawn 2 = .ok (.if_icmp .lt 9, 3) := by decide +kernel
theorem dX6_drawn_5 : decode cX6_drawn 5 = .ok (.iload_n 1, 1) := by decide +kernel
theorem dX6_drawn_6 : decode cX6_drawn 6 = .ok (.bipush 20, 2) := by decide +kernel
theorem dX6_drawn_8 : decode cX6_drawn 8 = .ok (.if_icmp .le 6, 3) := by decide +kernel
theorem dX6_drawn_11 : decode cX6_drawn 11 = .ok (.bipush (-2), 2) := by decide +kernel
theorem dX6_drawn_13 : decode cX6_drawn 13 = .ok (.ireturn, 1) := by decide +kernel
theorem dX6_drawn_14 : decode cX6_drawn 14 = .ok (.aload_n 0, 1) := by decide +kernel
theorem dX6_drawn_15 : decode cX6_drawn 15 = .ok (.getfield 30, 3) := by decide +kernel
theorem dX6_drawn_18 : decode cX6_drawn 18 = .ok (.getfield 87, 3) := by decide +kernel
theorem dX6_drawn_21 : decode cX6_drawn 21 = .ok (.aload_n 0, 1) := by decide +kernel
theorem dX6_drawn_22 : decode cX6_drawn 22 = .ok (.getfield 26, 3) := by decide +kernel
theorem dX6_drawn_25 : decode cX6_drawn 25 = .ok (.getfield 87, 3) := by decide +kernel
theorem dX6_drawn_28 : decode cX6_drawn 28 = .ok (.invokevirtual 90, 3) := by decide +kernel
theorem dX6_drawn_31 : decode cX6_drawn 31 = .ok (.iconst 0, 1) := by decide +kernel
theorem dX6_drawn_32 : decode cX6_drawn 32 = .ok (.istore_n 2, 1) := by decide +kernel
theorem dX6_drawn_33 : decode cX6_drawn 33 = .ok (.iconst 0, 1) := by decide +kernel
theorem dX6_drawn_34 : decode cX6_drawn 34 = .ok (.istore_n 3, 1) := by decide +kernel
theorem dX6_drawn_35 : decode cX6_drawn 35 = .ok (.iload_n 3, 1) := by decide +kernel
theorem dX6_drawn_36 : decode cX6_drawn 36 = .ok (.iload_n 1, 1) := by decide +kernel
theorem dX6_drawn_37 : decode cX6_drawn 37 = .ok (.if_icmp .ge 40, 3) := by decide +kernel
theorem dX6_drawn_40 : decode cX6_drawn 40 = .ok (.aload_n 0, 1) := by decide +kernel
theorem dX6_drawn_41 : decode cX6_drawn 41 = .ok (.aload_n 0, 1) := by decide +kernel
theorem dX6_drawn_42 : decode cX6_drawn 42 = .ok (.getfield 290, 3) := by decide +kernel
theorem dX6_drawn_45 : decode cX6_drawn 45 = .ok (.ldc2_w 294, 3) := by decide +kernel
theorem dX6_drawn_48 : decode cX6_drawn 48 = .ok (.lmul, 1) := by decide +kernel
theorem dX6_drawn_49 : decode cX6_drawn 49 = .ok (.ldc2_w 296, 3) := by decide +kernel
theorem dX6_drawn_52 : decode cX6_drawn 52 = .ok (.ladd, 1) := by decide +kernel
theorem dX6_drawn_53 : decode cX6_drawn 53 = .ok (.putfield 290, 3) := by decide +kernel
theorem dX6_drawn_56 : decode cX6_drawn 56 = .ok (.iload_n 2, 1) := by decide +kernel
theorem dX6_drawn_57 : decode cX6_drawn 57 = .ok (.aload_n 0, 1) := by decide +kernel
theorem dX6_drawn_58 : decode cX6_drawn 58 = .ok (.aload_n 0, 1) := by decide +kernel
theorem dX6_drawn_59 : decode cX6_drawn 59 = .ok (.getfield 290, 3) := by decide +kernel
theorem dX6_drawn_62 : decode cX6_drawn 62 = .ok (.bipush 33, 2) := by decide +kernel
theorem dX6_drawn_64 : decode cX6_drawn 64 = .ok (.lushr, 1) := by decide +kernel
theorem dX6_drawn_65 : decode cX6_drawn 65 = .ok (.l2i, 1) := by decide +kernel
theorem dX6_drawn_66 : decode cX6_drawn 66 = .ok (.invokevirtual 298, 3) := by decide +kernel
theorem dX6_drawn_69 : decode cX6_drawn 69 = .ok (.iadd, 1) := by decide +kernel
theorem dX6_drawn_70 : decode cX6_drawn 70 = .ok (.istore_n 2, 1) := by decide +kernel
theorem dX6_drawn_71 : decode cX6_drawn 71 = .ok (.iinc 3 1, 3) := by decide +kernel
theorem dX6_drawn_74 : decode cX6_drawn 74 = .ok (.goto (-39), 3) := by decide +kernel
theorem dX6_drawn_77 : decode cX6_drawn 77 = .ok (.iload_n 2, 1) := by decide +kernel
theorem dX6_drawn_78 : decode cX6_drawn 78 = .ok (.ireturn, 1) := by decide +kernel
set_option maxRecDepth 20000 in
theorem ggX6_foundAfterDraw_X1_notes : GoodIn wsX6_foundAfterDraw wsX1_notes := goodIn_r _ [6, 7, 212, 213, 214, 215] (by decide +kernel) (by decide +kernel)
set_option maxRecDepth 20000 in
theorem gX6_foundAfterDraw_X1_notes : GoodIn wsX6_foundAfterDraw (wsV RX6 98 RX1 yX1_notes wsX1_notes) := goodIn_app (goodIn_of _ (by decide +kernel)) ggX6_foundAfterDraw_X1_notes
set_option maxRecDepth 20000 in
theorem ggX6_foundAfterDraw_X1_shiftNote : GoodIn wsX6_foundAfterDraw wsX1_shiftNote := goodIn_r _ [11, 12, 13, 14, 15, 5, 16, 7, 17, 18, 19, 20, 21, 22, 23, 24, 25, 26, 27, 28, 29, 30, 31, 32, 33, 34, 35, 36, 37, 38, 39, 40, 41, 42, 43, 44, 45, 46, 47, 48, 49, 50, 51, 52, 212, 213, 214, 215] (by decide +kernel) (by decide +kernel)
set_option maxRecDepth 20000 in
theorem gX6_foundAfterDraw_X1_shiftNote : GoodIn wsX6_foundAfterDraw (wsV RX6 142 RX1 yX1_shiftNote wsX1_shiftNote) := goodIn_app (goodIn_of _ (by decide +kernel)) ggX6_foundAfterDraw_X1_shiftNote
set_option maxRecDepth 20000 in
theorem ggX6_foundAfterDraw_X4_study : GoodIn wsX6_foundAfterDraw wsX4_study := goodIn_r _ [57, 58, 59, 60, 61, 62, 5, 63, 12, 64, 65, 66, 56, 67, 68, 69, 70, 71, 72, 73, 74, 75, 76, 77, 78, 79, 80, 81, 82, 83, 7, 26, 27, 28, 29, 30, 50, 51, 52, 84, 85, 86, 87, 21, 31, 32, 33, 34, 88, 89, 90, 91, 92, 93, 94, 95, 96, 97, 98, 99, 100, 101, 102, 3, 4, 6, 103, 104, 105, 106, 107, 108, 109, 110, 111, 112, 113, 114, 115, 116, 117, 118, 119, 120, 121, 122, 123, 124, 125, 126, 127, 128, 129, 130, 131, 132, 133, 134, 135, 136, 137, 138, 139, 140, 141, 36, 37, 142, 143, 144, 145, 146, 147, 148, 149, 150, 151, 152, 153, 154, 155, 156, 157, 158, 159, 160, 161, 162, 163, 164, 165, 166, 167, 168, 169, 170, 171, 172, 173, 174, 196, 197, 198, 199, 200, 201, 202, 203, 204, 205, 206, 207, 208, 209, 210, 211, 212, 213, 214, 215] (by decide +kernel) (by decide +kernel)
set_option maxRecDepth 20000 in
theorem gX6_foundAfterDraw_X4_study : GoodIn wsX6_foundAfterDraw (wsV RX6 146 RX4 yX4_study wsX4_study) := goodIn_app (goodIn_of _ (by decide +kernel)) ggX6_foundAfterDraw_X4_study
set_option maxRecDepth 20000 in
theorem ggX6_foundAfterDraw_X4_alive : GoodIn wsX6_foundAfterDraw wsX4_alive := goodIn_r _ [178, 70, 196, 197, 198, 199, 200, 201, 202, 203, 204, 205, 206, 207, 208, 209, 210, 211] (by decide +kernel) (by decide +kernel)
set_option maxRecDepth 20000 in
theorem gX6_foundAfterDraw_X4_alive : GoodIn wsX6_foundAfterDraw (wsV RX6 281 RX4 yX4_alive wsX4_alive) := goodIn_app (goodIn_of _ (by decide +kernel)) ggX6_foundAfterDraw_X4_alive
theorem dX6_foundAfterDraw_0 : decode cX6_foundAfterDraw 0 = .ok (.aload_n 0, 1) := by decide +kernel
theorem dX6_foundAfterDraw_1 : decode cX6_foundAfterDraw 1 = .ok (.getfield 30, 3) := by decide +kernel
theorem dX6_foundAfterDraw_4 : decode cX6_foundAfterDraw 4 = .ok (.getfield 87, 3) := by decide +kernel
theorem dX6_foundAfterDraw_7 : decode cX6_foundAfterDraw 7 = .ok (.invokevirtual 98, 3) := by decide +kernel
theorem dX6_foundAfterDraw_10 : decode cX6_foundAfterDraw 10 = .ok (.istore_n 2, 1) := by decide +kernel
theorem dX6_foundAfterDraw_11 : decode cX6_foundAfterDraw 11 = .ok (.iload_n 2, 1) := by decide +kernel
theorem dX6_foundAfterDraw_12 : decode cX6_foundAfterDraw 12 = .ok (.ifCond .gt 5, 3) := by decide +kernel
theorem dX6_foundAfterDraw_15 : decode cX6_foundAfterDraw 15 = .ok (.iconst 0, 1) := by decide +kernel
theorem dX6_foundAfterDraw_16 : decode cX6_foundAfterDraw 16 = .ok (.ireturn, 1) := by decide +kernel
theorem dX6_foundAfterDraw_17 : decode cX6_foundAfterDraw 17 = .ok (.aload_n 0, 1) := by decide +kernel
theorem dX6_foundAfterDraw_18 : decode cX6_foundAfterDraw 18 = .ok (.getfield 30, 3) := by decide +kernel
theorem dX6_foundAfterDraw_21 : decode cX6_foundAfterDraw 21 = .ok (.getfield 87, 3) := by decide +kernel
theorem dX6_foundAfterDraw_24 : decode cX6_foundAfterDraw 24 = .ok (.iload_n 1, 1) := by decide +kernel
theorem dX6_foundAfterDraw_25 : decode cX6_foundAfterDraw 25 = .ok (.iload_n 2, 1) := by decide +kernel
theorem dX6_foundAfterDraw_26 : decode cX6_foundAfterDraw 26 = .ok (.irem, 1) := by decide +kernel
theorem dX6_foundAfterDraw_27 : decode cX6_foundAfterDraw 27 = .ok (.iload_n 1, 1) := by decide +kernel
theorem dX6_foundAfterDraw_28 : decode cX6_foundAfterDraw 28 = .ok (.bipush 16, 2) := by decide +kernel
theorem dX6_foundAfterDraw_30 : decode cX6_foundAfterDraw 30 = .ok (.idiv, 1) := by decide +kernel
theorem dX6_foundAfterDraw_31 : decode cX6_foundAfterDraw 31 = .ok (.iload_n 2, 1) := by decide +kernel
theorem dX6_foundAfterDraw_32 : decode cX6_foundAfterDraw 32 = .ok (.irem, 1) := by decide +kernel
theorem dX6_foundAfterDraw_33 : decode cX6_foundAfterDraw 33 = .ok (.iload_n 1, 1) := by decide +kernel
theorem dX6_foundAfterDraw_34 : decode cX6_foundAfterDraw 34 = .ok (.sipush 256, 3) := by decide +kernel
theorem dX6_foundAfterDraw_37 : decode cX6_foundAfterDraw 37 = .ok (.idiv, 1) := by decide +kernel
theorem dX6_foundAfterDraw_38 : decode cX6_foundAfterDraw 38 = .ok (.iconst 2, 1) := by decide +kernel
theorem dX6_foundAfterDraw_39 : decode cX6_foundAfterDraw 39 = .ok (.irem, 1) := by decide +kernel
theorem dX6_foundAfterDraw_40 : decode cX6_foundAfterDraw 40 = .ok (.invokevirtual 142, 3) := by decide +kernel
theorem dX6_foundAfterDraw_43 : decode cX6_foundAfterDraw 43 = .ok (.aload_n 0, 1) := by decide +kernel
theorem dX6_foundAfterDraw_44 : decode cX6_foundAfterDraw 44 = .ok (.getfield 30, 3) := by decide +kernel
theorem dX6_foundAfterDraw_47 : decode cX6_foundAfterDraw 47 = .ok (.invokevirtual 146, 3) := by decide +kernel
theorem dX6_foundAfterDraw_50 : decode cX6_foundAfterDraw 50 = .ok (.aload_n 0, 1) := by decide +kernel
theorem dX6_foundAfterDraw_51 : decode cX6_foundAfterDraw 51 = .ok (.getfield 30, 3) := by decide +kernel
theorem dX6_foundAfterDraw_54 : decode cX6_foundAfterDraw 54 = .ok (.invokevirtual 281, 3) := by decide +kernel
theorem dX6_foundAfterDraw_57 : decode cX6_foundAfterDraw 57 = .ok (.ireturn, 1) := by decide +kernel
set_option maxRecDepth 20000 in
theorem ggX6_keep_X3_store : GoodIn wsX6_keep wsX3_store := goodIn_r _ [7, 8, 9, 10, 11, 12, 13, 14, 15, 16, 17, 18, 19, 20, 21, 22, 23, 24, 25, 26, 27, 28, 63, 64, 65, 66, 67, 68, 69, 70, 71] (by decide +kernel) (by decide +kernel)
set_option maxRecDepth 20000 in
theorem gX6_keep_X3_store : GoodIn wsX6_keep (wsV RX6 173 RX3 yX3_store wsX3_store) := goodIn_app (goodIn_of _ (by decide +kernel)) ggX6_keep_X3_store
set_option maxRecDepth 20000 in
theorem ggX6_keep_X1_notes : GoodIn wsX6_keep wsX1_notes := goodIn_r _ [17, 18, 68, 69, 70, 71] (by decide +kernel) (by decide +kernel)
set_option maxRecDepth 20000 in
theorem gX6_keep_X1_notes : GoodIn wsX6_keep (wsV RX6 98 RX1 yX1_notes wsX1_notes) := goodIn_app (goodIn_of _ (by decide +kernel)) ggX6_keep_X1_notes
theorem dX6_keep_0 : decode cX6_keep 0 = .ok (.iload_n 1, 1) := by decide +kernel
theorem dX6_keep_1 : decode cX6_keep 1 = .ok (.ifCond .lt 8, 3) := by decide +kernel
theorem dX6_keep_4 : decode cX6_keep 4 = .ok (.iload_n 1, 1) := by decide +kernel
theorem dX6_keep_5 : decode cX6_keep 5 = .ok (.iconst 2, 1) := by decide +kernel
theorem dX6_keep_6 : decode cX6_keep 6 = .ok (.if_icmp .lt 5, 3) := by decide +kernel
theorem dX6_keep_9 : decode cX6_keep 9 = .ok (.iconst (-1), 1) := by decide +kernel
theorem dX6_keep_10 : decode cX6_keep 10 = .ok (.ireturn, 1) := by decide +kernel
theorem dX6_keep_11 : decode cX6_keep 11 = .ok (.aload_n 0, 1) := by decide +kernel
theorem dX6_keep_12 : decode cX6_keep 12 = .ok (.getfield 49, 3) := by decide +kernel
theorem dX6_keep_15 : decode cX6_keep 15 = .ok (.iload_n 1, 1) := by decide +kernel
theorem dX6_keep_16 : decode cX6_keep 16 = .ok (.aload_n 0, 1) := by decide +kernel
theorem dX6_keep_17 : decode cX6_keep 17 = .ok (.getfield 26, 3) := by decide +kernel
theorem dX6_keep_20 : decode cX6_keep 20 = .ok (.getfield 87, 3) := by decide +kernel
theorem dX6_keep_23 : decode cX6_keep 23 = .ok (.invokevirtual 173, 3) := by decide +kernel
theorem dX6_keep_26 : decode cX6_keep 26 = .ok (.aload_n 0, 1) := by decide +kernel
theorem dX6_keep_27 : decode cX6_keep 27 = .ok (.getfield 26, 3) := by decide +kernel
theorem dX6_keep_30 : decode cX6_keep 30 = .ok (.getfield 87, 3) := by decide +kernel
theorem dX6_keep_33 : decode cX6_keep 33 = .ok (.invokevirtual 98, 3) := by decide +kernel
theorem dX6_keep_36 : decode cX6_keep 36 = .ok (.ireturn, 1) := by decide +kernel
set_option maxRecDepth 20000 in
theorem ggX6_again_X3_holds : GoodIn wsX6_again wsX3_holds := goodIn_r _ [8, 9, 10, 68, 69, 70, 71, 72] (by decide +kernel) (by decide +kernel)
set_option maxRecDepth 20000 in
theorem gX6_again_X3_holds : GoodIn wsX6_again (wsV RX6 301 RX3 yX3_holds wsX3_holds) := goodIn_app (goodIn_of _ (by decide +kernel)) ggX6_again_X3_holds
set_option maxRecDepth 20000 in
theorem ggX6_again_X3_fetch : GoodIn wsX6_again wsX3_fetch := goodIn_r _ [14, 9, 10, 15, 16, 17, 18, 19, 20, 21, 22, 23, 24, 25, 26, 27, 28, 29, 30, 68, 69, 70, 71, 72, 73, 74, 75, 76] (by decide +kernel) (by decide +kernel)
set_option maxRecDepth 20000 in
theorem gX6_again_X3_fetch : GoodIn wsX6_again (wsV RX6 169 RX3 yX3_fetch wsX3_fetch) := goodIn_app (goodIn_of _ (by decide +kernel)) ggX6_again_X3_fetch
set_option maxRecDepth 20000 in
theorem ggX6_again_X1_notes : GoodIn wsX6_again wsX1_notes := goodIn_r _ [34, 24, 73, 74, 75, 76] (by decide +kernel) (by decide +kernel)
set_option maxRecDepth 20000 in
theorem gX6_again_X1_notes : GoodIn wsX6_again (wsV RX6 98 RX1 yX1_notes wsX1_notes) := goodIn_app (goodIn_of _ (by decide +kernel)) ggX6_again_X1_notes
theorem dX6_again_0 : decode cX6_again 0 = .ok (.iload_n 1, 1) := by decide +kernel
theorem dX6_again_1 : decode cX6_again 1 = .ok (.ifCond .lt 8, 3) := by decide +kernel
theorem dX6_again_4 : decode cX6_again 4 = .ok (.iload_n 1, 1) := by decide +kernel
theorem dX6_again_5 : decode cX6_again 5 = .ok (.iconst 2, 1) := by decide +kernel
theorem dX6_again_6 : decode cX6_again 6 = .ok (.if_icmp .lt 5, 3) := by decide +kernel
theorem dX6_again_9 : decode cX6_again 9 = .ok (.iconst (-1), 1) := by decide +kernel
theorem dX6_again_10 : decode cX6_again 10 = .ok (.ireturn, 1) := by decide +kernel
theorem dX6_again_11 : decode cX6_again 11 = .ok (.aload_n 0, 1) := by decide +kernel
theorem dX6_again_12 : decode cX6_again 12 = .ok (.getfield 49, 3) := by decide +kernel
theorem dX6_again_15 : decode cX6_again 15 = .ok (.iload_n 1, 1) := by decide +kernel
theorem dX6_again_16 : decode cX6_again 16 = .ok (.invokevirtual 301, 3) := by decide +kernel
theorem dX6_again_19 : decode cX6_again 19 = .ok (.ifCond .ne 6, 3) := by decide +kernel
theorem dX6_again_22 : decode cX6_again 22 = .ok (.bipush (-3), 2) := by decide +kernel
theorem dX6_again_24 : decode cX6_again 24 = .ok (.ireturn, 1) := by decide +kernel
theorem dX6_again_25 : decode cX6_again 25 = .ok (.aload_n 0, 1) := by decide +kernel
theorem dX6_again_26 : decode cX6_again 26 = .ok (.getfield 49, 3) := by decide +kernel
theorem dX6_again_29 : decode cX6_again 29 = .ok (.iload_n 1, 1) := by decide +kernel
theorem dX6_again_30 : decode cX6_again 30 = .ok (.aload_n 0, 1) := by decide +kernel
theorem dX6_again_31 : decode cX6_again 31 = .ok (.getfield 26, 3) := by decide +kernel
theorem dX6_again_34 : decode cX6_again 34 = .ok (.getfield 87, 3) := by decide +kernel
theorem dX6_again_37 : decode cX6_again 37 = .ok (.invokevirtual 169, 3) := by decide +kernel
theorem dX6_again_40 : decode cX6_again 40 = .ok (.aload_n 0, 1) := by decide +kernel
theorem dX6_again_41 : decode cX6_again 41 = .ok (.iconst 0, 1) := by decide +kernel
theorem dX6_again_42 : decode cX6_again 42 = .ok (.putfield 95, 3) := by decide +kernel
theorem dX6_again_45 : decode cX6_again 45 = .ok (.aload_n 0, 1) := by decide +kernel
theorem dX6_again_46 : decode cX6_again 46 = .ok (.getfield 26, 3) := by decide +kernel
theorem dX6_again_49 : decode cX6_again 49 = .ok (.getfield 87, 3) := by decide +kernel
theorem dX6_again_52 : decode cX6_again 52 = .ok (.invokevirtual 98, 3) := by decide +kernel
theorem dX6_again_55 : decode cX6_again 55 = .ok (.ireturn, 1) := by decide +kernel
set_option maxRecDepth 20000 in
theorem ggX6_count_X5_length : GoodIn wsX6_count wsX5_length := goodIn_r _ [9, 10, 232, 233, 234, 235] (by decide +kernel) (by decide +kernel)
set_option maxRecDepth 20000 in
theorem gX6_count_X5_length : GoodIn wsX6_count (wsV RX6 76 RX5 yX5_length wsX5_length) := goodIn_app (goodIn_of _ (by decide +kernel)) ggX6_count_X5_length
set_option maxRecDepth 20000 in
theorem ggX6_count_X1_notes : GoodIn wsX6_count wsX1_notes := goodIn_r _ [15, 16, 236, 237, 238, 239] (by decide +kernel) (by decide +kernel)
set_option maxRecDepth 20000 in
theorem gX6_count_X1_notes : GoodIn wsX6_count (wsV RX6 98 RX1 yX1_notes wsX1_notes) := goodIn_app (goodIn_of _ (by decide +kernel)) ggX6_count_X1_notes
set_option maxRecDepth 20000 in
theorem ggX6_count_X6_countFound : GoodIn wsX6_count wsX6_countFound := goodIn_r _ [21, 2, 22, 23, 24, 25, 26, 27, 28, 29, 30, 31, 14, 32, 33, 34, 35, 36, 37, 38, 39, 40, 41, 42, 43, 44, 45, 46, 47, 48, 49, 50, 51, 52, 53, 16, 54, 55, 56, 57, 58, 59, 60, 61, 62, 63, 64, 65, 66, 67, 68, 69, 70, 71, 72, 73, 74, 75, 76, 77, 78, 79, 80, 81, 82, 83, 84, 85, 12, 13, 15, 86, 87, 88, 89, 90, 91, 92, 93, 94, 95, 96, 97, 98, 99, 100, 101, 102, 103, 104, 105, 106, 107, 108, 109, 110, 111, 112, 113, 114, 115, 116, 117, 118, 119, 120, 121, 122, 123, 124, 125, 126, 127, 128, 129, 130, 131, 132, 133, 134, 135, 136, 137, 138, 139, 140, 141, 142, 143, 144, 145, 146, 147, 148, 149, 150, 151, 152, 153, 154, 155, 156, 157, 158, 159, 160, 161, 162, 163, 164, 165, 166, 167, 168, 169, 170, 171, 172, 173, 174, 175, 176, 177, 178, 179, 180, 181, 182, 183, 184, 185, 186, 187, 188, 189, 190, 191, 192, 193, 194, 195, 196, 197, 198, 199, 200, 201, 202, 203, 204, 205, 206, 207, 208, 209, 210, 211, 212, 213, 214, 215, 216, 217, 218, 219, 220, 221, 222, 223, 224, 225, 226, 227, 228, 229, 230, 231, 236, 237, 238, 239] (by decide +kernel) (by decide +kernel)
set_option maxRecDepth 20000 in
theorem gX6_count_X6_countFound : GoodIn wsX6_count (wsV RX6 304 RX6 yX6_countFound wsX6_countFound) := goodIn_app (goodIn_of _ (by decide +kernel)) ggX6_count_X6_countFound
theorem dX6_count_0 : decode cX6_count 0 = .ok (.iload_n 1, 1) := by decide +kernel
theorem dX6_count_1 : decode cX6_count 1 = .ok (.tableswitch 76 0 7 #[47, 55, 76, 76, 76, 76, 66, 71], 47) := by decide +kernel
theorem dX6_count_48 : decode cX6_count 48 = .ok (.aload_n 0, 1) := by decide +kernel
theorem dX6_count_49 : decode cX6_count 49 = .ok (.getfield 10, 3) := by decide +kernel
theorem dX6_count_52 : decode cX6_count 52 = .ok (.invokevirtual 76, 3) := by decide +kernel
theorem dX6_count_55 : decode cX6_count 55 = .ok (.ireturn, 1) := by decide +kernel
theorem dX6_count_56 : decode cX6_count 56 = .ok (.aload_n 0, 1) := by decide +kernel
theorem dX6_count_57 : decode cX6_count 57 = .ok (.getfield 26, 3) := by decide +kernel
theorem dX6_count_60 : decode cX6_count 60 = .ok (.getfield 87, 3) := by decide +kernel
theorem dX6_count_63 : decode cX6_count 63 = .ok (.invokevirtual 98, 3) := by decide +kernel
theorem dX6_count_66 : decode cX6_count 66 = .ok (.ireturn, 1) := by decide +kernel
theorem dX6_count_67 : decode cX6_count 67 = .ok (.aload_n 0, 1) := by decide +kernel
theorem dX6_count_68 : decode cX6_count 68 = .ok (.getfield 95, 3) := by decide +kernel
theorem dX6_count_71 : decode cX6_count 71 = .ok (.ireturn, 1) := by decide +kernel
theorem dX6_count_72 : decode cX6_count 72 = .ok (.aload_n 0, 1) := by decide +kernel
theorem dX6_count_73 : decode cX6_count 73 = .ok (.getfield 247, 3) := by decide +kernel
theorem dX6_count_76 : decode cX6_count 76 = .ok (.ireturn, 1) := by decide +kernel
theorem dX6_count_77 : decode cX6_count 77 = .ok (.aload_n 0, 1) := by decide +kernel
theorem dX6_count_78 : decode cX6_count 78 = .ok (.iload_n 1, 1) := by decide +kernel
theorem dX6_count_79 : decode cX6_count 79 = .ok (.invokevirtual 304, 3) := by decide +kernel
theorem dX6_count_82 : decode cX6_count 82 = .ok (.ireturn, 1) := by decide +kernel
set_option maxRecDepth 20000 in
theorem ggX6_countFound_X4_study : GoodIn wsX6_countFound wsX4_study := goodIn_r _ [6, 7, 8, 9, 10, 11, 12, 13, 14, 15, 16, 17, 5, 18, 19, 20, 21, 22, 23, 24, 25, 26, 27, 28, 29, 30, 31, 32, 33, 34, 35, 36, 37, 38, 39, 40, 41, 42, 43, 44, 45, 46, 47, 48, 49, 50, 51, 52, 53, 54, 55, 56, 57, 58, 59, 60, 61, 62, 63, 64, 65, 66, 67, 68, 69, 70, 71, 72, 73, 74, 75, 76, 77, 78, 79, 80, 81, 82, 83, 84, 85, 86, 87, 88, 89, 90, 91, 92, 93, 94, 95, 96, 97, 98, 99, 100, 101, 102, 103, 104, 105, 106, 107, 108, 109, 110, 111, 112, 113, 114, 115, 116, 117, 118, 119, 120, 121, 122, 123, 124, 125, 126, 127, 128, 129, 130, 131, 132, 133, 134, 135, 136, 137, 138, 139, 140, 141, 142, 143, 144, 201, 202, 203, 204, 205, 206, 207, 208, 209, 210, 211, 212, 213, 214, 215, 216, 217, 218, 219, 220] (by decide +kernel) (by decide +kernel)
set_option maxRecDepth 20000 in
theorem gX6_countFound_X4_study : GoodIn wsX6_countFound (wsV RX6 146 RX4 yX4_study wsX4_study) := goodIn_app (goodIn_of _ (by decide +kernel)) ggX6_countFound_X4_study
set_option maxRecDepth 20000 in
theorem ggX6_countFound_X4_alive : GoodIn wsX6_countFound wsX4_alive := goodIn_r _ [148, 21, 201, 202, 203, 204, 205, 206, 207, 208, 209, 210, 211, 212, 213, 214, 215, 216] (by decide +kernel) (by decide +kernel)
set_option maxRecDepth 20000 in
theorem gX6_countFound_X4_alive : GoodIn wsX6_countFound (wsV RX6 281 RX4 yX4_alive wsX4_alive) := goodIn_app (goodIn_of _ (by decide +kernel)) ggX6_countFound_X4_alive
set_option maxRecDepth 20000 in
theorem ggX6_countFound_X4_dead : GoodIn wsX6_countFound wsX4_dead := goodIn_r _ [152, 22, 201, 202, 203, 204, 205, 206, 207, 208, 209, 210, 211, 212, 213, 214, 215, 216] (by decide +kernel) (by decide +kernel)
set_option maxRecDepth 20000 in
theorem gX6_countFound_X4_dead : GoodIn wsX6_countFound (wsV RX6 149 RX4 yX4_dead wsX4_dead) := goodIn_app (goodIn_of _ (by decide +kernel)) ggX6_countFound_X4_dead
set_option maxRecDepth 20000 in
theorem ggX6_countFound_X4_cases : GoodIn wsX6_countFound wsX4_cases := goodIn_r _ [156, 75, 201, 202, 203, 204, 205, 206, 207, 208, 209, 210, 211, 212, 213, 214, 215, 216] (by decide +kernel) (by decide +kernel)
set_option maxRecDepth 20000 in
theorem gX6_countFound_X4_cases : GoodIn wsX6_countFound (wsV RX6 187 RX4 yX4_cases wsX4_cases) := goodIn_app (goodIn_of _ (by decide +kernel)) ggX6_countFound_X4_cases
set_option maxRecDepth 20000 in
theorem ggX6_countFound_X4_clashing : GoodIn wsX6_countFound wsX4_clashing := goodIn_r _ [160, 75, 161, 162, 163, 5, 164, 8, 165, 166, 167, 168, 169, 170, 171, 172, 99, 57, 45, 46, 12, 47, 48, 173, 174, 175, 176, 98, 177, 178, 51, 179, 180, 102, 103, 181, 182, 183, 201, 202, 203, 204, 205, 206, 207, 208, 209, 210, 211, 212, 213, 214, 215, 216, 217, 218, 219, 220] (by decide +kernel) (by decide +kernel)
set_option maxRecDepth 20000 in
theorem gX6_countFound_X4_clashing : GoodIn wsX6_countFound (wsV RX6 307 RX4 yX4_clashing wsX4_clashing) := goodIn_app (goodIn_of _ (by decide +kernel)) ggX6_countFound_X4_clashing
theorem dX6_countFound_0 : decode cX6_countFound 0 = .ok (.aload_n 0, 1) := by decide +kernel
theorem dX6_countFound_1 : decode cX6_countFound 1 = .ok (.getfield 26, 3) := by decide +kernel
theorem dX6_countFound_4 : decode cX6_countFound 4 = .ok (.invokevirtual 146, 3) := by decide +kernel
theorem dX6_countFound_7 : decode cX6_countFound 7 = .ok (.iload_n 1, 1) := by decide +kernel
theorem dX6_countFound_8 : decode cX6_countFound 8 = .ok (.tableswitch 72 2 5 #[32, 48, 56, 64], 32) := by decide +kernel
theorem dX6_countFound_40 : decode cX6_countFound 40 = .ok (.aload_n 0, 1) := by decide +kernel
theorem dX6_countFound_41 : decode cX6_countFound 41 = .ok (.getfield 26, 3) := by decide +kernel
theorem dX6_countFound_44 : decode cX6_countFound 44 = .ok (.invokevirtual 281, 3) := by decide +kernel
theorem dX6_countFound_47 : decode cX6_countFound 47 = .ok (.aload_n 0, 1) := by decide +kernel
theorem dX6_countFound_48 : decode cX6_countFound 48 = .ok (.getfield 26, 3) := by decide +kernel
theorem dX6_countFound_51 : decode cX6_countFound 51 = .ok (.invokevirtual 149, 3) := by decide +kernel
theorem dX6_countFound_54 : decode cX6_countFound 54 = .ok (.iadd, 1) := by decide +kernel
theorem dX6_countFound_55 : decode cX6_countFound 55 = .ok (.ireturn, 1) := by decide +kernel
theorem dX6_countFound_56 : decode cX6_countFound 56 = .ok (.aload_n 0, 1) := by decide +kernel
theorem dX6_countFound_57 : decode cX6_countFound 57 = .ok (.getfield 26, 3) := by decide +kernel
theorem dX6_countFound_60 : decode cX6_countFound 60 = .ok (.invokevirtual 187, 3) := by decide +kernel
theorem dX6_countFound_63 : decode cX6_countFound 63 = .ok (.ireturn, 1) := by decide +kernel
theorem dX6_countFound_64 : decode cX6_countFound 64 = .ok (.aload_n 0, 1) := by decide +kernel
theorem dX6_countFound_65 : decode cX6_countFound 65 = .ok (.getfield 26, 3) := by decide +kernel
theorem dX6_countFound_68 : decode cX6_countFound 68 = .ok (.invokevirtual 149, 3) := by decide +kernel
theorem dX6_countFound_71 : decode cX6_countFound 71 = .ok (.ireturn, 1) := by decide +kernel
theorem dX6_countFound_72 : decode cX6_countFound 72 = .ok (.aload_n 0, 1) := by decide +kernel
theorem dX6_countFound_73 : decode cX6_countFound 73 = .ok (.getfield 26, 3) := by decide +kernel
theorem dX6_countFound_76 : decode cX6_countFound 76 = .ok (.invokevirtual 307, 3) := by decide +kernel
theorem dX6_countFound_79 : decode cX6_countFound 79 = .ok (.ireturn, 1) := by decide +kernel
theorem dX6_countFound_80 : decode cX6_countFound 80 = .ok (.bipush (-2), 2) := by decide +kernel
theorem dX6_countFound_82 : decode cX6_countFound 82 = .ok (.ireturn, 1) := by decide +kernel
theorem dX6_isOfSeries_0 : decode cX6_isOfSeries 0 = .ok (.iload_n 0, 1) := by decide +kernel
theorem dX6_isOfSeries_1 : decode cX6_isOfSeries 1 = .ok (.ifCond .eq 18, 3) := by decide +kernel
theorem dX6_isOfSeries_4 : decode cX6_isOfSeries 4 = .ok (.iload_n 0, 1) := by decide +kernel
theorem dX6_isOfSeries_5 : decode cX6_isOfSeries 5 = .ok (.bipush 100, 2) := by decide +kernel
theorem dX6_isOfSeries_7 : decode cX6_isOfSeries 7 = .ok (.idiv, 1) := by decide +kernel
theorem dX6_isOfSeries_8 : decode cX6_isOfSeries 8 = .ok (.bipush 10, 2) := by decide +kernel
theorem dX6_isOfSeries_10 : decode cX6_isOfSeries 10 = .ok (.irem, 1) := by decide +kernel
theorem dX6_isOfSeries_11 : decode cX6_isOfSeries 11 = .ok (.iload_n 1, 1) := by decide +kernel
theorem dX6_isOfSeries_12 : decode cX6_isOfSeries 12 = .ok (.if_icmp .ne 7, 3) := by decide +kernel
theorem dX6_isOfSeries_15 : decode cX6_isOfSeries 15 = .ok (.iconst 1, 1) := by decide +kernel
theorem dX6_isOfSeries_16 : decode cX6_isOfSeries 16 = .ok (.goto 4, 3) := by decide +kernel
theorem dX6_isOfSeries_19 : decode cX6_isOfSeries 19 = .ok (.iconst 0, 1) := by decide +kernel
theorem dX6_isOfSeries_20 : decode cX6_isOfSeries 20 = .ok (.ireturn, 1) := by decide +kernel
theorem dX6_isOfVolume_0 : decode cX6_isOfVolume 0 = .ok (.iload_n 0, 1) := by decide +kernel
theorem dX6_isOfVolume_1 : decode cX6_isOfVolume 1 = .ok (.ifCond .eq 16, 3) := by decide +kernel
theorem dX6_isOfVolume_4 : decode cX6_isOfVolume 4 = .ok (.iload_n 0, 1) := by decide +kernel
theorem dX6_isOfVolume_5 : decode cX6_isOfVolume 5 = .ok (.sipush 1000, 3) := by decide +kernel
theorem dX6_isOfVolume_8 : decode cX6_isOfVolume 8 = .ok (.idiv, 1) := by decide +kernel
theorem dX6_isOfVolume_9 : decode cX6_isOfVolume 9 = .ok (.iload_n 1, 1) := by decide +kernel
theorem dX6_isOfVolume_10 : decode cX6_isOfVolume 10 = .ok (.if_icmp .ne 7, 3) := by decide +kernel
theorem dX6_isOfVolume_13 : decode cX6_isOfVolume 13 = .ok (.iconst 1, 1) := by decide +kernel
theorem dX6_isOfVolume_14 : decode cX6_isOfVolume 14 = .ok (.goto 4, 3) := by decide +kernel
theorem dX6_isOfVolume_17 : decode cX6_isOfVolume 17 = .ok (.iconst 0, 1) := by decide +kernel
theorem dX6_isOfVolume_18 : decode cX6_isOfVolume 18 = .ok (.ireturn, 1) := by decide +kernel
theorem dX7_init_0 : decode cX7_init 0 = .ok (.aload_n 0, 1) := by decide +kernel
theorem dX7_init_1 : decode cX7_init 1 = .ok (.invokespecial 1, 3) := by decide +kernel
theorem dX7_init_4 : decode cX7_init 4 = .ok (.aload_n 0, 1) := by decide +kernel
theorem dX7_init_5 : decode cX7_init 5 = .ok (.bipush 120, 2) := by decide +kernel
theorem dX7_init_7 : decode cX7_init 7 = .ok (.newarray .int, 2) := by decide +kernel
theorem dX7_init_9 : decode cX7_init 9 = .ok (.putfield 7, 3) := by decide +kernel
theorem dX7_init_12 : decode cX7_init 12 = .ok (.aload_n 0, 1) := by decide +kernel
theorem dX7_init_13 : decode cX7_init 13 = .ok (.sipush 265, 3) := by decide +kernel
theorem dX7_init_16 : decode cX7_init 16 = .ok (.newarray .int, 2) := by decide +kernel
theorem dX7_init_18 : decode cX7_init 18 = .ok (.putfield 13, 3) := by decide +kernel
theorem dX7_init_21 : decode cX7_init 21 = .ok (.aload_n 0, 1) := by decide +kernel
theorem dX7_init_22 : decode cX7_init 22 = .ok (.sipush 265, 3) := by decide +kernel
theorem dX7_init_25 : decode cX7_init 25 = .ok (.newarray .int, 2) := by decide +kernel
theorem dX7_init_27 : decode cX7_init 27 = .ok (.putfield 16, 3) := by decide +kernel
theorem dX7_init_30 : decode cX7_init 30 = .ok (.aload_n 0, 1) := by decide +kernel
theorem dX7_init_31 : decode cX7_init 31 = .ok (.sipush 265, 3) := by decide +kernel
theorem dX7_init_34 : decode cX7_init 34 = .ok (.newarray .int, 2) := by decide +kernel
theorem dX7_init_36 : decode cX7_init 36 = .ok (.putfield 19, 3) := by decide +kernel
theorem dX7_init_39 : decode cX7_init 39 = .ok (.aload_n 0, 1) := by decide +kernel
theorem dX7_init_40 : decode cX7_init 40 = .ok (.sipush 265, 3) := by decide +kernel
theorem dX7_init_43 : decode cX7_init 43 = .ok (.newarray .int, 2) := by decide +kernel
theorem dX7_init_45 : decode cX7_init 45 = .ok (.putfield 22, 3) := by decide +kernel
theorem dX7_init_48 : decode cX7_init 48 = .ok (.aload_n 0, 1) := by decide +kernel
theorem dX7_init_49 : decode cX7_init 49 = .ok (.sipush 3710, 3) := by decide +kernel
theorem dX7_init_52 : decode cX7_init 52 = .ok (.newarray .int, 2) := by decide +kernel
theorem dX7_init_54 : decode cX7_init 54 = .ok (.putfield 25, 3) := by decide +kernel
theorem dX7_init_57 : decode cX7_init 57 = .ok (.aload_n 0, 1) := by decide +kernel
theorem dX7_init_58 : decode cX7_init 58 = .ok (.sipush 530, 3) := by decide +kernel
theorem dX7_init_61 : decode cX7_init 61 = .ok (.newarray .int, 2) := by decide +kernel
theorem dX7_init_63 : decode cX7_init 63 = .ok (.putfield 28, 3) := by decide +kernel
theorem dX7_init_66 : decode cX7_init 66 = .ok (.aload_n 0, 1) := by decide +kernel
theorem dX7_init_67 : decode cX7_init 67 = .ok (.iconst 2, 1) := by decide +kernel
theorem dX7_init_68 : decode cX7_init 68 = .ok (.newarray .boolean, 2) := by decide +kernel
theorem dX7_init_70 : decode cX7_init 70 = .ok (.putfield 31, 3) := by decide +kernel
theorem dX7_init_73 : decode cX7_init 73 = .ok (.aload_n 0, 1) := by decide +kernel
theorem dX7_init_74 : decode cX7_init 74 = .ok (.bipush 6, 2) := by decide +kernel
theorem dX7_init_76 : decode cX7_init 76 = .ok (.newarray .int, 2) := by decide +kernel
theorem dX7_init_78 : decode cX7_init 78 = .ok (.putfield 35, 3) := by decide +kernel
theorem dX7_init_81 : decode cX7_init 81 = .ok (.aload_n 0, 1) := by decide +kernel
theorem dX7_init_82 : decode cX7_init 82 = .ok (.bipush 6, 2) := by decide +kernel
theorem dX7_init_84 : decode cX7_init 84 = .ok (.newarray .int, 2) := by decide +kernel
theorem dX7_init_86 : decode cX7_init 86 = .ok (.putfield 38, 3) := by decide +kernel
theorem dX7_init_89 : decode cX7_init 89 = .ok (.aload_n 0, 1) := by decide +kernel
theorem dX7_init_90 : decode cX7_init 90 = .ok (.bipush 6, 2) := by decide +kernel
theorem dX7_init_92 : decode cX7_init 92 = .ok (.newarray .int, 2) := by decide +kernel
theorem dX7_init_94 : decode cX7_init 94 = .ok (.putfield 41, 3) := by decide +kernel
theorem dX7_init_97 : decode cX7_init 97 = .ok (.aload_n 0, 1) := by decide +kernel
theorem dX7_init_98 : decode cX7_init 98 = .ok (.bipush 32, 2) := by decide +kernel
theorem dX7_init_100 : decode cX7_init 100 = .ok (.newarray .int, 2) := by decide +kernel
theorem dX7_init_102 : decode cX7_init 102 = .ok (.putfield 44, 3) := by decide +kernel
theorem dX7_init_105 : decode cX7_init 105 = .ok (.aload_n 0, 1) := by decide +kernel
theorem dX7_init_106 : decode cX7_init 106 = .ok (.bipush 32, 2) := by decide +kernel
theorem dX7_init_108 : decode cX7_init 108 = .ok (.newarray .int, 2) := by decide +kernel
theorem dX7_init_110 : decode cX7_init 110 = .ok (.putfield 47, 3) := by decide +kernel
theorem dX7_init_113 : decode cX7_init 113 = .ok (.aload_n 0, 1) := by decide +kernel
theorem dX7_init_114 : decode cX7_init 114 = .ok (.bipush 32, 2) := by decide +kernel
theorem dX7_init_116 : decode cX7_init 116 = .ok (.newarray .int, 2) := by decide +kernel
theorem dX7_init_118 : decode cX7_init 118 = .ok (.putfield 50, 3) := by decide +kernel
theorem dX7_init_121 : decode cX7_init 121 = .ok (.aload_n 0, 1) := by decide +kernel
theorem dX7_init_122 : decode cX7_init 122 = .ok (.bipush 32, 2) := by decide +kernel
theorem dX7_init_124 : decode cX7_init 124 = .ok (.newarray .int, 2) := by decide +kernel
theorem dX7_init_126 : decode cX7_init 126 = .ok (.putfield 53, 3) := by decide +kernel
theorem dX7_init_129 : decode cX7_init 129 = .ok (.aload_n 0, 1) := by decide +kernel
theorem dX7_init_130 : decode cX7_init 130 = .ok (.bipush 8, 2) := by decide +kernel
theorem dX7_init_132 : decode cX7_init 132 = .ok (.newarray .int, 2) := by decide +kernel
theorem dX7_init_134 : decode cX7_init 134 = .ok (.putfield 56, 3) := by decide +kernel
theorem dX7_init_137 : decode cX7_init 137 = .ok (.aload_n 0, 1) := by decide +kernel
theorem dX7_init_138 : decode cX7_init 138 = .ok (.sipush 480, 3) := by decide +kernel
theorem dX7_init_141 : decode cX7_init 141 = .ok (.newarray .int, 2) := by decide +kernel
theorem dX7_init_143 : decode cX7_init 143 = .ok (.putfield 59, 3) := by decide +kernel
theorem dX7_init_146 : decode cX7_init 146 = .ok (.aload_n 0, 1) := by decide +kernel
theorem dX7_init_147 : decode cX7_init 147 = .ok (.bipush 8, 2) := by decide +kernel
theorem dX7_init_149 : decode cX7_init 149 = .ok (.newarray .int, 2) := by decide +kernel
theorem dX7_init_151 : decode cX7_init 151 = .ok (.putfield 62, 3) := by decide +kernel
theorem dX7_init_154 : decode cX7_init 154 = .ok (.aload_n 0, 1) := by decide +kernel
theorem dX7_init_155 : decode cX7_init 155 = .ok (.sipush 256, 3) := by decide +kernel
theorem dX7_init_158 : decode cX7_init 158 = .ok (.newarray .int, 2) := by decide +kernel
theorem dX7_init_160 : decode cX7_init 160 = .ok (.putfield 65, 3) := by decide +kernel
theorem dX7_init_163 : decode cX7_init 163 = .ok (.aload_n 0, 1) := by decide +kernel
theorem dX7_init_164 : decode cX7_init 164 = .ok (.getfield 16, 3) := by decide +kernel
theorem dX7_init_167 : decode cX7_init 167 = .ok (.iconst 0, 1) := by decide +kernel
theorem dX7_init_168 : decode cX7_init 168 = .ok (.iconst 0, 1) := by decide +kernel
theorem dX7_init_169 : decode cX7_init 169 = .ok (.iastore, 1) := by decide +kernel
theorem dX7_init_170 : decode cX7_init 170 = .ok (.return_, 1) := by decide +kernel
theorem dX7_in_0 : decode cX7_in 0 = .ok (.lload_n 0, 1) := by decide +kernel
theorem dX7_in_1 : decode cX7_in 1 = .ok (.lload_n 2, 1) := by decide +kernel
theorem dX7_in_2 : decode cX7_in 2 = .ok (.lcmp, 1) := by decide +kernel
theorem dX7_in_3 : decode cX7_in 3 = .ok (.ifCond .lt 14, 3) := by decide +kernel
theorem dX7_in_6 : decode cX7_in 6 = .ok (.lload_n 0, 1) := by decide +kernel
theorem dX7_in_7 : decode cX7_in 7 = .ok (.lload 4, 2) := by decide +kernel
theorem dX7_in_9 : decode cX7_in 9 = .ok (.lcmp, 1) := by decide +kernel
theorem dX7_in_10 : decode cX7_in 10 = .ok (.ifCond .gt 7, 3) := by decide +kernel
theorem dX7_in_13 : decode cX7_in 13 = .ok (.iconst 1, 1) := by decide +kernel
theorem dX7_in_14 : decode cX7_in 14 = .ok (.goto 4, 3) := by decide +kernel
theorem dX7_in_17 : decode cX7_in 17 = .ok (.iconst 0, 1) := by decide +kernel
theorem dX7_in_18 : decode cX7_in 18 = .ok (.ireturn, 1) := by decide +kernel
theorem dX7_has_0 : decode cX7_has 0 = .ok (.iload_n 0, 1) := by decide +kernel
theorem dX7_has_1 : decode cX7_has 1 = .ok (.iload_n 1, 1) := by decide +kernel
theorem dX7_has_2 : decode cX7_has 2 = .ok (.ishr, 1) := by decide +kernel
theorem dX7_has_3 : decode cX7_has 3 = .ok (.iconst 1, 1) := by decide +kernel
theorem dX7_has_4 : decode cX7_has 4 = .ok (.iand, 1) := by decide +kernel
theorem dX7_has_5 : decode cX7_has 5 = .ok (.iconst 1, 1) := by decide +kernel
theorem dX7_has_6 : decode cX7_has 6 = .ok (.if_icmp .ne 7, 3) := by decide +kernel
theorem dX7_has_9 : decode cX7_has 9 = .ok (.iconst 1, 1) := by decide +kernel
theorem dX7_has_10 : decode cX7_has 10 = .ok (.goto 4, 3) := by decide +kernel
theorem dX7_has_13 : decode cX7_has 13 = .ok (.iconst 0, 1) := by decide +kernel
theorem dX7_has_14 : decode cX7_has 14 = .ok (.ireturn, 1) := by decide +kernel
theorem dX7_ones_0 : decode cX7_ones 0 = .ok (.iconst 0, 1) := by decide +kernel
theorem dX7_ones_1 : decode cX7_ones 1 = .ok (.istore_n 1, 1) := by decide +kernel
theorem dX7_ones_2 : decode cX7_ones 2 = .ok (.iconst 0, 1) := by decide +kernel
theorem dX7_ones_3 : decode cX7_ones 3 = .ok (.istore_n 2, 1) := by decide +kernel
theorem dX7_ones_4 : decode cX7_ones 4 = .ok (.iload_n 2, 1) := by decide +kernel
theorem dX7_ones_5 : decode cX7_ones 5 = .ok (.bipush 8, 2) := by decide +kernel
theorem dX7_ones_7 : decode cX7_ones 7 = .ok (.if_icmp .ge 17, 3) := by decide +kernel
theorem dX7_ones_10 : decode cX7_ones 10 = .ok (.iload_n 1, 1) := by decide +kernel
theorem dX7_ones_11 : decode cX7_ones 11 = .ok (.iload_n 0, 1) := by decide +kernel
theorem dX7_ones_12 : decode cX7_ones 12 = .ok (.iload_n 2, 1) := by decide +kernel
theorem dX7_ones_13 : decode cX7_ones 13 = .ok (.ishr, 1) := by decide +kernel
theorem dX7_ones_14 : decode cX7_ones 14 = .ok (.iconst 1, 1) := by decide +kernel
theorem dX7_ones_15 : decode cX7_ones 15 = .ok (.iand, 1) := by decide +kernel
theorem dX7_ones_16 : decode cX7_ones 16 = .ok (.iadd, 1) := by decide +kernel
theorem dX7_ones_17 : decode cX7_ones 17 = .ok (.istore_n 1, 1) := by decide +kernel
theorem dX7_ones_18 : decode cX7_ones 18 = .ok (.iinc 2 1, 3) := by decide +kernel
theorem dX7_ones_21 : decode cX7_ones 21 = .ok (.goto (-17), 3) := by decide +kernel
theorem dX7_ones_24 : decode cX7_ones 24 = .ok (.iload_n 1, 1) := by decide +kernel
theorem dX7_ones_25 : decode cX7_ones 25 = .ok (.ireturn, 1) := by decide +kernel
theorem dX7_power_0 : decode cX7_power 0 = .ok (.iconst 1, 1) := by decide +kernel
theorem dX7_power_1 : decode cX7_power 1 = .ok (.istore_n 2, 1) := by decide +kernel
theorem dX7_power_2 : decode cX7_power 2 = .ok (.iconst 0, 1) := by decide +kernel
theorem dX7_power_3 : decode cX7_power 3 = .ok (.istore_n 3, 1) := by decide +kernel
theorem dX7_power_4 : decode cX7_power 4 = .ok (.iload_n 3, 1) := by decide +kernel
theorem dX7_power_5 : decode cX7_power 5 = .ok (.iload_n 1, 1) := by decide +kernel
theorem dX7_power_6 : decode cX7_power 6 = .ok (.if_icmp .ge 13, 3) := by decide +kernel
theorem dX7_power_9 : decode cX7_power 9 = .ok (.iload_n 2, 1) := by decide +kernel
theorem dX7_power_10 : decode cX7_power 10 = .ok (.iload_n 0, 1) := by decide +kernel
theorem dX7_power_11 : decode cX7_power 11 = .ok (.imul, 1) := by decide +kernel
theorem dX7_power_12 : decode cX7_power 12 = .ok (.istore_n 2, 1) := by decide +kernel
theorem dX7_power_13 : decode cX7_power 13 = .ok (.iinc 3 1, 3) := by decide +kernel
theorem dX7_power_16 : decode cX7_power 16 = .ok (.goto (-12), 3) := by decide +kernel
theorem dX7_power_19 : decode cX7_power 19 = .ok (.iload_n 2, 1) := by decide +kernel
theorem dX7_power_20 : decode cX7_power 20 = .ok (.ireturn, 1) := by decide +kernel
theorem dX7_lay_0 : decode cX7_lay 0 = .ok (.iconst 0, 1) := by decide +kernel
theorem dX7_lay_1 : decode cX7_lay 1 = .ok (.istore_n 2, 1) := by decide +kernel
theorem dX7_lay_2 : decode cX7_lay 2 = .ok (.iload_n 2, 1) := by decide +kernel
theorem dX7_lay_3 : decode cX7_lay 3 = .ok (.sipush 265, 3) := by decide +kernel
theorem dX7_lay_6 : decode cX7_lay 6 = .ok (.if_icmp .ge 15, 3) := by decide +kernel
theorem dX7_lay_9 : decode cX7_lay 9 = .ok (.aload_n 0, 1) := by decide +kernel
theorem dX7_lay_10 : decode cX7_lay 10 = .ok (.iload_n 2, 1) := by decide +kernel
theorem dX7_lay_11 : decode cX7_lay 11 = .ok (.aload_n 1, 1) := by decide +kernel
theorem dX7_lay_12 : decode cX7_lay 12 = .ok (.iload_n 2, 1) := by decide +kernel
theorem dX7_lay_13 : decode cX7_lay 13 = .ok (.iaload, 1) := by decide +kernel
theorem dX7_lay_14 : decode cX7_lay 14 = .ok (.iastore, 1) := by decide +kernel
theorem dX7_lay_15 : decode cX7_lay 15 = .ok (.iinc 2 1, 3) := by decide +kernel
theorem dX7_lay_18 : decode cX7_lay 18 = .ok (.goto (-16), 3) := by decide +kernel
theorem dX7_lay_21 : decode cX7_lay 21 = .ok (.return_, 1) := by decide +kernel
theorem dX7_ref_0 : decode cX7_ref 0 = .ok (.aload_n 0, 1) := by decide +kernel
theorem dX7_ref_1 : decode cX7_ref 1 = .ok (.bipush 9, 2) := by decide +kernel
theorem dX7_ref_3 : decode cX7_ref 3 = .ok (.bipush 8, 2) := by decide +kernel
theorem dX7_ref_5 : decode cX7_ref 5 = .ok (.iload_n 1, 1) := by decide +kernel
theorem dX7_ref_6 : decode cX7_ref 6 = .ok (.imul, 1) := by decide +kernel
theorem dX7_ref_7 : decode cX7_ref 7 = .ok (.iadd, 1) := by decide +kernel
theorem dX7_ref_8 : decode cX7_ref 8 = .ok (.iload_n 2, 1) := by decide +kernel
theorem dX7_ref_9 : decode cX7_ref 9 = .ok (.iadd, 1) := by decide +kernel
theorem dX7_ref_10 : decode cX7_ref 10 = .ok (.iaload, 1) := by decide +kernel
theorem dX7_ref_11 : decode cX7_ref 11 = .ok (.ireturn, 1) := by decide +kernel
set_option maxRecDepth 20000 in
theorem ggX7_isThere_X7_in : GoodIn wsX7_isThere wsX7_in := goodIn_r _ [4] (by decide +kernel) (by decide +kernel)
set_option maxRecDepth 20000 in
theorem gX7_isThere_X7_in : GoodIn wsX7_isThere (va_wsS RX7 72 yX7_in wsX7_in) := goodIn_app (goodIn_of _ (by decide +kernel)) ggX7_isThere_X7_in
theorem dX7_isThere_0 : decode cX7_isThere 0 = .ok (.iload_n 1, 1) := by decide +kernel
theorem dX7_isThere_1 : decode cX7_isThere 1 = .ok (.i2l, 1) := by decide +kernel
theorem dX7_isThere_2 : decode cX7_isThere 2 = .ok (.lconst 0, 1) := by decide +kernel
theorem dX7_isThere_3 : decode cX7_isThere 3 = .ok (.aload_n 0, 1) := by decide +kernel
theorem dX7_isThere_4 : decode cX7_isThere 4 = .ok (.iconst 0, 1) := by decide +kernel
theorem dX7_isThere_5 : decode cX7_isThere 5 = .ok (.iaload, 1) := by decide +kernel
theorem dX7_isThere_6 : decode cX7_isThere 6 = .ok (.iconst 1, 1) := by decide +kernel
theorem dX7_isThere_7 : decode cX7_isThere 7 = .ok (.isub, 1) := by decide +kernel
theorem dX7_isThere_8 : decode cX7_isThere 8 = .ok (.i2l, 1) := by decide +kernel
theorem dX7_isThere_9 : decode cX7_isThere 9 = .ok (.invokestatic 72, 3) := by decide +kernel
theorem dX7_isThere_12 : decode cX7_isThere 12 = .ok (.ifCond .eq 24, 3) := by decide +kernel
theorem dX7_isThere_15 : decode cX7_isThere 15 = .ok (.iload_n 2, 1) := by decide +kernel
theorem dX7_isThere_16 : decode cX7_isThere 16 = .ok (.i2l, 1) := by decide +kernel
theorem dX7_isThere_17 : decode cX7_isThere 17 = .ok (.lconst 0, 1) := by decide +kernel
theorem dX7_isThere_18 : decode cX7_isThere 18 = .ok (.aload_n 0, 1) := by decide +kernel
theorem dX7_isThere_19 : decode cX7_isThere 19 = .ok (.iconst 1, 1) := by decide +kernel
theorem dX7_isThere_20 : decode cX7_isThere 20 = .ok (.iload_n 1, 1) := by decide +kernel
theorem dX7_isThere_21 : decode cX7_isThere 21 = .ok (.iadd, 1) := by decide +kernel
theorem dX7_isThere_22 : decode cX7_isThere 22 = .ok (.iaload, 1) := by decide +kernel
theorem dX7_isThere_23 : decode cX7_isThere 23 = .ok (.iconst 1, 1) := by decide +kernel
theorem dX7_isThere_24 : decode cX7_isThere 24 = .ok (.isub, 1) := by decide +kernel
theorem dX7_isThere_25 : decode cX7_isThere 25 = .ok (.i2l, 1) := by decide +kernel
theorem dX7_isThere_26 : decode cX7_isThere 26 = .ok (.invokestatic 72, 3) := by decide +kernel
theorem dX7_isThere_29 : decode cX7_isThere 29 = .ok (.ifCond .eq 7, 3) := by decide +kernel
theorem dX7_isThere_32 : decode cX7_isThere 32 = .ok (.iconst 1, 1) := by decide +kernel
theorem dX7_isThere_33 : decode cX7_isThere 33 = .ok (.goto 4, 3) := by decide +kernel
theorem dX7_isThere_36 : decode cX7_isThere 36 = .ok (.iconst 0, 1) := by decide +kernel
theorem dX7_isThere_37 : decode cX7_isThere 37 = .ok (.ireturn, 1) := by decide +kernel
set_option maxRecDepth 20000 in
theorem ggX7_isLeft_X7_isThere : GoodIn wsX7_isLeft wsX7_isThere := goodIn_r _ [4, 5, 6, 3, 7] (by decide +kernel) (by decide +kernel)
set_option maxRecDepth 20000 in
theorem gX7_isLeft_X7_isThere : GoodIn wsX7_isLeft (va_wsS RX7 76 yX7_isThere wsX7_isThere) := goodIn_app (goodIn_of _ (by decide +kernel)) ggX7_isLeft_X7_isThere
set_option maxRecDepth 20000 in
theorem ggX7_isLeft_X7_has : GoodIn wsX7_isLeft wsX7_has := goodIn_r _ [10] (by decide +kernel) (by decide +kernel)
set_option maxRecDepth 20000 in
theorem gX7_isLeft_X7_has : GoodIn wsX7_isLeft (va_wsS RX7 80 yX7_has wsX7_has) := goodIn_app (goodIn_of _ (by decide +kernel)) ggX7_isLeft_X7_has
theorem dX7_isLeft_0 : decode cX7_isLeft 0 = .ok (.aload_n 0, 1) := by decide +kernel
theorem dX7_isLeft_1 : decode cX7_isLeft 1 = .ok (.iload_n 2, 1) := by decide +kernel
theorem dX7_isLeft_2 : decode cX7_isLeft 2 = .ok (.iconst 4, 1) := by decide +kernel
theorem dX7_isLeft_3 : decode cX7_isLeft 3 = .ok (.idiv, 1) := by decide +kernel
theorem dX7_isLeft_4 : decode cX7_isLeft 4 = .ok (.iload_n 2, 1) := by decide +kernel
theorem dX7_isLeft_5 : decode cX7_isLeft 5 = .ok (.iconst 4, 1) := by decide +kernel
theorem dX7_isLeft_6 : decode cX7_isLeft 6 = .ok (.irem, 1) := by decide +kernel
theorem dX7_isLeft_7 : decode cX7_isLeft 7 = .ok (.invokestatic 76, 3) := by decide +kernel
theorem dX7_isLeft_10 : decode cX7_isLeft 10 = .ok (.ifCond .eq 17, 3) := by decide +kernel
theorem dX7_isLeft_13 : decode cX7_isLeft 13 = .ok (.iload_n 1, 1) := by decide +kernel
theorem dX7_isLeft_14 : decode cX7_isLeft 14 = .ok (.iload_n 2, 1) := by decide +kernel
theorem dX7_isLeft_15 : decode cX7_isLeft 15 = .ok (.iconst 4, 1) := by decide +kernel
theorem dX7_isLeft_16 : decode cX7_isLeft 16 = .ok (.idiv, 1) := by decide +kernel
theorem dX7_isLeft_17 : decode cX7_isLeft 17 = .ok (.invokestatic 80, 3) := by decide +kernel
theorem dX7_isLeft_20 : decode cX7_isLeft 20 = .ok (.ifCond .eq 7, 3) := by decide +kernel
theorem dX7_isLeft_23 : decode cX7_isLeft 23 = .ok (.iconst 1, 1) := by decide +kernel
theorem dX7_isLeft_24 : decode cX7_isLeft 24 = .ok (.goto 4, 3) := by decide +kernel
theorem dX7_isLeft_27 : decode cX7_isLeft 27 = .ok (.iconst 0, 1) := by decide +kernel
theorem dX7_isLeft_28 : decode cX7_isLeft 28 = .ok (.ireturn, 1) := by decide +kernel
theorem dX7_allNotes_0 : decode cX7_allNotes 0 = .ok (.iconst 1, 1) := by decide +kernel
theorem dX7_allNotes_1 : decode cX7_allNotes 1 = .ok (.aload_n 0, 1) := by decide +kernel
theorem dX7_allNotes_2 : decode cX7_allNotes 2 = .ok (.iconst 0, 1) := by decide +kernel
theorem dX7_allNotes_3 : decode cX7_allNotes 3 = .ok (.iaload, 1) := by decide +kernel
theorem dX7_allNotes_4 : decode cX7_allNotes 4 = .ok (.ishl, 1) := by decide +kernel
theorem dX7_allNotes_5 : decode cX7_allNotes 5 = .ok (.iconst 1, 1) := by decide +kernel
theorem dX7_allNotes_6 : decode cX7_allNotes 6 = .ok (.isub, 1) := by decide +kernel
theorem dX7_allNotes_7 : decode cX7_allNotes 7 = .ok (.ireturn, 1) := by decide +kernel
set_option maxRecDepth 20000 in
theorem ggX7_write_X7_in : GoodIn wsX7_write wsX7_in := goodIn_r _ [8] (by decide +kernel) (by decide +kernel)
set_option maxRecDepth 20000 in
theorem gX7_write_X7_in : GoodIn wsX7_write (va_wsS RX7 72 yX7_in wsX7_in) := goodIn_app (goodIn_of _ (by decide +kernel)) ggX7_write_X7_in
theorem dX7_write_0 : decode cX7_write 0 = .ok (.aload_n 0, 1) := by decide +kernel
theorem dX7_write_1 : decode cX7_write 1 = .ok (.iconst 0, 1) := by decide +kernel
theorem dX7_write_2 : decode cX7_write 2 = .ok (.putfield 68, 3) := by decide +kernel
theorem dX7_write_5 : decode cX7_write 5 = .ok (.iload_n 1, 1) := by decide +kernel
theorem dX7_write_6 : decode cX7_write 6 = .ok (.i2l, 1) := by decide +kernel
theorem dX7_write_7 : decode cX7_write 7 = .ok (.lconst 0, 1) := by decide +kernel
theorem dX7_write_8 : decode cX7_write 8 = .ok (.ldc2_w 84, 3) := by decide +kernel
theorem dX7_write_11 : decode cX7_write 11 = .ok (.invokestatic 72, 3) := by decide +kernel
theorem dX7_write_14 : decode cX7_write 14 = .ok (.ifCond .ne 6, 3) := by decide +kernel
theorem dX7_write_17 : decode cX7_write 17 = .ok (.bipush (-2), 2) := by decide +kernel
theorem dX7_write_19 : decode cX7_write 19 = .ok (.ireturn, 1) := by decide +kernel
theorem dX7_write_20 : decode cX7_write 20 = .ok (.aload_n 0, 1) := by decide +kernel
theorem dX7_write_21 : decode cX7_write 21 = .ok (.getfield 86, 3) := by decide +kernel
theorem dX7_write_24 : decode cX7_write 24 = .ok (.bipush 120, 2) := by decide +kernel
theorem dX7_write_26 : decode cX7_write 26 = .ok (.if_icmp .ne 6, 3) := by decide +kernel
theorem dX7_write_29 : decode cX7_write 29 = .ok (.bipush (-4), 2) := by decide +kernel
theorem dX7_write_31 : decode cX7_write 31 = .ok (.ireturn, 1) := by decide +kernel
theorem dX7_write_32 : decode cX7_write 32 = .ok (.aload_n 0, 1) := by decide +kernel
theorem dX7_write_33 : decode cX7_write 33 = .ok (.getfield 7, 3) := by decide +kernel
theorem dX7_write_36 : decode cX7_write 36 = .ok (.aload_n 0, 1) := by decide +kernel
theorem dX7_write_37 : decode cX7_write 37 = .ok (.getfield 86, 3) := by decide +kernel
theorem dX7_write_40 : decode cX7_write 40 = .ok (.iload_n 1, 1) := by decide +kernel
theorem dX7_write_41 : decode cX7_write 41 = .ok (.iastore, 1) := by decide +kernel
theorem dX7_write_42 : decode cX7_write 42 = .ok (.aload_n 0, 1) := by decide +kernel
theorem dX7_write_43 : decode cX7_write 43 = .ok (.dup, 1) := by decide +kernel
theorem dX7_write_44 : decode cX7_write 44 = .ok (.getfield 86, 3) := by decide +kernel
theorem dX7_write_47 : decode cX7_write 47 = .ok (.iconst 1, 1) := by decide +kernel
theorem dX7_write_48 : decode cX7_write 48 = .ok (.iadd, 1) := by decide +kernel
theorem dX7_write_49 : decode cX7_write 49 = .ok (.putfield 86, 3) := by decide +kernel
theorem dX7_write_52 : decode cX7_write 52 = .ok (.aload_n 0, 1) := by decide +kernel
theorem dX7_write_53 : decode cX7_write 53 = .ok (.getfield 86, 3) := by decide +kernel
theorem dX7_write_56 : decode cX7_write 56 = .ok (.ireturn, 1) := by decide +kernel
theorem dX7_wipe_0 : decode cX7_wipe 0 = .ok (.aload_n 0, 1) := by decide +kernel
theorem dX7_wipe_1 : decode cX7_wipe 1 = .ok (.iconst 0, 1) := by decide +kernel
theorem dX7_wipe_2 : decode cX7_wipe 2 = .ok (.putfield 68, 3) := by decide +kernel
theorem dX7_wipe_5 : decode cX7_wipe 5 = .ok (.aload_n 0, 1) := by decide +kernel
theorem dX7_wipe_6 : decode cX7_wipe 6 = .ok (.getfield 86, 3) := by decide +kernel
theorem dX7_wipe_9 : decode cX7_wipe 9 = .ok (.istore_n 1, 1) := by decide +kernel
theorem dX7_wipe_10 : decode cX7_wipe 10 = .ok (.aload_n 0, 1) := by decide +kernel
theorem dX7_wipe_11 : decode cX7_wipe 11 = .ok (.iconst 0, 1) := by decide +kernel
theorem dX7_wipe_12 : decode cX7_wipe 12 = .ok (.putfield 86, 3) := by decide +kernel
theorem dX7_wipe_15 : decode cX7_wipe 15 = .ok (.iload_n 1, 1) := by decide +kernel
theorem dX7_wipe_16 : decode cX7_wipe 16 = .ok (.ireturn, 1) := by decide +kernel
theorem dX7_next_0 : decode cX7_next 0 = .ok (.aload_n 0, 1) := by decide +kernel
theorem dX7_next_1 : decode cX7_next 1 = .ok (.getfield 89, 3) := by decide +kernel
theorem dX7_next_4 : decode cX7_next 4 = .ok (.aload_n 0, 1) := by decide +kernel
theorem dX7_next_5 : decode cX7_next 5 = .ok (.getfield 86, 3) := by decide +kernel
theorem dX7_next_8 : decode cX7_next 8 = .ok (.if_icmp .ge 15, 3) := by decide +kernel
theorem dX7_next_11 : decode cX7_next 11 = .ok (.aload_n 0, 1) := by decide +kernel
theorem dX7_next_12 : decode cX7_next 12 = .ok (.getfield 7, 3) := by decide +kernel
theorem dX7_next_15 : decode cX7_next 15 = .ok (.aload_n 0, 1) := by decide +kernel
theorem dX7_next_16 : decode cX7_next 16 = .ok (.getfield 89, 3) := by decide +kernel
theorem dX7_next_19 : decode cX7_next 19 = .ok (.iaload, 1) := by decide +kernel
theorem dX7_next_20 : decode cX7_next 20 = .ok (.goto 5, 3) := by decide +kernel
theorem dX7_next_23 : decode cX7_next 23 = .ok (.bipush (-9), 2) := by decide +kernel
theorem dX7_next_25 : decode cX7_next 25 = .ok (.ireturn, 1) := by decide +kernel
set_option maxRecDepth 20000 in
theorem ggX7_take_X7_next : GoodIn wsX7_take wsX7_next := goodIn_r _ [7, 1, 2, 8, 12, 13, 14, 15, 16, 17, 18, 19, 20, 21, 22, 23, 24, 25, 26, 27, 28, 29, 30, 31, 32, 33, 34, 35, 36, 37, 38, 39] (by decide +kernel) (by decide +kernel)
set_option maxRecDepth 20000 in
theorem gX7_take_X7_next : GoodIn wsX7_take (wsV RX7 92 RX7 yX7_next wsX7_next) := goodIn_app (goodIn_of _ (by decide +kernel)) ggX7_take_X7_next
set_option maxRecDepth 20000 in
theorem ggX7_take_X7_in : GoodIn wsX7_take wsX7_in := goodIn_r _ [11] (by decide +kernel) (by decide +kernel)
set_option maxRecDepth 20000 in
theorem gX7_take_X7_in : GoodIn wsX7_take (va_wsS RX7 72 yX7_in wsX7_in) := goodIn_app (goodIn_of _ (by decide +kernel)) ggX7_take_X7_in
theorem dX7_take_0 : decode cX7_take 0 = .ok (.aload_n 0, 1) := by decide +kernel
theorem dX7_take_1 : decode cX7_take 1 = .ok (.invokevirtual 92, 3) := by decide +kernel
theorem dX7_take_4 : decode cX7_take 4 = .ok (.iload_n 1, 1) := by decide +kernel
theorem dX7_take_5 : decode cX7_take 5 = .ok (.isub, 1) := by decide +kernel
theorem dX7_take_6 : decode cX7_take 6 = .ok (.istore 4, 2) := by decide +kernel
theorem dX7_take_8 : decode cX7_take 8 = .ok (.aload_n 0, 1) := by decide +kernel
theorem dX7_take_9 : decode cX7_take 9 = .ok (.getfield 89, 3) := by decide +kernel
theorem dX7_take_12 : decode cX7_take 12 = .ok (.aload_n 0, 1) := by decide +kernel
theorem dX7_take_13 : decode cX7_take 13 = .ok (.getfield 86, 3) := by decide +kernel
theorem dX7_take_16 : decode cX7_take 16 = .ok (.if_icmp .eq 16, 3) := by decide +kernel
theorem dX7_take_19 : decode cX7_take 19 = .ok (.iload 4, 2) := by decide +kernel
theorem dX7_take_21 : decode cX7_take 21 = .ok (.i2l, 1) := by decide +kernel
theorem dX7_take_22 : decode cX7_take 22 = .ok (.iload_n 2, 1) := by decide +kernel
theorem dX7_take_23 : decode cX7_take 23 = .ok (.i2l, 1) := by decide +kernel
theorem dX7_take_24 : decode cX7_take 24 = .ok (.iload_n 3, 1) := by decide +kernel
theorem dX7_take_25 : decode cX7_take 25 = .ok (.i2l, 1) := by decide +kernel
theorem dX7_take_26 : decode cX7_take 26 = .ok (.invokestatic 72, 3) := by decide +kernel
theorem dX7_take_29 : decode cX7_take 29 = .ok (.ifCond .ne 6, 3) := by decide +kernel
theorem dX7_take_32 : decode cX7_take 32 = .ok (.bipush (-9), 2) := by decide +kernel
theorem dX7_take_34 : decode cX7_take 34 = .ok (.ireturn, 1) := by decide +kernel
theorem dX7_take_35 : decode cX7_take 35 = .ok (.aload_n 0, 1) := by decide +kernel
theorem dX7_take_36 : decode cX7_take 36 = .ok (.dup, 1) := by decide +kernel
theorem dX7_take_37 : decode cX7_take 37 = .ok (.getfield 89, 3) := by decide +kernel
theorem dX7_take_40 : decode cX7_take 40 = .ok (.iconst 1, 1) := by decide +kernel
theorem dX7_take_41 : decode cX7_take 41 = .ok (.iadd, 1) := by decide +kernel
theorem dX7_take_42 : decode cX7_take 42 = .ok (.putfield 89, 3) := by decide +kernel
theorem dX7_take_45 : decode cX7_take 45 = .ok (.iload 4, 2) := by decide +kernel
theorem dX7_take_47 : decode cX7_take 47 = .ok (.ireturn, 1) := by decide +kernel
set_option maxRecDepth 20000 in
theorem ggX7_takePage_X7_take : GoodIn wsX7_takePage wsX7_take := goodIn_r _ [5, 6, 7, 8, 9, 10, 4, 11, 12, 13, 14, 15, 16, 17, 18, 19, 20, 21, 22, 23, 24, 25, 26, 27, 28, 29, 30, 31, 32, 33, 34, 35, 36, 37, 38, 39, 40, 41, 42, 43] (by decide +kernel) (by decide +kernel)
set_option maxRecDepth 20000 in
theorem gX7_takePage_X7_take : GoodIn wsX7_takePage (wsV RX7 96 RX7 yX7_take wsX7_take) := goodIn_app (goodIn_of _ (by decide +kernel)) ggX7_takePage_X7_take
theorem dX7_takePage_0 : decode cX7_takePage 0 = .ok (.aload_n 0, 1) := by decide +kernel
theorem dX7_takePage_1 : decode cX7_takePage 1 = .ok (.bipush 48, 2) := by decide +kernel
theorem dX7_takePage_3 : decode cX7_takePage 3 = .ok (.iconst 0, 1) := by decide +kernel
theorem dX7_takePage_4 : decode cX7_takePage 4 = .ok (.bipush 9, 2) := by decide +kernel
theorem dX7_takePage_6 : decode cX7_takePage 6 = .ok (.invokevirtual 96, 3) := by decide +kernel
theorem dX7_takePage_9 : decode cX7_takePage 9 = .ok (.istore_n 1, 1) := by decide +kernel
theorem dX7_takePage_10 : decode cX7_takePage 10 = .ok (.iload_n 1, 1) := by decide +kernel
theorem dX7_takePage_11 : decode cX7_takePage 11 = .ok (.bipush (-9), 2) := by decide +kernel
theorem dX7_takePage_13 : decode cX7_takePage 13 = .ok (.if_icmp .ne 6, 3) := by decide +kernel
theorem dX7_takePage_16 : decode cX7_takePage 16 = .ok (.bipush (-9), 2) := by decide +kernel
theorem dX7_takePage_18 : decode cX7_takePage 18 = .ok (.ireturn, 1) := by decide +kernel
theorem dX7_takePage_19 : decode cX7_takePage 19 = .ok (.aload_n 0, 1) := by decide +kernel
theorem dX7_takePage_20 : decode cX7_takePage 20 = .ok (.bipush 48, 2) := by decide +kernel
theorem dX7_takePage_22 : decode cX7_takePage 22 = .ok (.iload_n 1, 1) := by decide +kernel
theorem dX7_takePage_23 : decode cX7_takePage 23 = .ok (.ifCond .ne 7, 3) := by decide +kernel
theorem dX7_takePage_26 : decode cX7_takePage 26 = .ok (.iconst 1, 1) := by decide +kernel
theorem dX7_takePage_27 : decode cX7_takePage 27 = .ok (.goto 4, 3) := by decide +kernel
theorem dX7_takePage_30 : decode cX7_takePage 30 = .ok (.iconst 0, 1) := by decide +kernel
theorem dX7_takePage_31 : decode cX7_takePage 31 = .ok (.bipush 9, 2) := by decide +kernel
theorem dX7_takePage_33 : decode cX7_takePage 33 = .ok (.invokevirtual 96, 3) := by decide +kernel
theorem dX7_takePage_36 : decode cX7_takePage 36 = .ok (.istore_n 2, 1) := by decide +kernel
theorem dX7_takePage_37 : decode cX7_takePage 37 = .ok (.iload_n 2, 1) := by decide +kernel
theorem dX7_takePage_38 : decode cX7_takePage 38 = .ok (.bipush (-9), 2) := by decide +kernel
theorem dX7_takePage_40 : decode cX7_takePage 40 = .ok (.if_icmp .ne 8, 3) := by decide +kernel
theorem dX7_takePage_43 : decode cX7_takePage 43 = .ok (.bipush (-9), 2) := by decide +kernel
theorem dX7_takePage_45 : decode cX7_takePage 45 = .ok (.goto 9, 3) := by decide +kernel
theorem dX7_takePage_48 : decode cX7_takePage 48 = .ok (.bipush 10, 2) := by decide +kernel
theorem dX7_takePage_50 : decode cX7_takePage 50 = .ok (.iload_n 1, 1) := by decide +kernel
theorem dX7_takePage_51 : decode cX7_takePage 51 = .ok (.imul, 1) := by decide +kernel
theorem dX7_takePage_52 : decode cX7_takePage 52 = .ok (.iload_n 2, 1) := by decide +kernel
theorem dX7_takePage_53 : decode cX7_takePage 53 = .ok (.iadd, 1) := by decide +kernel
theorem dX7_takePage_54 : decode cX7_takePage 54 = .ok (.ireturn, 1) := by decide +kernel
set_option maxRecDepth 20000 in
theorem ggX7_takeReport_X7_take : GoodIn wsX7_takeReport wsX7_take := goodIn_r _ [5, 6, 7, 8, 9, 10, 4, 11, 12, 13, 14, 15, 20, 21, 22, 23, 24, 25, 26, 27, 28, 29, 30, 31, 32, 33, 34, 35, 36, 37, 38, 39, 40, 41, 42, 43, 44, 45, 46, 47] (by decide +kernel) (by decide +kernel)
set_option maxRecDepth 20000 in
theorem gX7_takeReport_X7_take : GoodIn wsX7_takeReport (wsV RX7 96 RX7 yX7_take wsX7_take) := goodIn_app (goodIn_of _ (by decide +kernel)) ggX7_takeReport_X7_take
set_option maxRecDepth 20000 in
theorem ggX7_takeReport_X7_takePage : GoodIn wsX7_takeReport wsX7_takePage := goodIn_r _ [19, 1, 2, 3, 4, 5, 6, 7, 8, 9, 10, 11, 12, 13, 14, 15, 20, 21, 22, 23, 24, 25, 26, 27, 28, 29, 30, 31, 32, 33, 34, 35, 36, 37, 38, 39, 40, 41, 42, 43, 44, 45, 46, 47] (by decide +kernel) (by decide +kernel)
set_option maxRecDepth 20000 in
theorem gX7_takeReport_X7_takePage : GoodIn wsX7_takeReport (wsV RX7 100 RX7 yX7_takePage wsX7_takePage) := goodIn_app (goodIn_of _ (by decide +kernel)) ggX7_takeReport_X7_takePage
theorem dX7_takeReport_0 : decode cX7_takeReport 0 = .ok (.aload_n 0, 1) := by decide +kernel
theorem dX7_takeReport_1 : decode cX7_takeReport 1 = .ok (.bipush 48, 2) := by decide +kernel
theorem dX7_takeReport_3 : decode cX7_takeReport 3 = .ok (.iconst 1, 1) := by decide +kernel
theorem dX7_takeReport_4 : decode cX7_takeReport 4 = .ok (.bipush 9, 2) := by decide +kernel
theorem dX7_takeReport_6 : decode cX7_takeReport 6 = .ok (.invokevirtual 96, 3) := by decide +kernel
theorem dX7_takeReport_9 : decode cX7_takeReport 9 = .ok (.istore_n 2, 1) := by decide +kernel
theorem dX7_takeReport_10 : decode cX7_takeReport 10 = .ok (.iload_n 2, 1) := by decide +kernel
theorem dX7_takeReport_11 : decode cX7_takeReport 11 = .ok (.bipush (-9), 2) := by decide +kernel
theorem dX7_takeReport_13 : decode cX7_takeReport 13 = .ok (.if_icmp .ne 6, 3) := by decide +kernel
theorem dX7_takeReport_16 : decode cX7_takeReport 16 = .ok (.bipush (-9), 2) := by decide +kernel
theorem dX7_takeReport_18 : decode cX7_takeReport 18 = .ok (.ireturn, 1) := by decide +kernel
theorem dX7_takeReport_19 : decode cX7_takeReport 19 = .ok (.iload_n 1, 1) := by decide +kernel
theorem dX7_takeReport_20 : decode cX7_takeReport 20 = .ok (.iconst 2, 1) := by decide +kernel
theorem dX7_takeReport_21 : decode cX7_takeReport 21 = .ok (.if_icmp .ne 14, 3) := by decide +kernel
theorem dX7_takeReport_24 : decode cX7_takeReport 24 = .ok (.aload_n 0, 1) := by decide +kernel
theorem dX7_takeReport_25 : decode cX7_takeReport 25 = .ok (.bipush 114, 2) := by decide +kernel
theorem dX7_takeReport_27 : decode cX7_takeReport 27 = .ok (.iconst 0, 1) := by decide +kernel
theorem dX7_takeReport_28 : decode cX7_takeReport 28 = .ok (.iconst 1, 1) := by decide +kernel
theorem dX7_takeReport_29 : decode cX7_takeReport 29 = .ok (.invokevirtual 96, 3) := by decide +kernel
theorem dX7_takeReport_32 : decode cX7_takeReport 32 = .ok (.goto 11, 3) := by decide +kernel
theorem dX7_takeReport_35 : decode cX7_takeReport 35 = .ok (.aload_n 0, 1) := by decide +kernel
theorem dX7_takeReport_36 : decode cX7_takeReport 36 = .ok (.bipush 114, 2) := by decide +kernel
theorem dX7_takeReport_38 : decode cX7_takeReport 38 = .ok (.iload_n 1, 1) := by decide +kernel
theorem dX7_takeReport_39 : decode cX7_takeReport 39 = .ok (.iload_n 1, 1) := by decide +kernel
theorem dX7_takeReport_40 : decode cX7_takeReport 40 = .ok (.invokevirtual 96, 3) := by decide +kernel
theorem dX7_takeReport_43 : decode cX7_takeReport 43 = .ok (.istore_n 3, 1) := by decide +kernel
theorem dX7_takeReport_44 : decode cX7_takeReport 44 = .ok (.iload_n 3, 1) := by decide +kernel
theorem dX7_takeReport_45 : decode cX7_takeReport 45 = .ok (.bipush (-9), 2) := by decide +kernel
theorem dX7_takeReport_47 : decode cX7_takeReport 47 = .ok (.if_icmp .ne 6, 3) := by decide +kernel
theorem dX7_takeReport_50 : decode cX7_takeReport 50 = .ok (.bipush (-9), 2) := by decide +kernel
theorem dX7_takeReport_52 : decode cX7_takeReport 52 = .ok (.ireturn, 1) := by decide +kernel
theorem dX7_takeReport_53 : decode cX7_takeReport 53 = .ok (.aload_n 0, 1) := by decide +kernel
theorem dX7_takeReport_54 : decode cX7_takeReport 54 = .ok (.invokevirtual 100, 3) := by decide +kernel
theorem dX7_takeReport_57 : decode cX7_takeReport 57 = .ok (.istore 4, 2) := by decide +kernel
theorem dX7_takeReport_59 : decode cX7_takeReport 59 = .ok (.iload 4, 2) := by decide +kernel
theorem dX7_takeReport_61 : decode cX7_takeReport 61 = .ok (.bipush (-9), 2) := by decide +kernel
theorem dX7_takeReport_63 : decode cX7_takeReport 63 = .ok (.if_icmp .ne 8, 3) := by decide +kernel
theorem dX7_takeReport_66 : decode cX7_takeReport 66 = .ok (.bipush (-9), 2) := by decide +kernel
theorem dX7_takeReport_68 : decode cX7_takeReport 68 = .ok (.goto 16, 3) := by decide +kernel
theorem dX7_takeReport_71 : decode cX7_takeReport 71 = .ok (.sipush 1000, 3) := by decide +kernel
theorem dX7_takeReport_74 : decode cX7_takeReport 74 = .ok (.iload_n 2, 1) := by decide +kernel
theorem dX7_takeReport_75 : decode cX7_takeReport 75 = .ok (.imul, 1) := by decide +kernel
theorem dX7_takeReport_76 : decode cX7_takeReport 76 = .ok (.bipush 100, 2) := by decide +kernel
theorem dX7_takeReport_78 : decode cX7_takeReport 78 = .ok (.iload_n 3, 1) := by decide +kernel
theorem dX7_takeReport_79 : decode cX7_takeReport 79 = .ok (.imul, 1) := by decide +kernel
theorem dX7_takeReport_80 : decode cX7_takeReport 80 = .ok (.iadd, 1) := by decide +kernel
theorem dX7_takeReport_81 : decode cX7_takeReport 81 = .ok (.iload 4, 2) := by decide +kernel
theorem dX7_takeReport_83 : decode cX7_takeReport 83 = .ok (.iadd, 1) := by decide +kernel
theorem dX7_takeReport_84 : decode cX7_takeReport 84 = .ok (.ireturn, 1) := by decide +kernel
set_option maxRecDepth 20000 in
theorem ggX7_readSpelled_X7_take : GoodIn wsX7_readSpelled wsX7_take := goodIn_r _ [7, 2, 8, 9, 10, 11, 6, 12, 13, 14, 15, 16, 25, 26, 27, 28, 29, 30, 31, 32, 33, 34, 35, 36, 37, 38, 39, 40, 41, 42, 43, 44, 45, 46, 47, 48, 49, 50, 51, 52] (by decide +kernel) (by decide +kernel)
set_option maxRecDepth 20000 in
theorem gX7_readSpelled_X7_take : GoodIn wsX7_readSpelled (wsV RX7 96 RX7 yX7_take wsX7_take) := goodIn_app (goodIn_of _ (by decide +kernel)) ggX7_readSpelled_X7_take
set_option maxRecDepth 20000 in
theorem ggX7_readSpelled_X7_takeReport : GoodIn wsX7_readSpelled wsX7_takeReport := goodIn_r _ [20, 3, 4, 5, 6, 7, 2, 8, 9, 10, 11, 12, 13, 14, 15, 16, 21, 22, 23, 24, 25, 26, 27, 28, 29, 30, 31, 32, 33, 34, 35, 36, 37, 38, 39, 40, 41, 42, 43, 44, 45, 46, 47, 48, 49, 50, 51, 52] (by decide +kernel) (by decide +kernel)
set_option maxRecDepth 20000 in
theorem gX7_readSpelled_X7_takeReport : GoodIn wsX7_readSpelled (wsV RX7 103 RX7 yX7_takeReport wsX7_takeReport) := goodIn_app (goodIn_of _ (by decide +kernel)) ggX7_readSpelled_X7_takeReport
set_option maxRecDepth 20000 in
theorem ggX7_readSpelled_X7_next : GoodIn wsX7_readSpelled wsX7_next := goodIn_r _ [12, 2, 8, 13, 25, 26, 27, 28, 29, 30, 31, 32, 33, 34, 35, 36, 37, 38, 39, 40, 41, 42, 43, 44, 45, 46, 47, 48, 49, 50, 51, 52] (by decide +kernel) (by decide +kernel)
set_option maxRecDepth 20000 in
theorem gX7_readSpelled_X7_next : GoodIn wsX7_readSpelled (wsV RX7 92 RX7 yX7_next wsX7_next) := goodIn_app (goodIn_of _ (by decide +kernel)) ggX7_readSpelled_X7_next
theorem dX7_readSpelled_0 : decode cX7_readSpelled 0 = .ok (.aload_n 0, 1) := by decide +kernel
theorem dX7_readSpelled_1 : decode cX7_readSpelled 1 = .ok (.bipush 65, 2) := by decide +kernel
theorem dX7_readSpelled_3 : decode cX7_readSpelled 3 = .ok (.iconst 0, 1) := by decide +kernel
theorem dX7_readSpelled_4 : decode cX7_readSpelled 4 = .ok (.iconst 5, 1) := by decide +kernel
theorem dX7_readSpelled_5 : decode cX7_readSpelled 5 = .ok (.invokevirtual 96, 3) := by decide +kernel
theorem dX7_readSpelled_8 : decode cX7_readSpelled 8 = .ok (.istore_n 2, 1) := by decide +kernel
theorem dX7_readSpelled_9 : decode cX7_readSpelled 9 = .ok (.aload_n 0, 1) := by decide +kernel
theorem dX7_readSpelled_10 : decode cX7_readSpelled 10 = .ok (.getfield 13, 3) := by decide +kernel
theorem dX7_readSpelled_13 : decode cX7_readSpelled 13 = .ok (.iload_n 1, 1) := by decide +kernel
theorem dX7_readSpelled_14 : decode cX7_readSpelled 14 = .ok (.iconst 2, 1) := by decide +kernel
theorem dX7_readSpelled_15 : decode cX7_readSpelled 15 = .ok (.iadd, 1) := by decide +kernel
theorem dX7_readSpelled_16 : decode cX7_readSpelled 16 = .ok (.iload_n 2, 1) := by decide +kernel
theorem dX7_readSpelled_17 : decode cX7_readSpelled 17 = .ok (.iastore, 1) := by decide +kernel
theorem dX7_readSpelled_18 : decode cX7_readSpelled 18 = .ok (.aload_n 0, 1) := by decide +kernel
theorem dX7_readSpelled_19 : decode cX7_readSpelled 19 = .ok (.iconst 2, 1) := by decide +kernel
theorem dX7_readSpelled_20 : decode cX7_readSpelled 20 = .ok (.invokevirtual 103, 3) := by decide +kernel
theorem dX7_readSpelled_23 : decode cX7_readSpelled 23 = .ok (.istore_n 3, 1) := by decide +kernel
theorem dX7_readSpelled_24 : decode cX7_readSpelled 24 = .ok (.iload_n 3, 1) := by decide +kernel
theorem dX7_readSpelled_25 : decode cX7_readSpelled 25 = .ok (.bipush (-9), 2) := by decide +kernel
theorem dX7_readSpelled_27 : decode cX7_readSpelled 27 = .ok (.if_icmp .ne 5, 3) := by decide +kernel
theorem dX7_readSpelled_30 : decode cX7_readSpelled 30 = .ok (.iconst 0, 1) := by decide +kernel
theorem dX7_readSpelled_31 : decode cX7_readSpelled 31 = .ok (.ireturn, 1) := by decide +kernel
theorem dX7_readSpelled_32 : decode cX7_readSpelled 32 = .ok (.aload_n 0, 1) := by decide +kernel
theorem dX7_readSpelled_33 : decode cX7_readSpelled 33 = .ok (.getfield 13, 3) := by decide +kernel
theorem dX7_readSpelled_36 : decode cX7_readSpelled 36 = .ok (.iload_n 1, 1) := by decide +kernel
theorem dX7_readSpelled_37 : decode cX7_readSpelled 37 = .ok (.iconst 3, 1) := by decide +kernel
theorem dX7_readSpelled_38 : decode cX7_readSpelled 38 = .ok (.iadd, 1) := by decide +kernel
theorem dX7_readSpelled_39 : decode cX7_readSpelled 39 = .ok (.iload_n 3, 1) := by decide +kernel
theorem dX7_readSpelled_40 : decode cX7_readSpelled 40 = .ok (.iastore, 1) := by decide +kernel
theorem dX7_readSpelled_41 : decode cX7_readSpelled 41 = .ok (.aload_n 0, 1) := by decide +kernel
theorem dX7_readSpelled_42 : decode cX7_readSpelled 42 = .ok (.invokevirtual 92, 3) := by decide +kernel
theorem dX7_readSpelled_45 : decode cX7_readSpelled 45 = .ok (.bipush 61, 2) := by decide +kernel
theorem dX7_readSpelled_47 : decode cX7_readSpelled 47 = .ok (.if_icmp .ne 51, 3) := by decide +kernel
theorem dX7_readSpelled_50 : decode cX7_readSpelled 50 = .ok (.aload_n 0, 1) := by decide +kernel
theorem dX7_readSpelled_51 : decode cX7_readSpelled 51 = .ok (.dup, 1) := by decide +kernel
theorem dX7_readSpelled_52 : decode cX7_readSpelled 52 = .ok (.getfield 89, 3) := by decide +kernel
theorem dX7_readSpelled_55 : decode cX7_readSpelled 55 = .ok (.iconst 1, 1) := by decide +kernel
theorem dX7_readSpelled_56 : decode cX7_readSpelled 56 = .ok (.iadd, 1) := by decide +kernel
theorem dX7_readSpelled_57 : decode cX7_readSpelled 57 = .ok (.putfield 89, 3) := by decide +kernel
theorem dX7_readSpelled_60 : decode cX7_readSpelled 60 = .ok (.aload_n 0, 1) := by decide +kernel
theorem dX7_readSpelled_61 : decode cX7_readSpelled 61 = .ok (.iconst 1, 1) := by decide +kernel
theorem dX7_readSpelled_62 : decode cX7_readSpelled 62 = .ok (.iload_n 3, 1) := by decide +kernel
theorem dX7_readSpelled_63 : decode cX7_readSpelled 63 = .ok (.bipush 100, 2) := by decide +kernel
theorem dX7_readSpelled_65 : decode cX7_readSpelled 65 = .ok (.idiv, 1) := by decide +kernel
theorem dX7_readSpelled_66 : decode cX7_readSpelled 66 = .ok (.bipush 10, 2) := by decide +kernel
theorem dX7_readSpelled_68 : decode cX7_readSpelled 68 = .ok (.irem, 1) := by decide +kernel
theorem dX7_readSpelled_69 : decode cX7_readSpelled 69 = .ok (.isub, 1) := by decide +kernel
theorem dX7_readSpelled_70 : decode cX7_readSpelled 70 = .ok (.invokevirtual 103, 3) := by decide +kernel
theorem dX7_readSpelled_73 : decode cX7_readSpelled 73 = .ok (.istore 4, 2) := by decide +kernel
theorem dX7_readSpelled_75 : decode cX7_readSpelled 75 = .ok (.aload_n 0, 1) := by decide +kernel
theorem dX7_readSpelled_76 : decode cX7_readSpelled 76 = .ok (.getfield 13, 3) := by decide +kernel
theorem dX7_readSpelled_79 : decode cX7_readSpelled 79 = .ok (.iload_n 1, 1) := by decide +kernel
theorem dX7_readSpelled_80 : decode cX7_readSpelled 80 = .ok (.iconst 4, 1) := by decide +kernel
theorem dX7_readSpelled_81 : decode cX7_readSpelled 81 = .ok (.iadd, 1) := by decide +kernel
theorem dX7_readSpelled_82 : decode cX7_readSpelled 82 = .ok (.iload 4, 2) := by decide +kernel
theorem dX7_readSpelled_84 : decode cX7_readSpelled 84 = .ok (.iastore, 1) := by decide +kernel
theorem dX7_readSpelled_85 : decode cX7_readSpelled 85 = .ok (.iload 4, 2) := by decide +kernel
theorem dX7_readSpelled_87 : decode cX7_readSpelled 87 = .ok (.bipush (-9), 2) := by decide +kernel
theorem dX7_readSpelled_89 : decode cX7_readSpelled 89 = .ok (.if_icmp .eq 7, 3) := by decide +kernel
theorem dX7_readSpelled_92 : decode cX7_readSpelled 92 = .ok (.iconst 1, 1) := by decide +kernel
theorem dX7_readSpelled_93 : decode cX7_readSpelled 93 = .ok (.goto 4, 3) := by decide +kernel
theorem dX7_readSpelled_96 : decode cX7_readSpelled 96 = .ok (.iconst 0, 1) := by decide +kernel
theorem dX7_readSpelled_97 : decode cX7_readSpelled 97 = .ok (.ireturn, 1) := by decide +kernel
theorem dX7_readSpelled_98 : decode cX7_readSpelled 98 = .ok (.iconst 1, 1) := by decide +kernel
theorem dX7_readSpelled_99 : decode cX7_readSpelled 99 = .ok (.ireturn, 1) := by decide +kernel
set_option maxRecDepth 20000 in
theorem ggX7_readAbove_X7_take : GoodIn wsX7_readAbove wsX7_take := goodIn_r _ [6, 7, 8, 9, 10, 11, 5, 12, 13, 14, 15, 16, 17, 18, 19, 20, 21, 22, 23, 24, 25, 26, 27, 28, 29, 30, 31, 32, 33, 34, 35, 36, 37, 38, 39, 40, 41, 42, 43, 44] (by decide +kernel) (by decide +kernel)
set_option maxRecDepth 20000 in
theorem gX7_readAbove_X7_take : GoodIn wsX7_readAbove (wsV RX7 96 RX7 yX7_take wsX7_take) := goodIn_app (goodIn_of _ (by decide +kernel)) ggX7_readAbove_X7_take
theorem dX7_readAbove_0 : decode cX7_readAbove 0 = .ok (.aload_n 0, 1) := by decide +kernel
theorem dX7_readAbove_1 : decode cX7_readAbove 1 = .ok (.getfield 13, 3) := by decide +kernel
theorem dX7_readAbove_4 : decode cX7_readAbove 4 = .ok (.iload_n 1, 1) := by decide +kernel
theorem dX7_readAbove_5 : decode cX7_readAbove 5 = .ok (.iconst 0, 1) := by decide +kernel
theorem dX7_readAbove_6 : decode cX7_readAbove 6 = .ok (.iadd, 1) := by decide +kernel
theorem dX7_readAbove_7 : decode cX7_readAbove 7 = .ok (.iconst 3, 1) := by decide +kernel
theorem dX7_readAbove_8 : decode cX7_readAbove 8 = .ok (.iastore, 1) := by decide +kernel
theorem dX7_readAbove_9 : decode cX7_readAbove 9 = .ok (.aload_n 0, 1) := by decide +kernel
theorem dX7_readAbove_10 : decode cX7_readAbove 10 = .ok (.bipush 48, 2) := by decide +kernel
theorem dX7_readAbove_12 : decode cX7_readAbove 12 = .ok (.iconst 0, 1) := by decide +kernel
theorem dX7_readAbove_13 : decode cX7_readAbove 13 = .ok (.bipush 9, 2) := by decide +kernel
theorem dX7_readAbove_15 : decode cX7_readAbove 15 = .ok (.invokevirtual 96, 3) := by decide +kernel
theorem dX7_readAbove_18 : decode cX7_readAbove 18 = .ok (.istore_n 2, 1) := by decide +kernel
theorem dX7_readAbove_19 : decode cX7_readAbove 19 = .ok (.aload_n 0, 1) := by decide +kernel
theorem dX7_readAbove_20 : decode cX7_readAbove 20 = .ok (.getfield 13, 3) := by decide +kernel
theorem dX7_readAbove_23 : decode cX7_readAbove 23 = .ok (.iload_n 1, 1) := by decide +kernel
theorem dX7_readAbove_24 : decode cX7_readAbove 24 = .ok (.bipush 6, 2) := by decide +kernel
theorem dX7_readAbove_26 : decode cX7_readAbove 26 = .ok (.iadd, 1) := by decide +kernel
theorem dX7_readAbove_27 : decode cX7_readAbove 27 = .ok (.iload_n 2, 1) := by decide +kernel
theorem dX7_readAbove_28 : decode cX7_readAbove 28 = .ok (.iastore, 1) := by decide +kernel
theorem dX7_readAbove_29 : decode cX7_readAbove 29 = .ok (.iload_n 2, 1) := by decide +kernel
theorem dX7_readAbove_30 : decode cX7_readAbove 30 = .ok (.bipush (-9), 2) := by decide +kernel
theorem dX7_readAbove_32 : decode cX7_readAbove 32 = .ok (.if_icmp .ne 8, 3) := by decide +kernel
theorem dX7_readAbove_35 : decode cX7_readAbove 35 = .ok (.bipush (-9), 2) := by decide +kernel
theorem dX7_readAbove_37 : decode cX7_readAbove 37 = .ok (.goto 11, 3) := by decide +kernel
theorem dX7_readAbove_40 : decode cX7_readAbove 40 = .ok (.aload_n 0, 1) := by decide +kernel
theorem dX7_readAbove_41 : decode cX7_readAbove 41 = .ok (.bipush 65, 2) := by decide +kernel
theorem dX7_readAbove_43 : decode cX7_readAbove 43 = .ok (.iconst 0, 1) := by decide +kernel
theorem dX7_readAbove_44 : decode cX7_readAbove 44 = .ok (.iconst 5, 1) := by decide +kernel
theorem dX7_readAbove_45 : decode cX7_readAbove 45 = .ok (.invokevirtual 96, 3) := by decide +kernel
theorem dX7_readAbove_48 : decode cX7_readAbove 48 = .ok (.istore_n 3, 1) := by decide +kernel
theorem dX7_readAbove_49 : decode cX7_readAbove 49 = .ok (.aload_n 0, 1) := by decide +kernel
theorem dX7_readAbove_50 : decode cX7_readAbove 50 = .ok (.getfield 13, 3) := by decide +kernel
theorem dX7_readAbove_53 : decode cX7_readAbove 53 = .ok (.iload_n 1, 1) := by decide +kernel
theorem dX7_readAbove_54 : decode cX7_readAbove 54 = .ok (.iconst 5, 1) := by decide +kernel
theorem dX7_readAbove_55 : decode cX7_readAbove 55 = .ok (.iadd, 1) := by decide +kernel
theorem dX7_readAbove_56 : decode cX7_readAbove 56 = .ok (.iload_n 3, 1) := by decide +kernel
theorem dX7_readAbove_57 : decode cX7_readAbove 57 = .ok (.iastore, 1) := by decide +kernel
theorem dX7_readAbove_58 : decode cX7_readAbove 58 = .ok (.iload_n 3, 1) := by decide +kernel
theorem dX7_readAbove_59 : decode cX7_readAbove 59 = .ok (.bipush (-9), 2) := by decide +kernel
theorem dX7_readAbove_61 : decode cX7_readAbove 61 = .ok (.if_icmp .eq 7, 3) := by decide +kernel
theorem dX7_readAbove_64 : decode cX7_readAbove 64 = .ok (.iconst 1, 1) := by decide +kernel
theorem dX7_readAbove_65 : decode cX7_readAbove 65 = .ok (.goto 4, 3) := by decide +kernel
theorem dX7_readAbove_68 : decode cX7_readAbove 68 = .ok (.iconst 0, 1) := by decide +kernel
theorem dX7_readAbove_69 : decode cX7_readAbove 69 = .ok (.ireturn, 1) := by decide +kernel
set_option maxRecDepth 20000 in
theorem ggX7_readName_X7_take : GoodIn wsX7_readName wsX7_take := goodIn_r _ [8, 9, 10, 11, 12, 13, 7, 14, 15, 16, 17, 18, 31, 32, 33, 34, 35, 36, 37, 38, 39, 40, 41, 42, 43, 44, 45, 46, 47, 48, 49, 50, 51, 52, 53, 54, 55, 56, 57, 58] (by decide +kernel) (by decide +kernel)
set_option maxRecDepth 20000 in
theorem gX7_readName_X7_take : GoodIn wsX7_readName (wsV RX7 96 RX7 yX7_take wsX7_take) := goodIn_app (goodIn_of _ (by decide +kernel)) ggX7_readName_X7_take
set_option maxRecDepth 20000 in
theorem ggX7_readName_X7_next : GoodIn wsX7_readName wsX7_next := goodIn_r _ [14, 9, 10, 15, 31, 32, 33, 34, 35, 36, 37, 38, 39, 40, 41, 42, 43, 44, 45, 46, 47, 48, 49, 50, 51, 52, 53, 54, 55, 56, 57, 58] (by decide +kernel) (by decide +kernel)
set_option maxRecDepth 20000 in
theorem gX7_readName_X7_next : GoodIn wsX7_readName (wsV RX7 92 RX7 yX7_next wsX7_next) := goodIn_app (goodIn_of _ (by decide +kernel)) ggX7_readName_X7_next
set_option maxRecDepth 20000 in
theorem ggX7_readName_X7_in : GoodIn wsX7_readName wsX7_in := goodIn_r _ [18] (by decide +kernel) (by decide +kernel)
set_option maxRecDepth 20000 in
theorem gX7_readName_X7_in : GoodIn wsX7_readName (va_wsS RX7 72 yX7_in wsX7_in) := goodIn_app (goodIn_of _ (by decide +kernel)) ggX7_readName_X7_in
set_option maxRecDepth 20000 in
theorem ggX7_readName_X7_readSpelled : GoodIn wsX7_readName wsX7_readSpelled := goodIn_r _ [22, 3, 9, 4, 5, 6, 7, 8, 10, 11, 12, 13, 14, 15, 16, 17, 18, 23, 24, 25, 26, 27, 28, 29, 30, 31, 32, 33, 34, 35, 36, 37, 38, 39, 40, 41, 42, 43, 44, 45, 46, 47, 48, 49, 50, 51, 52, 53, 54, 55, 56, 57, 58] (by decide +kernel) (by decide +kernel)
set_option maxRecDepth 20000 in
theorem gX7_readName_X7_readSpelled : GoodIn wsX7_readName (wsV RX7 111 RX7 yX7_readSpelled wsX7_readSpelled) := goodIn_app (goodIn_of _ (by decide +kernel)) ggX7_readName_X7_readSpelled
theorem dX7_readName_0 : decode cX7_readName 0 = .ok (.aload_n 0, 1) := by decide +kernel
theorem dX7_readName_1 : decode cX7_readName 1 = .ok (.bipush 65, 2) := by decide +kernel
theorem dX7_readName_3 : decode cX7_readName 3 = .ok (.iconst 0, 1) := by decide +kernel
theorem dX7_readName_4 : decode cX7_readName 4 = .ok (.iconst 5, 1) := by decide +kernel
theorem dX7_readName_5 : decode cX7_readName 5 = .ok (.invokevirtual 96, 3) := by decide +kernel
theorem dX7_readName_8 : decode cX7_readName 8 = .ok (.istore_n 2, 1) := by decide +kernel
theorem dX7_readName_9 : decode cX7_readName 9 = .ok (.iload_n 2, 1) := by decide +kernel
theorem dX7_readName_10 : decode cX7_readName 10 = .ok (.bipush (-9), 2) := by decide +kernel
theorem dX7_readName_12 : decode cX7_readName 12 = .ok (.if_icmp .ne 5, 3) := by decide +kernel
theorem dX7_readName_15 : decode cX7_readName 15 = .ok (.iconst 0, 1) := by decide +kernel
theorem dX7_readName_16 : decode cX7_readName 16 = .ok (.ireturn, 1) := by decide +kernel
theorem dX7_readName_17 : decode cX7_readName 17 = .ok (.aload_n 0, 1) := by decide +kernel
theorem dX7_readName_18 : decode cX7_readName 18 = .ok (.invokevirtual 92, 3) := by decide +kernel
theorem dX7_readName_21 : decode cX7_readName 21 = .ok (.i2l, 1) := by decide +kernel
theorem dX7_readName_22 : decode cX7_readName 22 = .ok (.ldc2_w 107, 3) := by decide +kernel
theorem dX7_readName_25 : decode cX7_readName 25 = .ok (.ldc2_w 109, 3) := by decide +kernel
theorem dX7_readName_28 : decode cX7_readName 28 = .ok (.invokestatic 72, 3) := by decide +kernel
theorem dX7_readName_31 : decode cX7_readName 31 = .ok (.ifCond .eq 38, 3) := by decide +kernel
theorem dX7_readName_34 : decode cX7_readName 34 = .ok (.aload_n 0, 1) := by decide +kernel
theorem dX7_readName_35 : decode cX7_readName 35 = .ok (.invokevirtual 92, 3) := by decide +kernel
theorem dX7_readName_38 : decode cX7_readName 38 = .ok (.bipush 65, 2) := by decide +kernel
theorem dX7_readName_40 : decode cX7_readName 40 = .ok (.iload_n 2, 1) := by decide +kernel
theorem dX7_readName_41 : decode cX7_readName 41 = .ok (.iadd, 1) := by decide +kernel
theorem dX7_readName_42 : decode cX7_readName 42 = .ok (.if_icmp .eq 27, 3) := by decide +kernel
theorem dX7_readName_45 : decode cX7_readName 45 = .ok (.aload_n 0, 1) := by decide +kernel
theorem dX7_readName_46 : decode cX7_readName 46 = .ok (.getfield 13, 3) := by decide +kernel
theorem dX7_readName_49 : decode cX7_readName 49 = .ok (.iload_n 1, 1) := by decide +kernel
theorem dX7_readName_50 : decode cX7_readName 50 = .ok (.iconst 0, 1) := by decide +kernel
theorem dX7_readName_51 : decode cX7_readName 51 = .ok (.iadd, 1) := by decide +kernel
theorem dX7_readName_52 : decode cX7_readName 52 = .ok (.iconst 0, 1) := by decide +kernel
theorem dX7_readName_53 : decode cX7_readName 53 = .ok (.iastore, 1) := by decide +kernel
theorem dX7_readName_54 : decode cX7_readName 54 = .ok (.aload_n 0, 1) := by decide +kernel
theorem dX7_readName_55 : decode cX7_readName 55 = .ok (.getfield 13, 3) := by decide +kernel
theorem dX7_readName_58 : decode cX7_readName 58 = .ok (.iload_n 1, 1) := by decide +kernel
theorem dX7_readName_59 : decode cX7_readName 59 = .ok (.iconst 1, 1) := by decide +kernel
theorem dX7_readName_60 : decode cX7_readName 60 = .ok (.iadd, 1) := by decide +kernel
theorem dX7_readName_61 : decode cX7_readName 61 = .ok (.iload_n 2, 1) := by decide +kernel
theorem dX7_readName_62 : decode cX7_readName 62 = .ok (.iastore, 1) := by decide +kernel
theorem dX7_readName_63 : decode cX7_readName 63 = .ok (.aload_n 0, 1) := by decide +kernel
theorem dX7_readName_64 : decode cX7_readName 64 = .ok (.iload_n 1, 1) := by decide +kernel
theorem dX7_readName_65 : decode cX7_readName 65 = .ok (.invokevirtual 111, 3) := by decide +kernel
theorem dX7_readName_68 : decode cX7_readName 68 = .ok (.ireturn, 1) := by decide +kernel
theorem dX7_readName_69 : decode cX7_readName 69 = .ok (.aload_n 0, 1) := by decide +kernel
theorem dX7_readName_70 : decode cX7_readName 70 = .ok (.getfield 13, 3) := by decide +kernel
theorem dX7_readName_73 : decode cX7_readName 73 = .ok (.iload_n 1, 1) := by decide +kernel
theorem dX7_readName_74 : decode cX7_readName 74 = .ok (.iconst 0, 1) := by decide +kernel
theorem dX7_readName_75 : decode cX7_readName 75 = .ok (.iadd, 1) := by decide +kernel
theorem dX7_readName_76 : decode cX7_readName 76 = .ok (.iconst 1, 1) := by decide +kernel
theorem dX7_readName_77 : decode cX7_readName 77 = .ok (.iastore, 1) := by decide +kernel
theorem dX7_readName_78 : decode cX7_readName 78 = .ok (.aload_n 0, 1) := by decide +kernel
theorem dX7_readName_79 : decode cX7_readName 79 = .ok (.getfield 13, 3) := by decide +kernel
theorem dX7_readName_82 : decode cX7_readName 82 = .ok (.iload_n 1, 1) := by decide +kernel
theorem dX7_readName_83 : decode cX7_readName 83 = .ok (.iconst 5, 1) := by decide +kernel
theorem dX7_readName_84 : decode cX7_readName 84 = .ok (.iadd, 1) := by decide +kernel
theorem dX7_readName_85 : decode cX7_readName 85 = .ok (.iload_n 2, 1) := by decide +kernel
theorem dX7_readName_86 : decode cX7_readName 86 = .ok (.iastore, 1) := by decide +kernel
theorem dX7_readName_87 : decode cX7_readName 87 = .ok (.iconst 1, 1) := by decide +kernel
theorem dX7_readName_88 : decode cX7_readName 88 = .ok (.ireturn, 1) := by decide +kernel
set_option maxRecDepth 20000 in
theorem ggX7_readReference_X7_next : GoodIn wsX7_readReference wsX7_next := goodIn_r _ [7, 2, 8, 9, 39, 40, 41, 42, 43, 44, 45, 46, 47, 48, 49, 50, 51, 52, 53, 54, 55, 56, 57, 58, 59, 60, 61, 62, 63, 64, 65, 66] (by decide +kernel) (by decide +kernel)
set_option maxRecDepth 20000 in
theorem gX7_readReference_X7_next : GoodIn wsX7_readReference (wsV RX7 92 RX7 yX7_next wsX7_next) := goodIn_app (goodIn_of _ (by decide +kernel)) ggX7_readReference_X7_next
set_option maxRecDepth 20000 in
theorem ggX7_readReference_X7_readAbove : GoodIn wsX7_readReference wsX7_readAbove := goodIn_r _ [13, 1, 14, 15, 16, 6, 17, 2, 8, 3, 4, 5, 7, 9, 18, 19, 20, 39, 40, 41, 42, 43, 44, 45, 46, 47, 48, 49, 50, 51, 52, 53, 54, 55, 56, 57, 58, 59, 60, 61, 62, 63, 64, 65, 66] (by decide +kernel) (by decide +kernel)
set_option maxRecDepth 20000 in
theorem gX7_readReference_X7_readAbove : GoodIn wsX7_readReference (wsV RX7 115 RX7 yX7_readAbove wsX7_readAbove) := goodIn_app (goodIn_of _ (by decide +kernel)) ggX7_readReference_X7_readAbove
set_option maxRecDepth 20000 in
theorem ggX7_readReference_X7_readName : GoodIn wsX7_readReference wsX7_readName := goodIn_r _ [24, 25, 26, 1, 14, 15, 16, 6, 17, 2, 8, 3, 4, 5, 7, 9, 18, 19, 20, 27, 28, 29, 30, 31, 32, 33, 34, 35, 36, 37, 38, 39, 40, 41, 42, 43, 44, 45, 46, 47, 48, 49, 50, 51, 52, 53, 54, 55, 56, 57, 58, 59, 60, 61, 62, 63, 64, 65, 66] (by decide +kernel) (by decide +kernel)
set_option maxRecDepth 20000 in
theorem gX7_readReference_X7_readName : GoodIn wsX7_readReference (wsV RX7 118 RX7 yX7_readName wsX7_readName) := goodIn_app (goodIn_of _ (by decide +kernel)) ggX7_readReference_X7_readName
set_option maxRecDepth 20000 in
theorem ggX7_readReference_X7_takePage : GoodIn wsX7_readReference wsX7_takePage := goodIn_r _ [38, 14, 15, 16, 6, 17, 2, 8, 3, 4, 5, 7, 9, 18, 19, 20, 39, 40, 41, 42, 43, 44, 45, 46, 47, 48, 49, 50, 51, 52, 53, 54, 55, 56, 57, 58, 59, 60, 61, 62, 63, 64, 65, 66] (by decide +kernel) (by decide +kernel)
set_option maxRecDepth 20000 in
theorem gX7_readReference_X7_takePage : GoodIn wsX7_readReference (wsV RX7 100 RX7 yX7_takePage wsX7_takePage) := goodIn_app (goodIn_of _ (by decide +kernel)) ggX7_readReference_X7_takePage
theorem dX7_readReference_0 : decode cX7_readReference 0 = .ok (.iconst 0, 1) := by decide +kernel
theorem dX7_readReference_1 : decode cX7_readReference 1 = .ok (.istore_n 2, 1) := by decide +kernel
theorem dX7_readReference_2 : decode cX7_readReference 2 = .ok (.iload_n 2, 1) := by decide +kernel
theorem dX7_readReference_3 : decode cX7_readReference 3 = .ok (.bipush 8, 2) := by decide +kernel
theorem dX7_readReference_5 : decode cX7_readReference 5 = .ok (.if_icmp .ge 18, 3) := by decide +kernel
theorem dX7_readReference_8 : decode cX7_readReference 8 = .ok (.aload_n 0, 1) := by decide +kernel
theorem dX7_readReference_9 : decode cX7_readReference 9 = .ok (.getfield 13, 3) := by decide +kernel
theorem dX7_readReference_12 : decode cX7_readReference 12 = .ok (.iload_n 1, 1) := by decide +kernel
theorem dX7_readReference_13 : decode cX7_readReference 13 = .ok (.iload_n 2, 1) := by decide +kernel
theorem dX7_readReference_14 : decode cX7_readReference 14 = .ok (.iadd, 1) := by decide +kernel
theorem dX7_readReference_15 : decode cX7_readReference 15 = .ok (.iconst 0, 1) := by decide +kernel
theorem dX7_readReference_16 : decode cX7_readReference 16 = .ok (.iastore, 1) := by decide +kernel
theorem dX7_readReference_17 : decode cX7_readReference 17 = .ok (.iinc 2 1, 3) := by decide +kernel
theorem dX7_readReference_20 : decode cX7_readReference 20 = .ok (.goto (-18), 3) := by decide +kernel
theorem dX7_readReference_23 : decode cX7_readReference 23 = .ok (.iconst 1, 1) := by decide +kernel
theorem dX7_readReference_24 : decode cX7_readReference 24 = .ok (.istore_n 2, 1) := by decide +kernel
theorem dX7_readReference_25 : decode cX7_readReference 25 = .ok (.aload_n 0, 1) := by decide +kernel
theorem dX7_readReference_26 : decode cX7_readReference 26 = .ok (.invokevirtual 92, 3) := by decide +kernel
theorem dX7_readReference_29 : decode cX7_readReference 29 = .ok (.bipush 105, 2) := by decide +kernel
theorem dX7_readReference_31 : decode cX7_readReference 31 = .ok (.if_icmp .ne 25, 3) := by decide +kernel
theorem dX7_readReference_34 : decode cX7_readReference 34 = .ok (.aload_n 0, 1) := by decide +kernel
theorem dX7_readReference_35 : decode cX7_readReference 35 = .ok (.dup, 1) := by decide +kernel
theorem dX7_readReference_36 : decode cX7_readReference 36 = .ok (.getfield 89, 3) := by decide +kernel
theorem dX7_readReference_39 : decode cX7_readReference 39 = .ok (.iconst 1, 1) := by decide +kernel
theorem dX7_readReference_40 : decode cX7_readReference 40 = .ok (.iadd, 1) := by decide +kernel
theorem dX7_readReference_41 : decode cX7_readReference 41 = .ok (.putfield 89, 3) := by decide +kernel
theorem dX7_readReference_44 : decode cX7_readReference 44 = .ok (.aload_n 0, 1) := by decide +kernel
theorem dX7_readReference_45 : decode cX7_readReference 45 = .ok (.getfield 13, 3) := by decide +kernel
theorem dX7_readReference_48 : decode cX7_readReference 48 = .ok (.iload_n 1, 1) := by decide +kernel
theorem dX7_readReference_49 : decode cX7_readReference 49 = .ok (.iconst 0, 1) := by decide +kernel
theorem dX7_readReference_50 : decode cX7_readReference 50 = .ok (.iadd, 1) := by decide +kernel
theorem dX7_readReference_51 : decode cX7_readReference 51 = .ok (.iconst 2, 1) := by decide +kernel
theorem dX7_readReference_52 : decode cX7_readReference 52 = .ok (.iastore, 1) := by decide +kernel
theorem dX7_readReference_53 : decode cX7_readReference 53 = .ok (.goto 37, 3) := by decide +kernel
theorem dX7_readReference_56 : decode cX7_readReference 56 = .ok (.aload_n 0, 1) := by decide +kernel
theorem dX7_readReference_57 : decode cX7_readReference 57 = .ok (.invokevirtual 92, 3) := by decide +kernel
theorem dX7_readReference_60 : decode cX7_readReference 60 = .ok (.bipush 97, 2) := by decide +kernel
theorem dX7_readReference_62 : decode cX7_readReference 62 = .ok (.if_icmp .ne 22, 3) := by decide +kernel
theorem dX7_readReference_65 : decode cX7_readReference 65 = .ok (.aload_n 0, 1) := by decide +kernel
theorem dX7_readReference_66 : decode cX7_readReference 66 = .ok (.dup, 1) := by decide +kernel
theorem dX7_readReference_67 : decode cX7_readReference 67 = .ok (.getfield 89, 3) := by decide +kernel
theorem dX7_readReference_70 : decode cX7_readReference 70 = .ok (.iconst 1, 1) := by decide +kernel
theorem dX7_readReference_71 : decode cX7_readReference 71 = .ok (.iadd, 1) := by decide +kernel
theorem dX7_readReference_72 : decode cX7_readReference 72 = .ok (.putfield 89, 3) := by decide +kernel
theorem dX7_readReference_75 : decode cX7_readReference 75 = .ok (.aload_n 0, 1) := by decide +kernel
theorem dX7_readReference_76 : decode cX7_readReference 76 = .ok (.iload_n 1, 1) := by decide +kernel
theorem dX7_readReference_77 : decode cX7_readReference 77 = .ok (.invokevirtual 115, 3) := by decide +kernel
theorem dX7_readReference_80 : decode cX7_readReference 80 = .ok (.istore_n 2, 1) := by decide +kernel
theorem dX7_readReference_81 : decode cX7_readReference 81 = .ok (.goto 9, 3) := by decide +kernel
theorem dX7_readReference_84 : decode cX7_readReference 84 = .ok (.aload_n 0, 1) := by decide +kernel
theorem dX7_readReference_85 : decode cX7_readReference 85 = .ok (.iload_n 1, 1) := by decide +kernel
theorem dX7_readReference_86 : decode cX7_readReference 86 = .ok (.invokevirtual 118, 3) := by decide +kernel
theorem dX7_readReference_89 : decode cX7_readReference 89 = .ok (.istore_n 2, 1) := by decide +kernel
theorem dX7_readReference_90 : decode cX7_readReference 90 = .ok (.iload_n 2, 1) := by decide +kernel
theorem dX7_readReference_91 : decode cX7_readReference 91 = .ok (.ifCond .eq 49, 3) := by decide +kernel
theorem dX7_readReference_94 : decode cX7_readReference 94 = .ok (.aload_n 0, 1) := by decide +kernel
theorem dX7_readReference_95 : decode cX7_readReference 95 = .ok (.invokevirtual 92, 3) := by decide +kernel
theorem dX7_readReference_98 : decode cX7_readReference 98 = .ok (.bipush 64, 2) := by decide +kernel
theorem dX7_readReference_100 : decode cX7_readReference 100 = .ok (.if_icmp .ne 40, 3) := by decide +kernel
theorem dX7_readReference_103 : decode cX7_readReference 103 = .ok (.aload_n 0, 1) := by decide +kernel
theorem dX7_readReference_104 : decode cX7_readReference 104 = .ok (.dup, 1) := by decide +kernel
theorem dX7_readReference_105 : decode cX7_readReference 105 = .ok (.getfield 89, 3) := by decide +kernel
theorem dX7_readReference_108 : decode cX7_readReference 108 = .ok (.iconst 1, 1) := by decide +kernel
theorem dX7_readReference_109 : decode cX7_readReference 109 = .ok (.iadd, 1) := by decide +kernel
theorem dX7_readReference_110 : decode cX7_readReference 110 = .ok (.putfield 89, 3) := by decide +kernel
theorem dX7_readReference_113 : decode cX7_readReference 113 = .ok (.aload_n 0, 1) := by decide +kernel
theorem dX7_readReference_114 : decode cX7_readReference 114 = .ok (.invokevirtual 100, 3) := by decide +kernel
theorem dX7_readReference_117 : decode cX7_readReference 117 = .ok (.istore_n 3, 1) := by decide +kernel
theorem dX7_readReference_118 : decode cX7_readReference 118 = .ok (.aload_n 0, 1) := by decide +kernel
theorem dX7_readReference_119 : decode cX7_readReference 119 = .ok (.getfield 13, 3) := by decide +kernel
theorem dX7_readReference_122 : decode cX7_readReference 122 = .ok (.iload_n 1, 1) := by decide +kernel
theorem dX7_readReference_123 : decode cX7_readReference 123 = .ok (.bipush 7, 2) := by decide +kernel
theorem dX7_readReference_125 : decode cX7_readReference 125 = .ok (.iadd, 1) := by decide +kernel
theorem dX7_readReference_126 : decode cX7_readReference 126 = .ok (.iload_n 3, 1) := by decide +kernel
theorem dX7_readReference_127 : decode cX7_readReference 127 = .ok (.iastore, 1) := by decide +kernel
theorem dX7_readReference_128 : decode cX7_readReference 128 = .ok (.iload_n 3, 1) := by decide +kernel
theorem dX7_readReference_129 : decode cX7_readReference 129 = .ok (.bipush (-9), 2) := by decide +kernel
theorem dX7_readReference_131 : decode cX7_readReference 131 = .ok (.if_icmp .eq 7, 3) := by decide +kernel
theorem dX7_readReference_134 : decode cX7_readReference 134 = .ok (.iconst 1, 1) := by decide +kernel
theorem dX7_readReference_135 : decode cX7_readReference 135 = .ok (.goto 4, 3) := by decide +kernel
theorem dX7_readReference_138 : decode cX7_readReference 138 = .ok (.iconst 0, 1) := by decide +kernel
theorem dX7_readReference_139 : decode cX7_readReference 139 = .ok (.istore_n 2, 1) := by decide +kernel
theorem dX7_readReference_140 : decode cX7_readReference 140 = .ok (.iload_n 2, 1) := by decide +kernel
theorem dX7_readReference_141 : decode cX7_readReference 141 = .ok (.ireturn, 1) := by decide +kernel
set_option maxRecDepth 20000 in
theorem ggX7_readPaper_X7_readReference : GoodIn wsX7_readPaper wsX7_readReference := goodIn_r _ [8, 1, 2, 9, 10, 11, 7, 12, 3, 13, 14, 15, 16, 17, 18, 19, 20, 21, 22, 23, 24, 25, 26, 27, 28, 29, 30, 31, 32, 33, 34, 35, 36, 37, 38, 39, 40, 41, 42, 43, 44, 45, 46, 47, 48, 49, 50, 51, 52, 53, 54, 55, 56, 57, 58, 59, 60, 61, 62, 63, 64, 65, 66, 67, 68, 69, 70] (by decide +kernel) (by decide +kernel)
set_option maxRecDepth 20000 in
theorem gX7_readPaper_X7_readReference : GoodIn wsX7_readPaper (wsV RX7 121 RX7 yX7_readReference wsX7_readReference) := goodIn_app (goodIn_of _ (by decide +kernel)) ggX7_readPaper_X7_readReference
set_option maxRecDepth 20000 in
theorem ggX7_readPaper_X7_next : GoodIn wsX7_readPaper wsX7_next := goodIn_r _ [12, 2, 3, 13, 43, 44, 45, 46, 47, 48, 49, 50, 51, 52, 53, 54, 55, 56, 57, 58, 59, 60, 61, 62, 63, 64, 65, 66, 67, 68, 69, 70] (by decide +kernel) (by decide +kernel)
set_option maxRecDepth 20000 in
theorem gX7_readPaper_X7_next : GoodIn wsX7_readPaper (wsV RX7 92 RX7 yX7_next wsX7_next) := goodIn_app (goodIn_of _ (by decide +kernel)) ggX7_readPaper_X7_next
theorem dX7_readPaper_0 : decode cX7_readPaper 0 = .ok (.aload_n 0, 1) := by decide +kernel
theorem dX7_readPaper_1 : decode cX7_readPaper 1 = .ok (.getfield 13, 3) := by decide +kernel
theorem dX7_readPaper_4 : decode cX7_readPaper 4 = .ok (.iconst 0, 1) := by decide +kernel
theorem dX7_readPaper_5 : decode cX7_readPaper 5 = .ok (.iconst 0, 1) := by decide +kernel
theorem dX7_readPaper_6 : decode cX7_readPaper 6 = .ok (.iastore, 1) := by decide +kernel
theorem dX7_readPaper_7 : decode cX7_readPaper 7 = .ok (.aload_n 0, 1) := by decide +kernel
theorem dX7_readPaper_8 : decode cX7_readPaper 8 = .ok (.iconst 0, 1) := by decide +kernel
theorem dX7_readPaper_9 : decode cX7_readPaper 9 = .ok (.putfield 89, 3) := by decide +kernel
theorem dX7_readPaper_12 : decode cX7_readPaper 12 = .ok (.aload_n 0, 1) := by decide +kernel
theorem dX7_readPaper_13 : decode cX7_readPaper 13 = .ok (.getfield 86, 3) := by decide +kernel
theorem dX7_readPaper_16 : decode cX7_readPaper 16 = .ok (.ifCond .ne 6, 3) := by decide +kernel
theorem dX7_readPaper_19 : decode cX7_readPaper 19 = .ok (.bipush (-9), 2) := by decide +kernel
theorem dX7_readPaper_21 : decode cX7_readPaper 21 = .ok (.ireturn, 1) := by decide +kernel
theorem dX7_readPaper_22 : decode cX7_readPaper 22 = .ok (.aload_n 0, 1) := by decide +kernel
theorem dX7_readPaper_23 : decode cX7_readPaper 23 = .ok (.getfield 13, 3) := by decide +kernel
theorem dX7_readPaper_26 : decode cX7_readPaper 26 = .ok (.iconst 0, 1) := by decide +kernel
theorem dX7_readPaper_27 : decode cX7_readPaper 27 = .ok (.iconst 1, 1) := by decide +kernel
theorem dX7_readPaper_28 : decode cX7_readPaper 28 = .ok (.iastore, 1) := by decide +kernel
theorem dX7_readPaper_29 : decode cX7_readPaper 29 = .ok (.aload_n 0, 1) := by decide +kernel
theorem dX7_readPaper_30 : decode cX7_readPaper 30 = .ok (.getfield 13, 3) := by decide +kernel
theorem dX7_readPaper_33 : decode cX7_readPaper 33 = .ok (.iconst 1, 1) := by decide +kernel
theorem dX7_readPaper_34 : decode cX7_readPaper 34 = .ok (.iconst 0, 1) := by decide +kernel
theorem dX7_readPaper_35 : decode cX7_readPaper 35 = .ok (.iastore, 1) := by decide +kernel
theorem dX7_readPaper_36 : decode cX7_readPaper 36 = .ok (.iconst 1, 1) := by decide +kernel
theorem dX7_readPaper_37 : decode cX7_readPaper 37 = .ok (.istore_n 1, 1) := by decide +kernel
theorem dX7_readPaper_38 : decode cX7_readPaper 38 = .ok (.iload_n 1, 1) := by decide +kernel
theorem dX7_readPaper_39 : decode cX7_readPaper 39 = .ok (.ifCond .eq 151, 3) := by decide +kernel
theorem dX7_readPaper_42 : decode cX7_readPaper 42 = .ok (.aload_n 0, 1) := by decide +kernel
theorem dX7_readPaper_43 : decode cX7_readPaper 43 = .ok (.getfield 13, 3) := by decide +kernel
theorem dX7_readPaper_46 : decode cX7_readPaper 46 = .ok (.iconst 0, 1) := by decide +kernel
theorem dX7_readPaper_47 : decode cX7_readPaper 47 = .ok (.iaload, 1) := by decide +kernel
theorem dX7_readPaper_48 : decode cX7_readPaper 48 = .ok (.iconst 1, 1) := by decide +kernel
theorem dX7_readPaper_49 : decode cX7_readPaper 49 = .ok (.isub, 1) := by decide +kernel
theorem dX7_readPaper_50 : decode cX7_readPaper 50 = .ok (.istore_n 2, 1) := by decide +kernel
theorem dX7_readPaper_51 : decode cX7_readPaper 51 = .ok (.aload_n 0, 1) := by decide +kernel
theorem dX7_readPaper_52 : decode cX7_readPaper 52 = .ok (.bipush 9, 2) := by decide +kernel
theorem dX7_readPaper_54 : decode cX7_readPaper 54 = .ok (.bipush 8, 2) := by decide +kernel
theorem dX7_readPaper_56 : decode cX7_readPaper 56 = .ok (.iconst 4, 1) := by decide +kernel
theorem dX7_readPaper_57 : decode cX7_readPaper 57 = .ok (.iload_n 2, 1) := by decide +kernel
theorem dX7_readPaper_58 : decode cX7_readPaper 58 = .ok (.imul, 1) := by decide +kernel
theorem dX7_readPaper_59 : decode cX7_readPaper 59 = .ok (.aload_n 0, 1) := by decide +kernel
theorem dX7_readPaper_60 : decode cX7_readPaper 60 = .ok (.getfield 13, 3) := by decide +kernel
theorem dX7_readPaper_63 : decode cX7_readPaper 63 = .ok (.iconst 1, 1) := by decide +kernel
theorem dX7_readPaper_64 : decode cX7_readPaper 64 = .ok (.iload_n 2, 1) := by decide +kernel
theorem dX7_readPaper_65 : decode cX7_readPaper 65 = .ok (.iadd, 1) := by decide +kernel
theorem dX7_readPaper_66 : decode cX7_readPaper 66 = .ok (.iaload, 1) := by decide +kernel
theorem dX7_readPaper_67 : decode cX7_readPaper 67 = .ok (.iadd, 1) := by decide +kernel
theorem dX7_readPaper_68 : decode cX7_readPaper 68 = .ok (.imul, 1) := by decide +kernel
theorem dX7_readPaper_69 : decode cX7_readPaper 69 = .ok (.iadd, 1) := by decide +kernel
theorem dX7_readPaper_70 : decode cX7_readPaper 70 = .ok (.invokevirtual 121, 3) := by decide +kernel
theorem dX7_readPaper_73 : decode cX7_readPaper 73 = .ok (.ifCond .ne 8, 3) := by decide +kernel
theorem dX7_readPaper_76 : decode cX7_readPaper 76 = .ok (.aload_n 0, 1) := by decide +kernel
theorem dX7_readPaper_77 : decode cX7_readPaper 77 = .ok (.getfield 89, 3) := by decide +kernel
theorem dX7_readPaper_80 : decode cX7_readPaper 80 = .ok (.ireturn, 1) := by decide +kernel
theorem dX7_readPaper_81 : decode cX7_readPaper 81 = .ok (.aload_n 0, 1) := by decide +kernel
theorem dX7_readPaper_82 : decode cX7_readPaper 82 = .ok (.getfield 13, 3) := by decide +kernel
theorem dX7_readPaper_85 : decode cX7_readPaper 85 = .ok (.iconst 1, 1) := by decide +kernel
theorem dX7_readPaper_86 : decode cX7_readPaper 86 = .ok (.iload_n 2, 1) := by decide +kernel
theorem dX7_readPaper_87 : decode cX7_readPaper 87 = .ok (.iadd, 1) := by decide +kernel
theorem dX7_readPaper_88 : decode cX7_readPaper 88 = .ok (.dup2, 1) := by decide +kernel
theorem dX7_readPaper_89 : decode cX7_readPaper 89 = .ok (.iaload, 1) := by decide +kernel
theorem dX7_readPaper_90 : decode cX7_readPaper 90 = .ok (.iconst 1, 1) := by decide +kernel
theorem dX7_readPaper_91 : decode cX7_readPaper 91 = .ok (.iadd, 1) := by decide +kernel
theorem dX7_readPaper_92 : decode cX7_readPaper 92 = .ok (.iastore, 1) := by decide +kernel
theorem dX7_readPaper_93 : decode cX7_readPaper 93 = .ok (.iconst 0, 1) := by decide +kernel
theorem dX7_readPaper_94 : decode cX7_readPaper 94 = .ok (.istore_n 1, 1) := by decide +kernel
theorem dX7_readPaper_95 : decode cX7_readPaper 95 = .ok (.aload_n 0, 1) := by decide +kernel
theorem dX7_readPaper_96 : decode cX7_readPaper 96 = .ok (.invokevirtual 92, 3) := by decide +kernel
theorem dX7_readPaper_99 : decode cX7_readPaper 99 = .ok (.bipush 44, 2) := by decide +kernel
theorem dX7_readPaper_101 : decode cX7_readPaper 101 = .ok (.if_icmp .ne 30, 3) := by decide +kernel
theorem dX7_readPaper_104 : decode cX7_readPaper 104 = .ok (.aload_n 0, 1) := by decide +kernel
theorem dX7_readPaper_105 : decode cX7_readPaper 105 = .ok (.getfield 13, 3) := by decide +kernel
theorem dX7_readPaper_108 : decode cX7_readPaper 108 = .ok (.iconst 1, 1) := by decide +kernel
theorem dX7_readPaper_109 : decode cX7_readPaper 109 = .ok (.iload_n 2, 1) := by decide +kernel
theorem dX7_readPaper_110 : decode cX7_readPaper 110 = .ok (.iadd, 1) := by decide +kernel
theorem dX7_readPaper_111 : decode cX7_readPaper 111 = .ok (.iaload, 1) := by decide +kernel
theorem dX7_readPaper_112 : decode cX7_readPaper 112 = .ok (.iconst 4, 1) := by decide +kernel
theorem dX7_readPaper_113 : decode cX7_readPaper 113 = .ok (.if_icmp .ge 18, 3) := by decide +kernel
theorem dX7_readPaper_116 : decode cX7_readPaper 116 = .ok (.aload_n 0, 1) := by decide +kernel
theorem dX7_readPaper_117 : decode cX7_readPaper 117 = .ok (.dup, 1) := by decide +kernel
theorem dX7_readPaper_118 : decode cX7_readPaper 118 = .ok (.getfield 89, 3) := by decide +kernel
theorem dX7_readPaper_121 : decode cX7_readPaper 121 = .ok (.iconst 1, 1) := by decide +kernel
theorem dX7_readPaper_122 : decode cX7_readPaper 122 = .ok (.iadd, 1) := by decide +kernel
theorem dX7_readPaper_123 : decode cX7_readPaper 123 = .ok (.putfield 89, 3) := by decide +kernel
theorem dX7_readPaper_126 : decode cX7_readPaper 126 = .ok (.iconst 1, 1) := by decide +kernel
theorem dX7_readPaper_127 : decode cX7_readPaper 127 = .ok (.istore_n 1, 1) := by decide +kernel
theorem dX7_readPaper_128 : decode cX7_readPaper 128 = .ok (.goto 59, 3) := by decide +kernel
theorem dX7_readPaper_131 : decode cX7_readPaper 131 = .ok (.aload_n 0, 1) := by decide +kernel
theorem dX7_readPaper_132 : decode cX7_readPaper 132 = .ok (.invokevirtual 92, 3) := by decide +kernel
theorem dX7_readPaper_135 : decode cX7_readPaper 135 = .ok (.bipush 59, 2) := by decide +kernel
theorem dX7_readPaper_137 : decode cX7_readPaper 137 = .ok (.if_icmp .ne 50, 3) := by decide +kernel
theorem dX7_readPaper_140 : decode cX7_readPaper 140 = .ok (.aload_n 0, 1) := by decide +kernel
theorem dX7_readPaper_141 : decode cX7_readPaper 141 = .ok (.getfield 13, 3) := by decide +kernel
theorem dX7_readPaper_144 : decode cX7_readPaper 144 = .ok (.iconst 0, 1) := by decide +kernel
theorem dX7_readPaper_145 : decode cX7_readPaper 145 = .ok (.iaload, 1) := by decide +kernel
theorem dX7_readPaper_146 : decode cX7_readPaper 146 = .ok (.bipush 8, 2) := by decide +kernel
theorem dX7_readPaper_148 : decode cX7_readPaper 148 = .ok (.if_icmp .ge 39, 3) := by decide +kernel
theorem dX7_readPaper_151 : decode cX7_readPaper 151 = .ok (.aload_n 0, 1) := by decide +kernel
theorem dX7_readPaper_152 : decode cX7_readPaper 152 = .ok (.dup, 1) := by decide +kernel
theorem dX7_readPaper_153 : decode cX7_readPaper 153 = .ok (.getfield 89, 3) := by decide +kernel
theorem dX7_readPaper_156 : decode cX7_readPaper 156 = .ok (.iconst 1, 1) := by decide +kernel
theorem dX7_readPaper_157 : decode cX7_readPaper 157 = .ok (.iadd, 1) := by decide +kernel
theorem dX7_readPaper_158 : decode cX7_readPaper 158 = .ok (.putfield 89, 3) := by decide +kernel
theorem dX7_readPaper_161 : decode cX7_readPaper 161 = .ok (.aload_n 0, 1) := by decide +kernel
theorem dX7_readPaper_162 : decode cX7_readPaper 162 = .ok (.getfield 13, 3) := by decide +kernel
theorem dX7_readPaper_165 : decode cX7_readPaper 165 = .ok (.iconst 1, 1) := by decide +kernel
theorem dX7_readPaper_166 : decode cX7_readPaper 166 = .ok (.aload_n 0, 1) := by decide +kernel
theorem dX7_readPaper_167 : decode cX7_readPaper 167 = .ok (.getfield 13, 3) := by decide +kernel
theorem dX7_readPaper_170 : decode cX7_readPaper 170 = .ok (.iconst 0, 1) := by decide +kernel
theorem dX7_readPaper_171 : decode cX7_readPaper 171 = .ok (.iaload, 1) := by decide +kernel
theorem dX7_readPaper_172 : decode cX7_readPaper 172 = .ok (.iadd, 1) := by decide +kernel
theorem dX7_readPaper_173 : decode cX7_readPaper 173 = .ok (.iconst 0, 1) := by decide +kernel
theorem dX7_readPaper_174 : decode cX7_readPaper 174 = .ok (.iastore, 1) := by decide +kernel
theorem dX7_readPaper_175 : decode cX7_readPaper 175 = .ok (.aload_n 0, 1) := by decide +kernel
theorem dX7_readPaper_176 : decode cX7_readPaper 176 = .ok (.getfield 13, 3) := by decide +kernel
theorem dX7_readPaper_179 : decode cX7_readPaper 179 = .ok (.iconst 0, 1) := by decide +kernel
theorem dX7_readPaper_180 : decode cX7_readPaper 180 = .ok (.dup2, 1) := by decide +kernel
theorem dX7_readPaper_181 : decode cX7_readPaper 181 = .ok (.iaload, 1) := by decide +kernel
theorem dX7_readPaper_182 : decode cX7_readPaper 182 = .ok (.iconst 1, 1) := by decide +kernel
theorem dX7_readPaper_183 : decode cX7_readPaper 183 = .ok (.iadd, 1) := by decide +kernel
theorem dX7_readPaper_184 : decode cX7_readPaper 184 = .ok (.iastore, 1) := by decide +kernel
theorem dX7_readPaper_185 : decode cX7_readPaper 185 = .ok (.iconst 1, 1) := by decide +kernel
theorem dX7_readPaper_186 : decode cX7_readPaper 186 = .ok (.istore_n 1, 1) := by decide +kernel
theorem dX7_readPaper_187 : decode cX7_readPaper 187 = .ok (.goto (-149), 3) := by decide +kernel
theorem dX7_readPaper_190 : decode cX7_readPaper 190 = .ok (.aload_n 0, 1) := by decide +kernel
theorem dX7_readPaper_191 : decode cX7_readPaper 191 = .ok (.getfield 89, 3) := by decide +kernel
theorem dX7_readPaper_194 : decode cX7_readPaper 194 = .ok (.aload_n 0, 1) := by decide +kernel
theorem dX7_readPaper_195 : decode cX7_readPaper 195 = .ok (.getfield 86, 3) := by decide +kernel
theorem dX7_readPaper_198 : decode cX7_readPaper 198 = .ok (.if_icmp .ne 8, 3) := by decide +kernel
theorem dX7_readPaper_201 : decode cX7_readPaper 201 = .ok (.bipush (-9), 2) := by decide +kernel
theorem dX7_readPaper_203 : decode cX7_readPaper 203 = .ok (.goto 7, 3) := by decide +kernel
theorem dX7_readPaper_206 : decode cX7_readPaper 206 = .ok (.aload_n 0, 1) := by decide +kernel
theorem dX7_readPaper_207 : decode cX7_readPaper 207 = .ok (.getfield 89, 3) := by decide +kernel
theorem dX7_readPaper_210 : decode cX7_readPaper 210 = .ok (.ireturn, 1) := by decide +kernel
set_option maxRecDepth 20000 in
theorem ggX7_fault_X7_readPaper : GoodIn wsX7_fault wsX7_readPaper := goodIn_r _ [6, 7, 8, 9, 10, 11, 12, 5, 13, 14, 15, 16, 17, 18, 19, 20, 21, 22, 23, 24, 25, 26, 27, 28, 29, 30, 31, 32, 33, 34, 35, 36, 37, 38, 39, 40, 41, 42, 43, 44, 45, 46, 47, 48, 49, 50, 51, 52, 53, 54, 55, 56, 57, 58, 59, 60, 61, 62, 63, 64, 65, 66, 67, 68, 69, 70, 71, 72, 73, 74, 75] (by decide +kernel) (by decide +kernel)
set_option maxRecDepth 20000 in
theorem gX7_fault_X7_readPaper : GoodIn wsX7_fault (wsV RX7 124 RX7 yX7_readPaper wsX7_readPaper) := goodIn_app (goodIn_of _ (by decide +kernel)) ggX7_fault_X7_readPaper
theorem dX7_fault_0 : decode cX7_fault 0 = .ok (.aload_n 0, 1) := by decide +kernel
theorem dX7_fault_1 : decode cX7_fault 1 = .ok (.iconst 0, 1) := by decide +kernel
theorem dX7_fault_2 : decode cX7_fault 2 = .ok (.putfield 68, 3) := by decide +kernel
theorem dX7_fault_5 : decode cX7_fault 5 = .ok (.aload_n 0, 1) := by decide +kernel
theorem dX7_fault_6 : decode cX7_fault 6 = .ok (.invokevirtual 124, 3) := by decide +kernel
theorem dX7_fault_9 : decode cX7_fault 9 = .ok (.ireturn, 1) := by decide +kernel
set_option maxRecDepth 20000 in
theorem ggX7_paper_X7_readPaper : GoodIn wsX7_paper wsX7_readPaper := goodIn_r _ [10, 3, 11, 12, 13, 14, 15, 9, 16, 17, 18, 19, 20, 21, 22, 23, 24, 25, 26, 27, 28, 29, 30, 31, 32, 33, 34, 35, 36, 37, 38, 39, 40, 41, 42, 43, 44, 45, 46, 47, 48, 49, 50, 54, 55, 56, 57, 58, 59, 60, 61, 62, 63, 64, 65, 66, 67, 68, 69, 70, 71, 72, 73, 74, 75, 76, 77, 78, 79, 80, 81] (by decide +kernel) (by decide +kernel)
set_option maxRecDepth 20000 in
theorem gX7_paper_X7_readPaper : GoodIn wsX7_paper (wsV RX7 124 RX7 yX7_readPaper wsX7_readPaper) := goodIn_app (goodIn_of _ (by decide +kernel)) ggX7_paper_X7_readPaper
set_option maxRecDepth 20000 in
theorem ggX7_paper_X7_lay : GoodIn wsX7_paper wsX7_lay := goodIn_r _ [53] (by decide +kernel) (by decide +kernel)
set_option maxRecDepth 20000 in
theorem gX7_paper_X7_lay : GoodIn wsX7_paper (va_wsS RX7 127 yX7_lay wsX7_lay) := goodIn_app (goodIn_of _ (by decide +kernel)) ggX7_paper_X7_lay
theorem dX7_paper_0 : decode cX7_paper 0 = .ok (.aload_n 0, 1) := by decide +kernel
theorem dX7_paper_1 : decode cX7_paper 1 = .ok (.iconst 0, 1) := by decide +kernel
theorem dX7_paper_2 : decode cX7_paper 2 = .ok (.putfield 68, 3) := by decide +kernel
theorem dX7_paper_5 : decode cX7_paper 5 = .ok (.aload_n 0, 1) := by decide +kernel
theorem dX7_paper_6 : decode cX7_paper 6 = .ok (.invokevirtual 124, 3) := by decide +kernel
theorem dX7_paper_9 : decode cX7_paper 9 = .ok (.bipush (-9), 2) := by decide +kernel
theorem dX7_paper_11 : decode cX7_paper 11 = .ok (.if_icmp .eq 6, 3) := by decide +kernel
theorem dX7_paper_14 : decode cX7_paper 14 = .ok (.bipush (-3), 2) := by decide +kernel
theorem dX7_paper_16 : decode cX7_paper 16 = .ok (.ireturn, 1) := by decide +kernel
theorem dX7_paper_17 : decode cX7_paper 17 = .ok (.aload_n 0, 1) := by decide +kernel
theorem dX7_paper_18 : decode cX7_paper 18 = .ok (.getfield 16, 3) := by decide +kernel
theorem dX7_paper_21 : decode cX7_paper 21 = .ok (.aload_n 0, 1) := by decide +kernel
theorem dX7_paper_22 : decode cX7_paper 22 = .ok (.getfield 13, 3) := by decide +kernel
theorem dX7_paper_25 : decode cX7_paper 25 = .ok (.invokestatic 127, 3) := by decide +kernel
theorem dX7_paper_28 : decode cX7_paper 28 = .ok (.aload_n 0, 1) := by decide +kernel
theorem dX7_paper_29 : decode cX7_paper 29 = .ok (.iconst 0, 1) := by decide +kernel
theorem dX7_paper_30 : decode cX7_paper 30 = .ok (.putfield 131, 3) := by decide +kernel
theorem dX7_paper_33 : decode cX7_paper 33 = .ok (.aload_n 0, 1) := by decide +kernel
theorem dX7_paper_34 : decode cX7_paper 34 = .ok (.getfield 31, 3) := by decide +kernel
theorem dX7_paper_37 : decode cX7_paper 37 = .ok (.iconst 0, 1) := by decide +kernel
theorem dX7_paper_38 : decode cX7_paper 38 = .ok (.iconst 0, 1) := by decide +kernel
theorem dX7_paper_39 : decode cX7_paper 39 = .ok (.bastore, 1) := by decide +kernel
theorem dX7_paper_40 : decode cX7_paper 40 = .ok (.aload_n 0, 1) := by decide +kernel
theorem dX7_paper_41 : decode cX7_paper 41 = .ok (.getfield 31, 3) := by decide +kernel
theorem dX7_paper_44 : decode cX7_paper 44 = .ok (.iconst 1, 1) := by decide +kernel
theorem dX7_paper_45 : decode cX7_paper 45 = .ok (.iconst 0, 1) := by decide +kernel
theorem dX7_paper_46 : decode cX7_paper 46 = .ok (.bastore, 1) := by decide +kernel
theorem dX7_paper_47 : decode cX7_paper 47 = .ok (.aload_n 0, 1) := by decide +kernel
theorem dX7_paper_48 : decode cX7_paper 48 = .ok (.getfield 16, 3) := by decide +kernel
theorem dX7_paper_51 : decode cX7_paper 51 = .ok (.iconst 0, 1) := by decide +kernel
theorem dX7_paper_52 : decode cX7_paper 52 = .ok (.iaload, 1) := by decide +kernel
theorem dX7_paper_53 : decode cX7_paper 53 = .ok (.ireturn, 1) := by decide +kernel
set_option maxRecDepth 20000 in
theorem ggX7_reference_X7_isThere : GoodIn wsX7_reference wsX7_isThere := goodIn_r _ [7, 8, 9, 6, 10] (by decide +kernel) (by decide +kernel)
set_option maxRecDepth 20000 in
theorem gX7_reference_X7_isThere : GoodIn wsX7_reference (va_wsS RX7 76 yX7_isThere wsX7_isThere) := goodIn_app (goodIn_of _ (by decide +kernel)) ggX7_reference_X7_isThere
set_option maxRecDepth 20000 in
theorem ggX7_reference_X7_in : GoodIn wsX7_reference wsX7_in := goodIn_r _ [10] (by decide +kernel) (by decide +kernel)
set_option maxRecDepth 20000 in
theorem gX7_reference_X7_in : GoodIn wsX7_reference (va_wsS RX7 72 yX7_in wsX7_in) := goodIn_app (goodIn_of _ (by decide +kernel)) ggX7_reference_X7_in
set_option maxRecDepth 20000 in
theorem ggX7_reference_X7_ref : GoodIn wsX7_reference wsX7_ref := goodIn_r _ [13] (by decide +kernel) (by decide +kernel)
set_option maxRecDepth 20000 in
theorem gX7_reference_X7_ref : GoodIn wsX7_reference (va_wsS RX7 136 yX7_ref wsX7_ref) := goodIn_app (goodIn_of _ (by decide +kernel)) ggX7_reference_X7_ref
theorem dX7_reference_0 : decode cX7_reference 0 = .ok (.aload_n 0, 1) := by decide +kernel
theorem dX7_reference_1 : decode cX7_reference 1 = .ok (.iconst 0, 1) := by decide +kernel
theorem dX7_reference_2 : decode cX7_reference 2 = .ok (.putfield 68, 3) := by decide +kernel
theorem dX7_reference_5 : decode cX7_reference 5 = .ok (.aload_n 0, 1) := by decide +kernel
theorem dX7_reference_6 : decode cX7_reference 6 = .ok (.getfield 16, 3) := by decide +kernel
theorem dX7_reference_9 : decode cX7_reference 9 = .ok (.iload_n 1, 1) := by decide +kernel
theorem dX7_reference_10 : decode cX7_reference 10 = .ok (.iload_n 2, 1) := by decide +kernel
theorem dX7_reference_11 : decode cX7_reference 11 = .ok (.invokestatic 76, 3) := by decide +kernel
theorem dX7_reference_14 : decode cX7_reference 14 = .ok (.ifCond .ne 5, 3) := by decide +kernel
theorem dX7_reference_17 : decode cX7_reference 17 = .ok (.iconst (-1), 1) := by decide +kernel
theorem dX7_reference_18 : decode cX7_reference 18 = .ok (.ireturn, 1) := by decide +kernel
theorem dX7_reference_19 : decode cX7_reference 19 = .ok (.iload_n 3, 1) := by decide +kernel
theorem dX7_reference_20 : decode cX7_reference 20 = .ok (.i2l, 1) := by decide +kernel
theorem dX7_reference_21 : decode cX7_reference 21 = .ok (.lconst 0, 1) := by decide +kernel
theorem dX7_reference_22 : decode cX7_reference 22 = .ok (.ldc2_w 134, 3) := by decide +kernel
theorem dX7_reference_25 : decode cX7_reference 25 = .ok (.invokestatic 72, 3) := by decide +kernel
theorem dX7_reference_28 : decode cX7_reference 28 = .ok (.ifCond .ne 6, 3) := by decide +kernel
theorem dX7_reference_31 : decode cX7_reference 31 = .ok (.bipush (-2), 2) := by decide +kernel
theorem dX7_reference_33 : decode cX7_reference 33 = .ok (.ireturn, 1) := by decide +kernel
theorem dX7_reference_34 : decode cX7_reference 34 = .ok (.iconst 4, 1) := by decide +kernel
theorem dX7_reference_35 : decode cX7_reference 35 = .ok (.iload_n 1, 1) := by decide +kernel
theorem dX7_reference_36 : decode cX7_reference 36 = .ok (.imul, 1) := by decide +kernel
theorem dX7_reference_37 : decode cX7_reference 37 = .ok (.iload_n 2, 1) := by decide +kernel
theorem dX7_reference_38 : decode cX7_reference 38 = .ok (.iadd, 1) := by decide +kernel
theorem dX7_reference_39 : decode cX7_reference 39 = .ok (.istore 4, 2) := by decide +kernel
theorem dX7_reference_41 : decode cX7_reference 41 = .ok (.aload_n 0, 1) := by decide +kernel
theorem dX7_reference_42 : decode cX7_reference 42 = .ok (.getfield 16, 3) := by decide +kernel
theorem dX7_reference_45 : decode cX7_reference 45 = .ok (.iload 4, 2) := by decide +kernel
theorem dX7_reference_47 : decode cX7_reference 47 = .ok (.iconst 0, 1) := by decide +kernel
theorem dX7_reference_48 : decode cX7_reference 48 = .ok (.invokestatic 136, 3) := by decide +kernel
theorem dX7_reference_51 : decode cX7_reference 51 = .ok (.istore 5, 2) := by decide +kernel
theorem dX7_reference_53 : decode cX7_reference 53 = .ok (.iload_n 3, 1) := by decide +kernel
theorem dX7_reference_54 : decode cX7_reference 54 = .ok (.iconst 1, 1) := by decide +kernel
theorem dX7_reference_55 : decode cX7_reference 55 = .ok (.if_icmp .ne 34, 3) := by decide +kernel
theorem dX7_reference_58 : decode cX7_reference 58 = .ok (.aload_n 0, 1) := by decide +kernel
theorem dX7_reference_59 : decode cX7_reference 59 = .ok (.getfield 16, 3) := by decide +kernel
theorem dX7_reference_62 : decode cX7_reference 62 = .ok (.iload 4, 2) := by decide +kernel
theorem dX7_reference_64 : decode cX7_reference 64 = .ok (.bipush 7, 2) := by decide +kernel
theorem dX7_reference_66 : decode cX7_reference 66 = .ok (.invokestatic 136, 3) := by decide +kernel
theorem dX7_reference_69 : decode cX7_reference 69 = .ok (.ifCond .ne 8, 3) := by decide +kernel
theorem dX7_reference_72 : decode cX7_reference 72 = .ok (.bipush (-9), 2) := by decide +kernel
theorem dX7_reference_74 : decode cX7_reference 74 = .ok (.goto 14, 3) := by decide +kernel
theorem dX7_reference_77 : decode cX7_reference 77 = .ok (.aload_n 0, 1) := by decide +kernel
theorem dX7_reference_78 : decode cX7_reference 78 = .ok (.getfield 16, 3) := by decide +kernel
theorem dX7_reference_81 : decode cX7_reference 81 = .ok (.iload 4, 2) := by decide +kernel
theorem dX7_reference_83 : decode cX7_reference 83 = .ok (.bipush 7, 2) := by decide +kernel
theorem dX7_reference_85 : decode cX7_reference 85 = .ok (.invokestatic 136, 3) := by decide +kernel
theorem dX7_reference_88 : decode cX7_reference 88 = .ok (.ireturn, 1) := by decide +kernel
theorem dX7_reference_89 : decode cX7_reference 89 = .ok (.iload_n 3, 1) := by decide +kernel
theorem dX7_reference_90 : decode cX7_reference 90 = .ok (.ifCond .ne 8, 3) := by decide +kernel
theorem dX7_reference_93 : decode cX7_reference 93 = .ok (.iload 5, 2) := by decide +kernel
theorem dX7_reference_95 : decode cX7_reference 95 = .ok (.goto 25, 3) := by decide +kernel
theorem dX7_reference_98 : decode cX7_reference 98 = .ok (.iload 5, 2) := by decide +kernel
theorem dX7_reference_100 : decode cX7_reference 100 = .ok (.iconst 3, 1) := by decide +kernel
theorem dX7_reference_101 : decode cX7_reference 101 = .ok (.if_icmp .ne 17, 3) := by decide +kernel
theorem dX7_reference_104 : decode cX7_reference 104 = .ok (.aload_n 0, 1) := by decide +kernel
theorem dX7_reference_105 : decode cX7_reference 105 = .ok (.getfield 16, 3) := by decide +kernel
theorem dX7_reference_108 : decode cX7_reference 108 = .ok (.iload 4, 2) := by decide +kernel
theorem dX7_reference_110 : decode cX7_reference 110 = .ok (.bipush 6, 2) := by decide +kernel
theorem dX7_reference_112 : decode cX7_reference 112 = .ok (.invokestatic 136, 3) := by decide +kernel
theorem dX7_reference_115 : decode cX7_reference 115 = .ok (.goto 5, 3) := by decide +kernel
theorem dX7_reference_118 : decode cX7_reference 118 = .ok (.bipush (-9), 2) := by decide +kernel
theorem dX7_reference_120 : decode cX7_reference 120 = .ok (.ireturn, 1) := by decide +kernel
set_option maxRecDepth 20000 in
theorem ggX7_isSpelled_X7_isLeft : GoodIn wsX7_isSpelled wsX7_isLeft := goodIn_r _ [4, 5, 6, 3, 7, 8, 9, 10, 11, 12, 13] (by decide +kernel) (by decide +kernel)
set_option maxRecDepth 20000 in
theorem gX7_isSpelled_X7_isLeft : GoodIn wsX7_isSpelled (va_wsS RX7 140 yX7_isLeft wsX7_isLeft) := goodIn_app (goodIn_of _ (by decide +kernel)) ggX7_isSpelled_X7_isLeft
set_option maxRecDepth 20000 in
theorem ggX7_isSpelled_X7_ref : GoodIn wsX7_isSpelled wsX7_ref := goodIn_r _ [16] (by decide +kernel) (by decide +kernel)
set_option maxRecDepth 20000 in
theorem gX7_isSpelled_X7_ref : GoodIn wsX7_isSpelled (va_wsS RX7 136 yX7_ref wsX7_ref) := goodIn_app (goodIn_of _ (by decide +kernel)) ggX7_isSpelled_X7_ref
theorem dX7_isSpelled_0 : decode cX7_isSpelled 0 = .ok (.aload_n 0, 1) := by decide +kernel
theorem dX7_isSpelled_1 : decode cX7_isSpelled 1 = .ok (.iload_n 1, 1) := by decide +kernel
theorem dX7_isSpelled_2 : decode cX7_isSpelled 2 = .ok (.iload_n 2, 1) := by decide +kernel
theorem dX7_isSpelled_3 : decode cX7_isSpelled 3 = .ok (.invokestatic 140, 3) := by decide +kernel
theorem dX7_isSpelled_6 : decode cX7_isSpelled 6 = .ok (.ifCond .eq 16, 3) := by decide +kernel
theorem dX7_isSpelled_9 : decode cX7_isSpelled 9 = .ok (.aload_n 0, 1) := by decide +kernel
theorem dX7_isSpelled_10 : decode cX7_isSpelled 10 = .ok (.iload_n 2, 1) := by decide +kernel
theorem dX7_isSpelled_11 : decode cX7_isSpelled 11 = .ok (.iconst 0, 1) := by decide +kernel
theorem dX7_isSpelled_12 : decode cX7_isSpelled 12 = .ok (.invokestatic 136, 3) := by decide +kernel
theorem dX7_isSpelled_15 : decode cX7_isSpelled 15 = .ok (.ifCond .ne 7, 3) := by decide +kernel
theorem dX7_isSpelled_18 : decode cX7_isSpelled 18 = .ok (.iconst 1, 1) := by decide +kernel
theorem dX7_isSpelled_19 : decode cX7_isSpelled 19 = .ok (.goto 4, 3) := by decide +kernel
theorem dX7_isSpelled_22 : decode cX7_isSpelled 22 = .ok (.iconst 0, 1) := by decide +kernel
theorem dX7_isSpelled_23 : decode cX7_isSpelled 23 = .ok (.ireturn, 1) := by decide +kernel
set_option maxRecDepth 20000 in
theorem ggX7_hasReport_X7_ref : GoodIn wsX7_hasReport wsX7_ref := goodIn_r _ [4] (by decide +kernel) (by decide +kernel)
set_option maxRecDepth 20000 in
theorem gX7_hasReport_X7_ref : GoodIn wsX7_hasReport (va_wsS RX7 136 yX7_ref wsX7_ref) := goodIn_app (goodIn_of _ (by decide +kernel)) ggX7_hasReport_X7_ref
theorem dX7_hasReport_0 : decode cX7_hasReport 0 = .ok (.iload_n 2, 1) := by decide +kernel
theorem dX7_hasReport_1 : decode cX7_hasReport 1 = .ok (.ifCond .eq 27, 3) := by decide +kernel
theorem dX7_hasReport_4 : decode cX7_hasReport 4 = .ok (.aload_n 0, 1) := by decide +kernel
theorem dX7_hasReport_5 : decode cX7_hasReport 5 = .ok (.iload_n 1, 1) := by decide +kernel
theorem dX7_hasReport_6 : decode cX7_hasReport 6 = .ok (.iconst 3, 1) := by decide +kernel
theorem dX7_hasReport_7 : decode cX7_hasReport 7 = .ok (.invokestatic 136, 3) := by decide +kernel
theorem dX7_hasReport_10 : decode cX7_hasReport 10 = .ok (.iload_n 2, 1) := by decide +kernel
theorem dX7_hasReport_11 : decode cX7_hasReport 11 = .ok (.if_icmp .eq 13, 3) := by decide +kernel
theorem dX7_hasReport_14 : decode cX7_hasReport 14 = .ok (.aload_n 0, 1) := by decide +kernel
theorem dX7_hasReport_15 : decode cX7_hasReport 15 = .ok (.iload_n 1, 1) := by decide +kernel
theorem dX7_hasReport_16 : decode cX7_hasReport 16 = .ok (.iconst 4, 1) := by decide +kernel
theorem dX7_hasReport_17 : decode cX7_hasReport 17 = .ok (.invokestatic 136, 3) := by decide +kernel
theorem dX7_hasReport_20 : decode cX7_hasReport 20 = .ok (.iload_n 2, 1) := by decide +kernel
theorem dX7_hasReport_21 : decode cX7_hasReport 21 = .ok (.if_icmp .ne 7, 3) := by decide +kernel
theorem dX7_hasReport_24 : decode cX7_hasReport 24 = .ok (.iconst 1, 1) := by decide +kernel
theorem dX7_hasReport_25 : decode cX7_hasReport 25 = .ok (.goto 4, 3) := by decide +kernel
theorem dX7_hasReport_28 : decode cX7_hasReport 28 = .ok (.iconst 0, 1) := by decide +kernel
theorem dX7_hasReport_29 : decode cX7_hasReport 29 = .ok (.ireturn, 1) := by decide +kernel
set_option maxRecDepth 20000 in
theorem ggX7_meets_X7_ref : GoodIn wsX7_meets wsX7_ref := goodIn_r _ [4] (by decide +kernel) (by decide +kernel)
set_option maxRecDepth 20000 in
theorem gX7_meets_X7_ref : GoodIn wsX7_meets (va_wsS RX7 136 yX7_ref wsX7_ref) := goodIn_app (goodIn_of _ (by decide +kernel)) ggX7_meets_X7_ref
set_option maxRecDepth 20000 in
theorem ggX7_meets_X7_hasReport : GoodIn wsX7_meets wsX7_hasReport := goodIn_r _ [7, 1, 2, 3, 4] (by decide +kernel) (by decide +kernel)
set_option maxRecDepth 20000 in
theorem gX7_meets_X7_hasReport : GoodIn wsX7_meets (va_wsS RX7 143 yX7_hasReport wsX7_hasReport) := goodIn_app (goodIn_of _ (by decide +kernel)) ggX7_meets_X7_hasReport
theorem dX7_meets_0 : decode cX7_meets 0 = .ok (.aload_n 0, 1) := by decide +kernel
theorem dX7_meets_1 : decode cX7_meets 1 = .ok (.iload_n 2, 1) := by decide +kernel
theorem dX7_meets_2 : decode cX7_meets 2 = .ok (.aload_n 0, 1) := by decide +kernel
theorem dX7_meets_3 : decode cX7_meets 3 = .ok (.iload_n 1, 1) := by decide +kernel
theorem dX7_meets_4 : decode cX7_meets 4 = .ok (.iconst 3, 1) := by decide +kernel
theorem dX7_meets_5 : decode cX7_meets 5 = .ok (.invokestatic 136, 3) := by decide +kernel
theorem dX7_meets_8 : decode cX7_meets 8 = .ok (.invokestatic 143, 3) := by decide +kernel
theorem dX7_meets_11 : decode cX7_meets 11 = .ok (.ifCond .ne 17, 3) := by decide +kernel
theorem dX7_meets_14 : decode cX7_meets 14 = .ok (.aload_n 0, 1) := by decide +kernel
theorem dX7_meets_15 : decode cX7_meets 15 = .ok (.iload_n 2, 1) := by decide +kernel
theorem dX7_meets_16 : decode cX7_meets 16 = .ok (.aload_n 0, 1) := by decide +kernel
theorem dX7_meets_17 : decode cX7_meets 17 = .ok (.iload_n 1, 1) := by decide +kernel
theorem dX7_meets_18 : decode cX7_meets 18 = .ok (.iconst 4, 1) := by decide +kernel
theorem dX7_meets_19 : decode cX7_meets 19 = .ok (.invokestatic 136, 3) := by decide +kernel
theorem dX7_meets_22 : decode cX7_meets 22 = .ok (.invokestatic 143, 3) := by decide +kernel
theorem dX7_meets_25 : decode cX7_meets 25 = .ok (.ifCond .eq 7, 3) := by decide +kernel
theorem dX7_meets_28 : decode cX7_meets 28 = .ok (.iconst 1, 1) := by decide +kernel
theorem dX7_meets_29 : decode cX7_meets 29 = .ok (.goto 4, 3) := by decide +kernel
theorem dX7_meets_32 : decode cX7_meets 32 = .ok (.iconst 0, 1) := by decide +kernel
theorem dX7_meets_33 : decode cX7_meets 33 = .ok (.ireturn, 1) := by decide +kernel
set_option maxRecDepth 20000 in
theorem ggX7_layCases_X7_isSpelled : GoodIn wsX7_layCases wsX7_isSpelled := goodIn_r _ [7, 8, 9, 6, 10, 11, 12, 13, 14, 15, 16, 17, 18, 19, 20, 21, 22] (by decide +kernel) (by decide +kernel)
set_option maxRecDepth 20000 in
theorem gX7_layCases_X7_isSpelled : GoodIn wsX7_layCases (va_wsS RX7 146 yX7_isSpelled wsX7_isSpelled) := goodIn_app (goodIn_of _ (by decide +kernel)) ggX7_layCases_X7_isSpelled
set_option maxRecDepth 20000 in
theorem ggX7_layCases_X7_meets : GoodIn wsX7_layCases wsX7_meets := goodIn_r _ [25, 20, 21, 6, 22, 26, 27, 28] (by decide +kernel) (by decide +kernel)
set_option maxRecDepth 20000 in
theorem gX7_layCases_X7_meets : GoodIn wsX7_layCases (va_wsS RX7 149 yX7_meets wsX7_meets) := goodIn_app (goodIn_of _ (by decide +kernel)) ggX7_layCases_X7_meets
theorem dX7_layCases_0 : decode cX7_layCases 0 = .ok (.iconst 0, 1) := by decide +kernel
theorem dX7_layCases_1 : decode cX7_layCases 1 = .ok (.istore_n 3, 1) := by decide +kernel
theorem dX7_layCases_2 : decode cX7_layCases 2 = .ok (.iload_n 3, 1) := by decide +kernel
theorem dX7_layCases_3 : decode cX7_layCases 3 = .ok (.bipush 32, 2) := by decide +kernel
theorem dX7_layCases_5 : decode cX7_layCases 5 = .ok (.if_icmp .ge 16, 3) := by decide +kernel
theorem dX7_layCases_8 : decode cX7_layCases 8 = .ok (.aload_n 0, 1) := by decide +kernel
theorem dX7_layCases_9 : decode cX7_layCases 9 = .ok (.getfield 44, 3) := by decide +kernel
theorem dX7_layCases_12 : decode cX7_layCases 12 = .ok (.iload_n 3, 1) := by decide +kernel
theorem dX7_layCases_13 : decode cX7_layCases 13 = .ok (.iload_n 3, 1) := by decide +kernel
theorem dX7_layCases_14 : decode cX7_layCases 14 = .ok (.iastore, 1) := by decide +kernel
theorem dX7_layCases_15 : decode cX7_layCases 15 = .ok (.iinc 3 1, 3) := by decide +kernel
theorem dX7_layCases_18 : decode cX7_layCases 18 = .ok (.goto (-16), 3) := by decide +kernel
theorem dX7_layCases_21 : decode cX7_layCases 21 = .ok (.iconst 1, 1) := by decide +kernel
theorem dX7_layCases_22 : decode cX7_layCases 22 = .ok (.istore_n 3, 1) := by decide +kernel
theorem dX7_layCases_23 : decode cX7_layCases 23 = .ok (.iload_n 3, 1) := by decide +kernel
theorem dX7_layCases_24 : decode cX7_layCases 24 = .ok (.ifCond .eq 103, 3) := by decide +kernel
theorem dX7_layCases_27 : decode cX7_layCases 27 = .ok (.iconst 0, 1) := by decide +kernel
theorem dX7_layCases_28 : decode cX7_layCases 28 = .ok (.istore_n 3, 1) := by decide +kernel
theorem dX7_layCases_29 : decode cX7_layCases 29 = .ok (.iconst 0, 1) := by decide +kernel
theorem dX7_layCases_30 : decode cX7_layCases 30 = .ok (.istore 4, 2) := by decide +kernel
theorem dX7_layCases_32 : decode cX7_layCases 32 = .ok (.iload 4, 2) := by decide +kernel
theorem dX7_layCases_34 : decode cX7_layCases 34 = .ok (.sipush 1024, 3) := by decide +kernel
theorem dX7_layCases_37 : decode cX7_layCases 37 = .ok (.if_icmp .ge 87, 3) := by decide +kernel
theorem dX7_layCases_40 : decode cX7_layCases 40 = .ok (.iload 4, 2) := by decide +kernel
theorem dX7_layCases_42 : decode cX7_layCases 42 = .ok (.bipush 32, 2) := by decide +kernel
theorem dX7_layCases_44 : decode cX7_layCases 44 = .ok (.idiv, 1) := by decide +kernel
theorem dX7_layCases_45 : decode cX7_layCases 45 = .ok (.istore 5, 2) := by decide +kernel
theorem dX7_layCases_47 : decode cX7_layCases 47 = .ok (.iload 4, 2) := by decide +kernel
theorem dX7_layCases_49 : decode cX7_layCases 49 = .ok (.bipush 32, 2) := by decide +kernel
theorem dX7_layCases_51 : decode cX7_layCases 51 = .ok (.irem, 1) := by decide +kernel
theorem dX7_layCases_52 : decode cX7_layCases 52 = .ok (.istore 6, 2) := by decide +kernel
theorem dX7_layCases_54 : decode cX7_layCases 54 = .ok (.aload_n 0, 1) := by decide +kernel
theorem dX7_layCases_55 : decode cX7_layCases 55 = .ok (.getfield 44, 3) := by decide +kernel
theorem dX7_layCases_58 : decode cX7_layCases 58 = .ok (.iload 6, 2) := by decide +kernel
theorem dX7_layCases_60 : decode cX7_layCases 60 = .ok (.iaload, 1) := by decide +kernel
theorem dX7_layCases_61 : decode cX7_layCases 61 = .ok (.aload_n 0, 1) := by decide +kernel
theorem dX7_layCases_62 : decode cX7_layCases 62 = .ok (.getfield 44, 3) := by decide +kernel
theorem dX7_layCases_65 : decode cX7_layCases 65 = .ok (.iload 5, 2) := by decide +kernel
theorem dX7_layCases_67 : decode cX7_layCases 67 = .ok (.iaload, 1) := by decide +kernel
theorem dX7_layCases_68 : decode cX7_layCases 68 = .ok (.if_icmp .ge 50, 3) := by decide +kernel
theorem dX7_layCases_71 : decode cX7_layCases 71 = .ok (.aload_n 1, 1) := by decide +kernel
theorem dX7_layCases_72 : decode cX7_layCases 72 = .ok (.iload_n 2, 1) := by decide +kernel
theorem dX7_layCases_73 : decode cX7_layCases 73 = .ok (.iload 5, 2) := by decide +kernel
theorem dX7_layCases_75 : decode cX7_layCases 75 = .ok (.invokestatic 146, 3) := by decide +kernel
theorem dX7_layCases_78 : decode cX7_layCases 78 = .ok (.ifCond .eq 40, 3) := by decide +kernel
theorem dX7_layCases_81 : decode cX7_layCases 81 = .ok (.aload_n 1, 1) := by decide +kernel
theorem dX7_layCases_82 : decode cX7_layCases 82 = .ok (.iload_n 2, 1) := by decide +kernel
theorem dX7_layCases_83 : decode cX7_layCases 83 = .ok (.iload 6, 2) := by decide +kernel
theorem dX7_layCases_85 : decode cX7_layCases 85 = .ok (.invokestatic 146, 3) := by decide +kernel
theorem dX7_layCases_88 : decode cX7_layCases 88 = .ok (.ifCond .eq 30, 3) := by decide +kernel
theorem dX7_layCases_91 : decode cX7_layCases 91 = .ok (.aload_n 1, 1) := by decide +kernel
theorem dX7_layCases_92 : decode cX7_layCases 92 = .ok (.iload 5, 2) := by decide +kernel
theorem dX7_layCases_94 : decode cX7_layCases 94 = .ok (.iload 6, 2) := by decide +kernel
theorem dX7_layCases_96 : decode cX7_layCases 96 = .ok (.invokestatic 149, 3) := by decide +kernel
theorem dX7_layCases_99 : decode cX7_layCases 99 = .ok (.ifCond .eq 19, 3) := by decide +kernel
theorem dX7_layCases_102 : decode cX7_layCases 102 = .ok (.aload_n 0, 1) := by decide +kernel
theorem dX7_layCases_103 : decode cX7_layCases 103 = .ok (.getfield 44, 3) := by decide +kernel
theorem dX7_layCases_106 : decode cX7_layCases 106 = .ok (.iload 5, 2) := by decide +kernel
theorem dX7_layCases_108 : decode cX7_layCases 108 = .ok (.aload_n 0, 1) := by decide +kernel
theorem dX7_layCases_109 : decode cX7_layCases 109 = .ok (.getfield 44, 3) := by decide +kernel
theorem dX7_layCases_112 : decode cX7_layCases 112 = .ok (.iload 6, 2) := by decide +kernel
theorem dX7_layCases_114 : decode cX7_layCases 114 = .ok (.iaload, 1) := by decide +kernel
theorem dX7_layCases_115 : decode cX7_layCases 115 = .ok (.iastore, 1) := by decide +kernel
theorem dX7_layCases_116 : decode cX7_layCases 116 = .ok (.iconst 1, 1) := by decide +kernel
theorem dX7_layCases_117 : decode cX7_layCases 117 = .ok (.istore_n 3, 1) := by decide +kernel
theorem dX7_layCases_118 : decode cX7_layCases 118 = .ok (.iinc 4 1, 3) := by decide +kernel
theorem dX7_layCases_121 : decode cX7_layCases 121 = .ok (.goto (-89), 3) := by decide +kernel
theorem dX7_layCases_124 : decode cX7_layCases 124 = .ok (.goto (-101), 3) := by decide +kernel
theorem dX7_layCases_127 : decode cX7_layCases 127 = .ok (.aload_n 0, 1) := by decide +kernel
theorem dX7_layCases_128 : decode cX7_layCases 128 = .ok (.iconst 0, 1) := by decide +kernel
theorem dX7_layCases_129 : decode cX7_layCases 129 = .ok (.putfield 152, 3) := by decide +kernel
theorem dX7_layCases_132 : decode cX7_layCases 132 = .ok (.iconst 0, 1) := by decide +kernel
theorem dX7_layCases_133 : decode cX7_layCases 133 = .ok (.istore 4, 2) := by decide +kernel
theorem dX7_layCases_135 : decode cX7_layCases 135 = .ok (.iload 4, 2) := by decide +kernel
theorem dX7_layCases_137 : decode cX7_layCases 137 = .ok (.bipush 32, 2) := by decide +kernel
theorem dX7_layCases_139 : decode cX7_layCases 139 = .ok (.if_icmp .ge 52, 3) := by decide +kernel
theorem dX7_layCases_142 : decode cX7_layCases 142 = .ok (.aload_n 1, 1) := by decide +kernel
theorem dX7_layCases_143 : decode cX7_layCases 143 = .ok (.iload_n 2, 1) := by decide +kernel
theorem dX7_layCases_144 : decode cX7_layCases 144 = .ok (.iload 4, 2) := by decide +kernel
theorem dX7_layCases_146 : decode cX7_layCases 146 = .ok (.invokestatic 146, 3) := by decide +kernel
theorem dX7_layCases_149 : decode cX7_layCases 149 = .ok (.ifCond .eq 36, 3) := by decide +kernel
theorem dX7_layCases_152 : decode cX7_layCases 152 = .ok (.aload_n 0, 1) := by decide +kernel
theorem dX7_layCases_153 : decode cX7_layCases 153 = .ok (.getfield 44, 3) := by decide +kernel
theorem dX7_layCases_156 : decode cX7_layCases 156 = .ok (.iload 4, 2) := by decide +kernel
theorem dX7_layCases_158 : decode cX7_layCases 158 = .ok (.iaload, 1) := by decide +kernel
theorem dX7_layCases_159 : decode cX7_layCases 159 = .ok (.iload 4, 2) := by decide +kernel
theorem dX7_layCases_161 : decode cX7_layCases 161 = .ok (.if_icmp .ne 24, 3) := by decide +kernel
theorem dX7_layCases_164 : decode cX7_layCases 164 = .ok (.aload_n 0, 1) := by decide +kernel
theorem dX7_layCases_165 : decode cX7_layCases 165 = .ok (.getfield 53, 3) := by decide +kernel
theorem dX7_layCases_168 : decode cX7_layCases 168 = .ok (.aload_n 0, 1) := by decide +kernel
theorem dX7_layCases_169 : decode cX7_layCases 169 = .ok (.getfield 152, 3) := by decide +kernel
theorem dX7_layCases_172 : decode cX7_layCases 172 = .ok (.iload 4, 2) := by decide +kernel
theorem dX7_layCases_174 : decode cX7_layCases 174 = .ok (.iastore, 1) := by decide +kernel
theorem dX7_layCases_175 : decode cX7_layCases 175 = .ok (.aload_n 0, 1) := by decide +kernel
theorem dX7_layCases_176 : decode cX7_layCases 176 = .ok (.dup, 1) := by decide +kernel
theorem dX7_layCases_177 : decode cX7_layCases 177 = .ok (.getfield 152, 3) := by decide +kernel
theorem dX7_layCases_180 : decode cX7_layCases 180 = .ok (.iconst 1, 1) := by decide +kernel
theorem dX7_layCases_181 : decode cX7_layCases 181 = .ok (.iadd, 1) := by decide +kernel
theorem dX7_layCases_182 : decode cX7_layCases 182 = .ok (.putfield 152, 3) := by decide +kernel
theorem dX7_layCases_185 : decode cX7_layCases 185 = .ok (.iinc 4 1, 3) := by decide +kernel
theorem dX7_layCases_188 : decode cX7_layCases 188 = .ok (.goto (-53), 3) := by decide +kernel
theorem dX7_layCases_191 : decode cX7_layCases 191 = .ok (.return_, 1) := by decide +kernel
theorem dX7_caseOf_0 : decode cX7_caseOf 0 = .ok (.bipush (-9), 2) := by decide +kernel
theorem dX7_caseOf_2 : decode cX7_caseOf 2 = .ok (.istore_n 2, 1) := by decide +kernel
theorem dX7_caseOf_3 : decode cX7_caseOf 3 = .ok (.iconst 0, 1) := by decide +kernel
theorem dX7_caseOf_4 : decode cX7_caseOf 4 = .ok (.istore_n 3, 1) := by decide +kernel
theorem dX7_caseOf_5 : decode cX7_caseOf 5 = .ok (.iload_n 3, 1) := by decide +kernel
theorem dX7_caseOf_6 : decode cX7_caseOf 6 = .ok (.aload_n 0, 1) := by decide +kernel
theorem dX7_caseOf_7 : decode cX7_caseOf 7 = .ok (.getfield 152, 3) := by decide +kernel
theorem dX7_caseOf_10 : decode cX7_caseOf 10 = .ok (.if_icmp .ge 30, 3) := by decide +kernel
theorem dX7_caseOf_13 : decode cX7_caseOf 13 = .ok (.aload_n 0, 1) := by decide +kernel
theorem dX7_caseOf_14 : decode cX7_caseOf 14 = .ok (.getfield 53, 3) := by decide +kernel
theorem dX7_caseOf_17 : decode cX7_caseOf 17 = .ok (.iload_n 3, 1) := by decide +kernel
theorem dX7_caseOf_18 : decode cX7_caseOf 18 = .ok (.iaload, 1) := by decide +kernel
theorem dX7_caseOf_19 : decode cX7_caseOf 19 = .ok (.aload_n 0, 1) := by decide +kernel
theorem dX7_caseOf_20 : decode cX7_caseOf 20 = .ok (.getfield 44, 3) := by decide +kernel
theorem dX7_caseOf_23 : decode cX7_caseOf 23 = .ok (.iload_n 1, 1) := by decide +kernel
theorem dX7_caseOf_24 : decode cX7_caseOf 24 = .ok (.iaload, 1) := by decide +kernel
theorem dX7_caseOf_25 : decode cX7_caseOf 25 = .ok (.if_icmp .ne 7, 3) := by decide +kernel
theorem dX7_caseOf_28 : decode cX7_caseOf 28 = .ok (.iload_n 3, 1) := by decide +kernel
theorem dX7_caseOf_29 : decode cX7_caseOf 29 = .ok (.goto 4, 3) := by decide +kernel
theorem dX7_caseOf_32 : decode cX7_caseOf 32 = .ok (.iload_n 2, 1) := by decide +kernel
theorem dX7_caseOf_33 : decode cX7_caseOf 33 = .ok (.istore_n 2, 1) := by decide +kernel
theorem dX7_caseOf_34 : decode cX7_caseOf 34 = .ok (.iinc 3 1, 3) := by decide +kernel
theorem dX7_caseOf_37 : decode cX7_caseOf 37 = .ok (.goto (-32), 3) := by decide +kernel
theorem dX7_caseOf_40 : decode cX7_caseOf 40 = .ok (.iload_n 2, 1) := by decide +kernel
theorem dX7_caseOf_41 : decode cX7_caseOf 41 = .ok (.ireturn, 1) := by decide +kernel
set_option maxRecDepth 20000 in
theorem ggX7_initial_X7_ref : GoodIn wsX7_initial wsX7_ref := goodIn_r _ [5] (by decide +kernel) (by decide +kernel)
set_option maxRecDepth 20000 in
theorem gX7_initial_X7_ref : GoodIn wsX7_initial (va_wsS RX7 136 yX7_ref wsX7_ref) := goodIn_app (goodIn_of _ (by decide +kernel)) ggX7_initial_X7_ref
theorem dX7_initial_0 : decode cX7_initial 0 = .ok (.aload_n 1, 1) := by decide +kernel
theorem dX7_initial_1 : decode cX7_initial 1 = .ok (.aload_n 0, 1) := by decide +kernel
theorem dX7_initial_2 : decode cX7_initial 2 = .ok (.getfield 53, 3) := by decide +kernel
theorem dX7_initial_5 : decode cX7_initial 5 = .ok (.iload_n 2, 1) := by decide +kernel
theorem dX7_initial_6 : decode cX7_initial 6 = .ok (.iaload, 1) := by decide +kernel
theorem dX7_initial_7 : decode cX7_initial 7 = .ok (.iconst 1, 1) := by decide +kernel
theorem dX7_initial_8 : decode cX7_initial 8 = .ok (.invokestatic 136, 3) := by decide +kernel
theorem dX7_initial_11 : decode cX7_initial 11 = .ok (.ireturn, 1) := by decide +kernel
set_option maxRecDepth 20000 in
theorem ggX7_byShort_X7_initial : GoodIn wsX7_byShort wsX7_initial := goodIn_r _ [7, 2, 8, 9, 6, 10, 11, 12, 13, 14, 15, 16, 17, 18, 19, 20, 21, 22, 23, 24, 25, 26, 27, 28, 29, 30, 31, 32, 33, 34, 35, 36, 37, 38] (by decide +kernel) (by decide +kernel)
set_option maxRecDepth 20000 in
theorem gX7_byShort_X7_initial : GoodIn wsX7_byShort (wsV RX7 155 RX7 yX7_initial wsX7_initial) := goodIn_app (goodIn_of _ (by decide +kernel)) ggX7_byShort_X7_initial
theorem dX7_byShort_0 : decode cX7_byShort 0 = .ok (.bipush (-9), 2) := by decide +kernel
theorem dX7_byShort_2 : decode cX7_byShort 2 = .ok (.istore 5, 2) := by decide +kernel
theorem dX7_byShort_4 : decode cX7_byShort 4 = .ok (.iconst 0, 1) := by decide +kernel
theorem dX7_byShort_5 : decode cX7_byShort 5 = .ok (.istore 6, 2) := by decide +kernel
theorem dX7_byShort_7 : decode cX7_byShort 7 = .ok (.iload 6, 2) := by decide +kernel
theorem dX7_byShort_9 : decode cX7_byShort 9 = .ok (.aload_n 0, 1) := by decide +kernel
theorem dX7_byShort_10 : decode cX7_byShort 10 = .ok (.getfield 152, 3) := by decide +kernel
theorem dX7_byShort_13 : decode cX7_byShort 13 = .ok (.if_icmp .ge 65, 3) := by decide +kernel
theorem dX7_byShort_16 : decode cX7_byShort 16 = .ok (.aload_n 0, 1) := by decide +kernel
theorem dX7_byShort_17 : decode cX7_byShort 17 = .ok (.getfield 53, 3) := by decide +kernel
theorem dX7_byShort_20 : decode cX7_byShort 20 = .ok (.iload 6, 2) := by decide +kernel
theorem dX7_byShort_22 : decode cX7_byShort 22 = .ok (.iaload, 1) := by decide +kernel
theorem dX7_byShort_23 : decode cX7_byShort 23 = .ok (.iload_n 3, 1) := by decide +kernel
theorem dX7_byShort_24 : decode cX7_byShort 24 = .ok (.if_icmp .ge 19, 3) := by decide +kernel
theorem dX7_byShort_27 : decode cX7_byShort 27 = .ok (.aload_n 0, 1) := by decide +kernel
theorem dX7_byShort_28 : decode cX7_byShort 28 = .ok (.aload_n 1, 1) := by decide +kernel
theorem dX7_byShort_29 : decode cX7_byShort 29 = .ok (.iload 6, 2) := by decide +kernel
theorem dX7_byShort_31 : decode cX7_byShort 31 = .ok (.invokevirtual 155, 3) := by decide +kernel
theorem dX7_byShort_34 : decode cX7_byShort 34 = .ok (.iload 4, 2) := by decide +kernel
theorem dX7_byShort_36 : decode cX7_byShort 36 = .ok (.if_icmp .ne 7, 3) := by decide +kernel
theorem dX7_byShort_39 : decode cX7_byShort 39 = .ok (.iconst 1, 1) := by decide +kernel
theorem dX7_byShort_40 : decode cX7_byShort 40 = .ok (.goto 4, 3) := by decide +kernel
theorem dX7_byShort_43 : decode cX7_byShort 43 = .ok (.iconst 0, 1) := by decide +kernel
theorem dX7_byShort_44 : decode cX7_byShort 44 = .ok (.istore 7, 2) := by decide +kernel
theorem dX7_byShort_46 : decode cX7_byShort 46 = .ok (.iload 7, 2) := by decide +kernel
theorem dX7_byShort_48 : decode cX7_byShort 48 = .ok (.ifCond .ne 8, 3) := by decide +kernel
theorem dX7_byShort_51 : decode cX7_byShort 51 = .ok (.iload 5, 2) := by decide +kernel
theorem dX7_byShort_53 : decode cX7_byShort 53 = .ok (.goto 17, 3) := by decide +kernel
theorem dX7_byShort_56 : decode cX7_byShort 56 = .ok (.iload 5, 2) := by decide +kernel
theorem dX7_byShort_58 : decode cX7_byShort 58 = .ok (.bipush (-9), 2) := by decide +kernel
theorem dX7_byShort_60 : decode cX7_byShort 60 = .ok (.if_icmp .ne 8, 3) := by decide +kernel
theorem dX7_byShort_63 : decode cX7_byShort 63 = .ok (.iload 6, 2) := by decide +kernel
theorem dX7_byShort_65 : decode cX7_byShort 65 = .ok (.goto 5, 3) := by decide +kernel
theorem dX7_byShort_68 : decode cX7_byShort 68 = .ok (.bipush (-10), 2) := by decide +kernel
theorem dX7_byShort_70 : decode cX7_byShort 70 = .ok (.istore 5, 2) := by decide +kernel
theorem dX7_byShort_72 : decode cX7_byShort 72 = .ok (.iinc 6 1, 3) := by decide +kernel
theorem dX7_byShort_75 : decode cX7_byShort 75 = .ok (.goto (-68), 3) := by decide +kernel
theorem dX7_byShort_78 : decode cX7_byShort 78 = .ok (.iload 5, 2) := by decide +kernel
theorem dX7_byShort_80 : decode cX7_byShort 80 = .ok (.ireturn, 1) := by decide +kernel
set_option maxRecDepth 20000 in
theorem ggX7_byAbove_X7_isLeft : GoodIn wsX7_byAbove wsX7_isLeft := goodIn_r _ [6, 7, 8, 5, 9, 10, 11, 12, 13, 14, 15] (by decide +kernel) (by decide +kernel)
set_option maxRecDepth 20000 in
theorem gX7_byAbove_X7_isLeft : GoodIn wsX7_byAbove (va_wsS RX7 140 yX7_isLeft wsX7_isLeft) := goodIn_app (goodIn_of _ (by decide +kernel)) ggX7_byAbove_X7_isLeft
set_option maxRecDepth 20000 in
theorem ggX7_byAbove_X7_initial : GoodIn wsX7_byAbove wsX7_initial := goodIn_r _ [19, 20, 21, 22, 5, 23, 24, 25, 26, 27, 28, 29, 30, 31, 32, 33, 34, 35, 36, 37, 38, 39, 40, 41, 42, 43, 44, 45, 46, 47, 48, 49, 50, 51] (by decide +kernel) (by decide +kernel)
set_option maxRecDepth 20000 in
theorem gX7_byAbove_X7_initial : GoodIn wsX7_byAbove (wsV RX7 155 RX7 yX7_initial wsX7_initial) := goodIn_app (goodIn_of _ (by decide +kernel)) ggX7_byAbove_X7_initial
theorem dX7_byAbove_0 : decode cX7_byAbove 0 = .ok (.bipush (-9), 2) := by decide +kernel
theorem dX7_byAbove_2 : decode cX7_byAbove 2 = .ok (.istore 5, 2) := by decide +kernel
theorem dX7_byAbove_4 : decode cX7_byAbove 4 = .ok (.iconst 0, 1) := by decide +kernel
theorem dX7_byAbove_5 : decode cX7_byAbove 5 = .ok (.istore 6, 2) := by decide +kernel
theorem dX7_byAbove_7 : decode cX7_byAbove 7 = .ok (.iload 6, 2) := by decide +kernel
theorem dX7_byAbove_9 : decode cX7_byAbove 9 = .ok (.aload_n 0, 1) := by decide +kernel
theorem dX7_byAbove_10 : decode cX7_byAbove 10 = .ok (.getfield 152, 3) := by decide +kernel
theorem dX7_byAbove_13 : decode cX7_byAbove 13 = .ok (.if_icmp .ge 107, 3) := by decide +kernel
theorem dX7_byAbove_16 : decode cX7_byAbove 16 = .ok (.iconst 0, 1) := by decide +kernel
theorem dX7_byAbove_17 : decode cX7_byAbove 17 = .ok (.istore 7, 2) := by decide +kernel
theorem dX7_byAbove_19 : decode cX7_byAbove 19 = .ok (.iconst 0, 1) := by decide +kernel
theorem dX7_byAbove_20 : decode cX7_byAbove 20 = .ok (.istore 8, 2) := by decide +kernel
theorem dX7_byAbove_22 : decode cX7_byAbove 22 = .ok (.iload 8, 2) := by decide +kernel
theorem dX7_byAbove_24 : decode cX7_byAbove 24 = .ok (.iconst 4, 1) := by decide +kernel
theorem dX7_byAbove_25 : decode cX7_byAbove 25 = .ok (.if_icmp .ge 51, 3) := by decide +kernel
theorem dX7_byAbove_28 : decode cX7_byAbove 28 = .ok (.iload 7, 2) := by decide +kernel
theorem dX7_byAbove_30 : decode cX7_byAbove 30 = .ok (.ifCond .ne 33, 3) := by decide +kernel
theorem dX7_byAbove_33 : decode cX7_byAbove 33 = .ok (.aload_n 1, 1) := by decide +kernel
theorem dX7_byAbove_34 : decode cX7_byAbove 34 = .ok (.iload_n 2, 1) := by decide +kernel
theorem dX7_byAbove_35 : decode cX7_byAbove 35 = .ok (.iconst 4, 1) := by decide +kernel
theorem dX7_byAbove_36 : decode cX7_byAbove 36 = .ok (.iload_n 3, 1) := by decide +kernel
theorem dX7_byAbove_37 : decode cX7_byAbove 37 = .ok (.imul, 1) := by decide +kernel
theorem dX7_byAbove_38 : decode cX7_byAbove 38 = .ok (.iload 8, 2) := by decide +kernel
theorem dX7_byAbove_40 : decode cX7_byAbove 40 = .ok (.iadd, 1) := by decide +kernel
theorem dX7_byAbove_41 : decode cX7_byAbove 41 = .ok (.invokestatic 140, 3) := by decide +kernel
theorem dX7_byAbove_44 : decode cX7_byAbove 44 = .ok (.ifCond .eq 23, 3) := by decide +kernel
theorem dX7_byAbove_47 : decode cX7_byAbove 47 = .ok (.aload_n 0, 1) := by decide +kernel
theorem dX7_byAbove_48 : decode cX7_byAbove 48 = .ok (.getfield 47, 3) := by decide +kernel
theorem dX7_byAbove_51 : decode cX7_byAbove 51 = .ok (.iconst 4, 1) := by decide +kernel
theorem dX7_byAbove_52 : decode cX7_byAbove 52 = .ok (.iload_n 3, 1) := by decide +kernel
theorem dX7_byAbove_53 : decode cX7_byAbove 53 = .ok (.imul, 1) := by decide +kernel
theorem dX7_byAbove_54 : decode cX7_byAbove 54 = .ok (.iload 8, 2) := by decide +kernel
theorem dX7_byAbove_56 : decode cX7_byAbove 56 = .ok (.iadd, 1) := by decide +kernel
theorem dX7_byAbove_57 : decode cX7_byAbove 57 = .ok (.iaload, 1) := by decide +kernel
theorem dX7_byAbove_58 : decode cX7_byAbove 58 = .ok (.iload 6, 2) := by decide +kernel
theorem dX7_byAbove_60 : decode cX7_byAbove 60 = .ok (.if_icmp .ne 7, 3) := by decide +kernel
theorem dX7_byAbove_63 : decode cX7_byAbove 63 = .ok (.iconst 1, 1) := by decide +kernel
theorem dX7_byAbove_64 : decode cX7_byAbove 64 = .ok (.goto 4, 3) := by decide +kernel
theorem dX7_byAbove_67 : decode cX7_byAbove 67 = .ok (.iconst 0, 1) := by decide +kernel
theorem dX7_byAbove_68 : decode cX7_byAbove 68 = .ok (.istore 7, 2) := by decide +kernel
theorem dX7_byAbove_70 : decode cX7_byAbove 70 = .ok (.iinc 8 1, 3) := by decide +kernel
theorem dX7_byAbove_73 : decode cX7_byAbove 73 = .ok (.goto (-51), 3) := by decide +kernel
theorem dX7_byAbove_76 : decode cX7_byAbove 76 = .ok (.iload 7, 2) := by decide +kernel
theorem dX7_byAbove_78 : decode cX7_byAbove 78 = .ok (.ifCond .eq 15, 3) := by decide +kernel
theorem dX7_byAbove_81 : decode cX7_byAbove 81 = .ok (.aload_n 0, 1) := by decide +kernel
theorem dX7_byAbove_82 : decode cX7_byAbove 82 = .ok (.aload_n 1, 1) := by decide +kernel
theorem dX7_byAbove_83 : decode cX7_byAbove 83 = .ok (.iload 6, 2) := by decide +kernel
theorem dX7_byAbove_85 : decode cX7_byAbove 85 = .ok (.invokevirtual 155, 3) := by decide +kernel
theorem dX7_byAbove_88 : decode cX7_byAbove 88 = .ok (.iload 4, 2) := by decide +kernel
theorem dX7_byAbove_90 : decode cX7_byAbove 90 = .ok (.if_icmp .eq 8, 3) := by decide +kernel
theorem dX7_byAbove_93 : decode cX7_byAbove 93 = .ok (.iload 5, 2) := by decide +kernel
theorem dX7_byAbove_95 : decode cX7_byAbove 95 = .ok (.goto 17, 3) := by decide +kernel
theorem dX7_byAbove_98 : decode cX7_byAbove 98 = .ok (.iload 5, 2) := by decide +kernel
theorem dX7_byAbove_100 : decode cX7_byAbove 100 = .ok (.bipush (-9), 2) := by decide +kernel
theorem dX7_byAbove_102 : decode cX7_byAbove 102 = .ok (.if_icmp .ne 8, 3) := by decide +kernel
theorem dX7_byAbove_105 : decode cX7_byAbove 105 = .ok (.iload 6, 2) := by decide +kernel
theorem dX7_byAbove_107 : decode cX7_byAbove 107 = .ok (.goto 5, 3) := by decide +kernel
theorem dX7_byAbove_110 : decode cX7_byAbove 110 = .ok (.bipush (-10), 2) := by decide +kernel
theorem dX7_byAbove_112 : decode cX7_byAbove 112 = .ok (.istore 5, 2) := by decide +kernel
theorem dX7_byAbove_114 : decode cX7_byAbove 114 = .ok (.iinc 6 1, 3) := by decide +kernel
theorem dX7_byAbove_117 : decode cX7_byAbove 117 = .ok (.goto (-110), 3) := by decide +kernel
theorem dX7_byAbove_120 : decode cX7_byAbove 120 = .ok (.iload 5, 2) := by decide +kernel
theorem dX7_byAbove_122 : decode cX7_byAbove 122 = .ok (.ireturn, 1) := by decide +kernel
set_option maxRecDepth 20000 in
theorem ggX7_pointed_X7_has : GoodIn wsX7_pointed wsX7_has := goodIn_r _ [4] (by decide +kernel) (by decide +kernel)
set_option maxRecDepth 20000 in
theorem gX7_pointed_X7_has : GoodIn wsX7_pointed (va_wsS RX7 80 yX7_has wsX7_has) := goodIn_app (goodIn_of _ (by decide +kernel)) ggX7_pointed_X7_has
theorem dX7_pointed_0 : decode cX7_pointed 0 = .ok (.iload_n 2, 1) := by decide +kernel
theorem dX7_pointed_1 : decode cX7_pointed 1 = .ok (.iconst 4, 1) := by decide +kernel
theorem dX7_pointed_2 : decode cX7_pointed 2 = .ok (.irem, 1) := by decide +kernel
theorem dX7_pointed_3 : decode cX7_pointed 3 = .ok (.ifCond .le 7, 3) := by decide +kernel
theorem dX7_pointed_6 : decode cX7_pointed 6 = .ok (.iload_n 2, 1) := by decide +kernel
theorem dX7_pointed_7 : decode cX7_pointed 7 = .ok (.iconst 1, 1) := by decide +kernel
theorem dX7_pointed_8 : decode cX7_pointed 8 = .ok (.isub, 1) := by decide +kernel
theorem dX7_pointed_9 : decode cX7_pointed 9 = .ok (.ireturn, 1) := by decide +kernel
theorem dX7_pointed_10 : decode cX7_pointed 10 = .ok (.bipush (-9), 2) := by decide +kernel
theorem dX7_pointed_12 : decode cX7_pointed 12 = .ok (.istore_n 3, 1) := by decide +kernel
theorem dX7_pointed_13 : decode cX7_pointed 13 = .ok (.iconst 0, 1) := by decide +kernel
theorem dX7_pointed_14 : decode cX7_pointed 14 = .ok (.istore 4, 2) := by decide +kernel
theorem dX7_pointed_16 : decode cX7_pointed 16 = .ok (.iload 4, 2) := by decide +kernel
theorem dX7_pointed_18 : decode cX7_pointed 18 = .ok (.iload_n 2, 1) := by decide +kernel
theorem dX7_pointed_19 : decode cX7_pointed 19 = .ok (.iconst 4, 1) := by decide +kernel
theorem dX7_pointed_20 : decode cX7_pointed 20 = .ok (.idiv, 1) := by decide +kernel
theorem dX7_pointed_21 : decode cX7_pointed 21 = .ok (.if_icmp .ge 33, 3) := by decide +kernel
theorem dX7_pointed_24 : decode cX7_pointed 24 = .ok (.iload_n 1, 1) := by decide +kernel
theorem dX7_pointed_25 : decode cX7_pointed 25 = .ok (.iload 4, 2) := by decide +kernel
theorem dX7_pointed_27 : decode cX7_pointed 27 = .ok (.invokestatic 80, 3) := by decide +kernel
theorem dX7_pointed_30 : decode cX7_pointed 30 = .ok (.ifCond .eq 16, 3) := by decide +kernel
theorem dX7_pointed_33 : decode cX7_pointed 33 = .ok (.iload 4, 2) := by decide +kernel
theorem dX7_pointed_35 : decode cX7_pointed 35 = .ok (.aload_n 0, 1) := by decide +kernel
theorem dX7_pointed_36 : decode cX7_pointed 36 = .ok (.iconst 0, 1) := by decide +kernel
theorem dX7_pointed_37 : decode cX7_pointed 37 = .ok (.iaload, 1) := by decide +kernel
theorem dX7_pointed_38 : decode cX7_pointed 38 = .ok (.if_icmp .ge 8, 3) := by decide +kernel
theorem dX7_pointed_41 : decode cX7_pointed 41 = .ok (.iload 4, 2) := by decide +kernel
theorem dX7_pointed_43 : decode cX7_pointed 43 = .ok (.goto 4, 3) := by decide +kernel
theorem dX7_pointed_46 : decode cX7_pointed 46 = .ok (.iload_n 3, 1) := by decide +kernel
theorem dX7_pointed_47 : decode cX7_pointed 47 = .ok (.istore_n 3, 1) := by decide +kernel
theorem dX7_pointed_48 : decode cX7_pointed 48 = .ok (.iinc 4 1, 3) := by decide +kernel
theorem dX7_pointed_51 : decode cX7_pointed 51 = .ok (.goto (-35), 3) := by decide +kernel
theorem dX7_pointed_54 : decode cX7_pointed 54 = .ok (.iload_n 3, 1) := by decide +kernel
theorem dX7_pointed_55 : decode cX7_pointed 55 = .ok (.bipush (-9), 2) := by decide +kernel
theorem dX7_pointed_57 : decode cX7_pointed 57 = .ok (.if_icmp .eq 12, 3) := by decide +kernel
theorem dX7_pointed_60 : decode cX7_pointed 60 = .ok (.aload_n 0, 1) := by decide +kernel
theorem dX7_pointed_61 : decode cX7_pointed 61 = .ok (.iconst 1, 1) := by decide +kernel
theorem dX7_pointed_62 : decode cX7_pointed 62 = .ok (.iload_n 3, 1) := by decide +kernel
theorem dX7_pointed_63 : decode cX7_pointed 63 = .ok (.iadd, 1) := by decide +kernel
theorem dX7_pointed_64 : decode cX7_pointed 64 = .ok (.iaload, 1) := by decide +kernel
theorem dX7_pointed_65 : decode cX7_pointed 65 = .ok (.iconst 1, 1) := by decide +kernel
theorem dX7_pointed_66 : decode cX7_pointed 66 = .ok (.if_icmp .eq 8, 3) := by decide +kernel
theorem dX7_pointed_69 : decode cX7_pointed 69 = .ok (.bipush (-9), 2) := by decide +kernel
theorem dX7_pointed_71 : decode cX7_pointed 71 = .ok (.goto 6, 3) := by decide +kernel
theorem dX7_pointed_74 : decode cX7_pointed 74 = .ok (.iconst 4, 1) := by decide +kernel
theorem dX7_pointed_75 : decode cX7_pointed 75 = .ok (.iload_n 3, 1) := by decide +kernel
theorem dX7_pointed_76 : decode cX7_pointed 76 = .ok (.imul, 1) := by decide +kernel
theorem dX7_pointed_77 : decode cX7_pointed 77 = .ok (.ireturn, 1) := by decide +kernel
set_option maxRecDepth 20000 in
theorem ggX7_isAhead_X7_has : GoodIn wsX7_isAhead wsX7_has := goodIn_r _ [4] (by decide +kernel) (by decide +kernel)
set_option maxRecDepth 20000 in
theorem gX7_isAhead_X7_has : GoodIn wsX7_isAhead (va_wsS RX7 80 yX7_has wsX7_has) := goodIn_app (goodIn_of _ (by decide +kernel)) ggX7_isAhead_X7_has
theorem dX7_isAhead_0 : decode cX7_isAhead 0 = .ok (.iload_n 2, 1) := by decide +kernel
theorem dX7_isAhead_1 : decode cX7_isAhead 1 = .ok (.iload_n 3, 1) := by decide +kernel
theorem dX7_isAhead_2 : decode cX7_isAhead 2 = .ok (.iconst 4, 1) := by decide +kernel
theorem dX7_isAhead_3 : decode cX7_isAhead 3 = .ok (.idiv, 1) := by decide +kernel
theorem dX7_isAhead_4 : decode cX7_isAhead 4 = .ok (.if_icmp .ge 22, 3) := by decide +kernel
theorem dX7_isAhead_7 : decode cX7_isAhead 7 = .ok (.iload_n 2, 1) := by decide +kernel
theorem dX7_isAhead_8 : decode cX7_isAhead 8 = .ok (.aload_n 0, 1) := by decide +kernel
theorem dX7_isAhead_9 : decode cX7_isAhead 9 = .ok (.iconst 0, 1) := by decide +kernel
theorem dX7_isAhead_10 : decode cX7_isAhead 10 = .ok (.iaload, 1) := by decide +kernel
theorem dX7_isAhead_11 : decode cX7_isAhead 11 = .ok (.if_icmp .ge 15, 3) := by decide +kernel
theorem dX7_isAhead_14 : decode cX7_isAhead 14 = .ok (.iload_n 1, 1) := by decide +kernel
theorem dX7_isAhead_15 : decode cX7_isAhead 15 = .ok (.iload_n 2, 1) := by decide +kernel
theorem dX7_isAhead_16 : decode cX7_isAhead 16 = .ok (.invokestatic 80, 3) := by decide +kernel
theorem dX7_isAhead_19 : decode cX7_isAhead 19 = .ok (.ifCond .eq 7, 3) := by decide +kernel
theorem dX7_isAhead_22 : decode cX7_isAhead 22 = .ok (.iconst 1, 1) := by decide +kernel
theorem dX7_isAhead_23 : decode cX7_isAhead 23 = .ok (.goto 4, 3) := by decide +kernel
theorem dX7_isAhead_26 : decode cX7_isAhead 26 = .ok (.iconst 0, 1) := by decide +kernel
theorem dX7_isAhead_27 : decode cX7_isAhead 27 = .ok (.ireturn, 1) := by decide +kernel
set_option maxRecDepth 20000 in
theorem ggX7_told_X7_pointed : GoodIn wsX7_told wsX7_pointed := goodIn_r _ [6, 7, 8, 5, 9] (by decide +kernel) (by decide +kernel)
set_option maxRecDepth 20000 in
theorem gX7_told_X7_pointed : GoodIn wsX7_told (va_wsS RX7 162 yX7_pointed wsX7_pointed) := goodIn_app (goodIn_of _ (by decide +kernel)) ggX7_told_X7_pointed
set_option maxRecDepth 20000 in
theorem ggX7_told_X7_isAhead : GoodIn wsX7_told wsX7_isAhead := goodIn_r _ [12, 7, 8, 5, 9] (by decide +kernel) (by decide +kernel)
set_option maxRecDepth 20000 in
theorem gX7_told_X7_isAhead : GoodIn wsX7_told (va_wsS RX7 165 yX7_isAhead wsX7_isAhead) := goodIn_app (goodIn_of _ (by decide +kernel)) ggX7_told_X7_isAhead
set_option maxRecDepth 20000 in
theorem ggX7_told_X7_byShort : GoodIn wsX7_told wsX7_byShort := goodIn_r _ [16, 17, 18, 19, 20, 21, 5, 22, 23, 24, 25, 39, 40, 41, 42, 43, 44, 45, 46, 47, 48, 49, 50, 51, 52, 53, 54, 55, 56, 57, 58, 59, 60, 61, 62, 63, 64, 65, 66] (by decide +kernel) (by decide +kernel)
set_option maxRecDepth 20000 in
theorem gX7_told_X7_byShort : GoodIn wsX7_told (wsV RX7 169 RX7 yX7_byShort wsX7_byShort) := goodIn_app (goodIn_of _ (by decide +kernel)) ggX7_told_X7_byShort
set_option maxRecDepth 20000 in
theorem ggX7_told_X7_byAbove : GoodIn wsX7_told wsX7_byAbove := goodIn_r _ [29, 17, 2, 30, 31, 5, 32, 33, 34, 35, 36, 37, 38, 7, 8, 9, 19, 20, 21, 22, 18, 23, 24, 25, 39, 40, 41, 42, 43, 44, 45, 46, 47, 48, 49, 50, 51, 52, 53, 54, 55, 56, 57, 58, 59, 60, 61, 62, 63, 64, 65, 66] (by decide +kernel) (by decide +kernel)
set_option maxRecDepth 20000 in
theorem gX7_told_X7_byAbove : GoodIn wsX7_told (wsV RX7 173 RX7 yX7_byAbove wsX7_byAbove) := goodIn_app (goodIn_of _ (by decide +kernel)) ggX7_told_X7_byAbove
theorem dX7_told_0 : decode cX7_told 0 = .ok (.aload_n 0, 1) := by decide +kernel
theorem dX7_told_1 : decode cX7_told 1 = .ok (.iconst 0, 1) := by decide +kernel
theorem dX7_told_2 : decode cX7_told 2 = .ok (.putfield 159, 3) := by decide +kernel
theorem dX7_told_5 : decode cX7_told 5 = .ok (.iload 4, 2) := by decide +kernel
theorem dX7_told_7 : decode cX7_told 7 = .ok (.iconst 2, 1) := by decide +kernel
theorem dX7_told_8 : decode cX7_told 8 = .ok (.if_icmp .ne 63, 3) := by decide +kernel
theorem dX7_told_11 : decode cX7_told 11 = .ok (.aload_n 1, 1) := by decide +kernel
theorem dX7_told_12 : decode cX7_told 12 = .ok (.iload_n 2, 1) := by decide +kernel
theorem dX7_told_13 : decode cX7_told 13 = .ok (.iload_n 3, 1) := by decide +kernel
theorem dX7_told_14 : decode cX7_told 14 = .ok (.invokestatic 162, 3) := by decide +kernel
theorem dX7_told_17 : decode cX7_told 17 = .ok (.istore 7, 2) := by decide +kernel
theorem dX7_told_19 : decode cX7_told 19 = .ok (.aload_n 0, 1) := by decide +kernel
theorem dX7_told_20 : decode cX7_told 20 = .ok (.iload 7, 2) := by decide +kernel
theorem dX7_told_22 : decode cX7_told 22 = .ok (.bipush (-9), 2) := by decide +kernel
theorem dX7_told_24 : decode cX7_told 24 = .ok (.if_icmp .ne 7, 3) := by decide +kernel
theorem dX7_told_27 : decode cX7_told 27 = .ok (.iconst 3, 1) := by decide +kernel
theorem dX7_told_28 : decode cX7_told 28 = .ok (.goto 20, 3) := by decide +kernel
theorem dX7_told_31 : decode cX7_told 31 = .ok (.aload_n 0, 1) := by decide +kernel
theorem dX7_told_32 : decode cX7_told 32 = .ok (.getfield 47, 3) := by decide +kernel
theorem dX7_told_35 : decode cX7_told 35 = .ok (.iload 7, 2) := by decide +kernel
theorem dX7_told_37 : decode cX7_told 37 = .ok (.iaload, 1) := by decide +kernel
theorem dX7_told_38 : decode cX7_told 38 = .ok (.bipush (-9), 2) := by decide +kernel
theorem dX7_told_40 : decode cX7_told 40 = .ok (.if_icmp .ne 7, 3) := by decide +kernel
theorem dX7_told_43 : decode cX7_told 43 = .ok (.iconst 4, 1) := by decide +kernel
theorem dX7_told_44 : decode cX7_told 44 = .ok (.goto 4, 3) := by decide +kernel
theorem dX7_told_47 : decode cX7_told 47 = .ok (.iconst 0, 1) := by decide +kernel
theorem dX7_told_48 : decode cX7_told 48 = .ok (.putfield 159, 3) := by decide +kernel
theorem dX7_told_51 : decode cX7_told 51 = .ok (.aload_n 0, 1) := by decide +kernel
theorem dX7_told_52 : decode cX7_told 52 = .ok (.getfield 159, 3) := by decide +kernel
theorem dX7_told_55 : decode cX7_told 55 = .ok (.ifCond .ne 13, 3) := by decide +kernel
theorem dX7_told_58 : decode cX7_told 58 = .ok (.aload_n 0, 1) := by decide +kernel
theorem dX7_told_59 : decode cX7_told 59 = .ok (.getfield 47, 3) := by decide +kernel
theorem dX7_told_62 : decode cX7_told 62 = .ok (.iload 7, 2) := by decide +kernel
theorem dX7_told_64 : decode cX7_told 64 = .ok (.iaload, 1) := by decide +kernel
theorem dX7_told_65 : decode cX7_told 65 = .ok (.goto 5, 3) := by decide +kernel
theorem dX7_told_68 : decode cX7_told 68 = .ok (.bipush (-9), 2) := by decide +kernel
theorem dX7_told_70 : decode cX7_told 70 = .ok (.ireturn, 1) := by decide +kernel
theorem dX7_told_71 : decode cX7_told 71 = .ok (.iload 4, 2) := by decide +kernel
theorem dX7_told_73 : decode cX7_told 73 = .ok (.iconst 3, 1) := by decide +kernel
theorem dX7_told_74 : decode cX7_told 74 = .ok (.if_icmp .ne 22, 3) := by decide +kernel
theorem dX7_told_77 : decode cX7_told 77 = .ok (.aload_n 1, 1) := by decide +kernel
theorem dX7_told_78 : decode cX7_told 78 = .ok (.iload_n 2, 1) := by decide +kernel
theorem dX7_told_79 : decode cX7_told 79 = .ok (.iload 6, 2) := by decide +kernel
theorem dX7_told_81 : decode cX7_told 81 = .ok (.iload_n 3, 1) := by decide +kernel
theorem dX7_told_82 : decode cX7_told 82 = .ok (.invokestatic 165, 3) := by decide +kernel
theorem dX7_told_85 : decode cX7_told 85 = .ok (.ifCond .ne 11, 3) := by decide +kernel
theorem dX7_told_88 : decode cX7_told 88 = .ok (.aload_n 0, 1) := by decide +kernel
theorem dX7_told_89 : decode cX7_told 89 = .ok (.iconst 5, 1) := by decide +kernel
theorem dX7_told_90 : decode cX7_told 90 = .ok (.putfield 159, 3) := by decide +kernel
theorem dX7_told_93 : decode cX7_told 93 = .ok (.bipush (-9), 2) := by decide +kernel
theorem dX7_told_95 : decode cX7_told 95 = .ok (.ireturn, 1) := by decide +kernel
theorem dX7_told_96 : decode cX7_told 96 = .ok (.iload 4, 2) := by decide +kernel
theorem dX7_told_98 : decode cX7_told 98 = .ok (.iconst 1, 1) := by decide +kernel
theorem dX7_told_99 : decode cX7_told 99 = .ok (.if_icmp .ne 15, 3) := by decide +kernel
theorem dX7_told_102 : decode cX7_told 102 = .ok (.aload_n 0, 1) := by decide +kernel
theorem dX7_told_103 : decode cX7_told 103 = .ok (.aload_n 1, 1) := by decide +kernel
theorem dX7_told_104 : decode cX7_told 104 = .ok (.iload_n 2, 1) := by decide +kernel
theorem dX7_told_105 : decode cX7_told 105 = .ok (.iload_n 3, 1) := by decide +kernel
theorem dX7_told_106 : decode cX7_told 106 = .ok (.iload 5, 2) := by decide +kernel
theorem dX7_told_108 : decode cX7_told 108 = .ok (.invokevirtual 169, 3) := by decide +kernel
theorem dX7_told_111 : decode cX7_told 111 = .ok (.goto 13, 3) := by decide +kernel
theorem dX7_told_114 : decode cX7_told 114 = .ok (.aload_n 0, 1) := by decide +kernel
theorem dX7_told_115 : decode cX7_told 115 = .ok (.aload_n 1, 1) := by decide +kernel
