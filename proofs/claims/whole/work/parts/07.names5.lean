theorem dX7_told_116 : decode cX7_told 116 = .ok (.iload_n 2, 1) := by decide +kernel
theorem dX7_told_117 : decode cX7_told 117 = .ok (.iload 6, 2) := by decide +kernel
theorem dX7_told_119 : decode cX7_told 119 = .ok (.iload 5, 2) := by decide +kernel
theorem dX7_told_121 : decode cX7_told 121 = .ok (.invokevirtual 173, 3) := by decide +kernel
theorem dX7_told_124 : decode cX7_told 124 = .ok (.istore 7, 2) := by decide +kernel
theorem dX7_told_126 : decode cX7_told 126 = .ok (.aload_n 0, 1) := by decide +kernel
theorem dX7_told_127 : decode cX7_told 127 = .ok (.iload 7, 2) := by decide +kernel
theorem dX7_told_129 : decode cX7_told 129 = .ok (.bipush (-9), 2) := by decide +kernel
theorem dX7_told_131 : decode cX7_told 131 = .ok (.if_icmp .ne 7, 3) := by decide +kernel
theorem dX7_told_134 : decode cX7_told 134 = .ok (.iconst 1, 1) := by decide +kernel
theorem dX7_told_135 : decode cX7_told 135 = .ok (.goto 15, 3) := by decide +kernel
theorem dX7_told_138 : decode cX7_told 138 = .ok (.iload 7, 2) := by decide +kernel
theorem dX7_told_140 : decode cX7_told 140 = .ok (.bipush (-10), 2) := by decide +kernel
theorem dX7_told_142 : decode cX7_told 142 = .ok (.if_icmp .ne 7, 3) := by decide +kernel
theorem dX7_told_145 : decode cX7_told 145 = .ok (.iconst 2, 1) := by decide +kernel
theorem dX7_told_146 : decode cX7_told 146 = .ok (.goto 4, 3) := by decide +kernel
theorem dX7_told_149 : decode cX7_told 149 = .ok (.iconst 0, 1) := by decide +kernel
theorem dX7_told_150 : decode cX7_told 150 = .ok (.putfield 159, 3) := by decide +kernel
theorem dX7_told_153 : decode cX7_told 153 = .ok (.aload_n 0, 1) := by decide +kernel
theorem dX7_told_154 : decode cX7_told 154 = .ok (.getfield 159, 3) := by decide +kernel
theorem dX7_told_157 : decode cX7_told 157 = .ok (.ifCond .ne 8, 3) := by decide +kernel
theorem dX7_told_160 : decode cX7_told 160 = .ok (.iload 7, 2) := by decide +kernel
theorem dX7_told_162 : decode cX7_told 162 = .ok (.goto 5, 3) := by decide +kernel
theorem dX7_told_165 : decode cX7_told 165 = .ok (.bipush (-9), 2) := by decide +kernel
theorem dX7_told_167 : decode cX7_told 167 = .ok (.ireturn, 1) := by decide +kernel
set_option maxRecDepth 20000 in
theorem ggX7_find_X7_layCases : GoodIn wsX7_find wsX7_layCases := goodIn_r _ [8, 9, 10, 11, 12, 13, 7, 14, 15, 16, 17, 18, 19, 20, 21, 22, 23, 24, 25, 26, 27, 28, 29, 30, 31, 32, 33, 34, 35, 62, 63, 64, 65, 66, 67, 68, 69, 70, 71, 72, 73, 74, 75, 76, 77, 78, 79, 80, 81, 82, 83, 84, 85, 86, 87, 88, 89] (by decide +kernel) (by decide +kernel)
set_option maxRecDepth 20000 in
theorem gX7_find_X7_layCases : GoodIn wsX7_find (wsV RX7 176 RX7 yX7_layCases wsX7_layCases) := goodIn_app (goodIn_of _ (by decide +kernel)) ggX7_find_X7_layCases
set_option maxRecDepth 20000 in
theorem ggX7_find_X7_isSpelled : GoodIn wsX7_find wsX7_isSpelled := goodIn_r _ [14, 15, 16, 7, 17, 18, 19, 20, 21, 22, 23, 24, 25, 26, 27, 28, 29] (by decide +kernel) (by decide +kernel)
set_option maxRecDepth 20000 in
theorem gX7_find_X7_isSpelled : GoodIn wsX7_find (va_wsS RX7 146 yX7_isSpelled wsX7_isSpelled) := goodIn_app (goodIn_of _ (by decide +kernel)) ggX7_find_X7_isSpelled
set_option maxRecDepth 20000 in
theorem ggX7_find_X7_caseOf : GoodIn wsX7_find wsX7_caseOf := goodIn_r _ [39, 10, 11, 9, 62, 63, 64, 65, 66, 67, 68, 69, 70, 71, 72, 73, 74, 75, 76, 77, 78, 79, 80, 81, 82, 83, 84, 85, 86, 87, 88, 89] (by decide +kernel) (by decide +kernel)
set_option maxRecDepth 20000 in
theorem gX7_find_X7_caseOf : GoodIn wsX7_find (wsV RX7 180 RX7 yX7_caseOf wsX7_caseOf) := goodIn_app (goodIn_of _ (by decide +kernel)) ggX7_find_X7_caseOf
set_option maxRecDepth 20000 in
theorem ggX7_find_X7_isLeft : GoodIn wsX7_find wsX7_isLeft := goodIn_r _ [17, 18, 19, 7, 20, 21, 22, 23, 24, 25, 26] (by decide +kernel) (by decide +kernel)
set_option maxRecDepth 20000 in
theorem gX7_find_X7_isLeft : GoodIn wsX7_find (va_wsS RX7 140 yX7_isLeft wsX7_isLeft) := goodIn_app (goodIn_of _ (by decide +kernel)) ggX7_find_X7_isLeft
set_option maxRecDepth 20000 in
theorem ggX7_find_X7_ref : GoodIn wsX7_find wsX7_ref := goodIn_r _ [29] (by decide +kernel) (by decide +kernel)
set_option maxRecDepth 20000 in
theorem gX7_find_X7_ref : GoodIn wsX7_find (va_wsS RX7 136 yX7_ref wsX7_ref) := goodIn_app (goodIn_of _ (by decide +kernel)) ggX7_find_X7_ref
set_option maxRecDepth 20000 in
theorem ggX7_find_X7_told : GoodIn wsX7_find wsX7_told := goodIn_r _ [43, 3, 1, 44, 45, 7, 46, 24, 25, 26, 47, 48, 49, 50, 51, 52, 53, 10, 11, 54, 55, 56, 57, 27, 28, 29, 58, 59, 60, 61, 15, 16, 17, 18, 19, 20, 21, 22, 23, 62, 63, 64, 65, 66, 67, 68, 69, 70, 71, 72, 73, 74, 75, 76, 77, 78, 79, 80, 81, 82, 83, 84, 85, 86, 87, 88, 89] (by decide +kernel) (by decide +kernel)
set_option maxRecDepth 20000 in
theorem gX7_find_X7_told : GoodIn wsX7_find (wsV RX7 183 RX7 yX7_told wsX7_told) := goodIn_app (goodIn_of _ (by decide +kernel)) ggX7_find_X7_told
theorem dX7_find_0 : decode cX7_find 0 = .ok (.aload_n 0, 1) := by decide +kernel
theorem dX7_find_1 : decode cX7_find 1 = .ok (.aload_n 1, 1) := by decide +kernel
theorem dX7_find_2 : decode cX7_find 2 = .ok (.iload_n 2, 1) := by decide +kernel
theorem dX7_find_3 : decode cX7_find 3 = .ok (.invokevirtual 176, 3) := by decide +kernel
theorem dX7_find_6 : decode cX7_find 6 = .ok (.iconst 0, 1) := by decide +kernel
theorem dX7_find_7 : decode cX7_find 7 = .ok (.istore_n 3, 1) := by decide +kernel
theorem dX7_find_8 : decode cX7_find 8 = .ok (.iload_n 3, 1) := by decide +kernel
theorem dX7_find_9 : decode cX7_find 9 = .ok (.bipush 32, 2) := by decide +kernel
theorem dX7_find_11 : decode cX7_find 11 = .ok (.if_icmp .ge 98, 3) := by decide +kernel
theorem dX7_find_14 : decode cX7_find 14 = .ok (.aload_n 0, 1) := by decide +kernel
theorem dX7_find_15 : decode cX7_find 15 = .ok (.getfield 47, 3) := by decide +kernel
theorem dX7_find_18 : decode cX7_find 18 = .ok (.iload_n 3, 1) := by decide +kernel
theorem dX7_find_19 : decode cX7_find 19 = .ok (.bipush (-9), 2) := by decide +kernel
theorem dX7_find_21 : decode cX7_find 21 = .ok (.iastore, 1) := by decide +kernel
theorem dX7_find_22 : decode cX7_find 22 = .ok (.aload_n 0, 1) := by decide +kernel
theorem dX7_find_23 : decode cX7_find 23 = .ok (.getfield 50, 3) := by decide +kernel
theorem dX7_find_26 : decode cX7_find 26 = .ok (.iload_n 3, 1) := by decide +kernel
theorem dX7_find_27 : decode cX7_find 27 = .ok (.iconst 0, 1) := by decide +kernel
theorem dX7_find_28 : decode cX7_find 28 = .ok (.iastore, 1) := by decide +kernel
theorem dX7_find_29 : decode cX7_find 29 = .ok (.aload_n 1, 1) := by decide +kernel
theorem dX7_find_30 : decode cX7_find 30 = .ok (.iload_n 2, 1) := by decide +kernel
theorem dX7_find_31 : decode cX7_find 31 = .ok (.iload_n 3, 1) := by decide +kernel
theorem dX7_find_32 : decode cX7_find 32 = .ok (.invokestatic 146, 3) := by decide +kernel
theorem dX7_find_35 : decode cX7_find 35 = .ok (.ifCond .eq 17, 3) := by decide +kernel
theorem dX7_find_38 : decode cX7_find 38 = .ok (.aload_n 0, 1) := by decide +kernel
theorem dX7_find_39 : decode cX7_find 39 = .ok (.getfield 47, 3) := by decide +kernel
theorem dX7_find_42 : decode cX7_find 42 = .ok (.iload_n 3, 1) := by decide +kernel
theorem dX7_find_43 : decode cX7_find 43 = .ok (.aload_n 0, 1) := by decide +kernel
theorem dX7_find_44 : decode cX7_find 44 = .ok (.iload_n 3, 1) := by decide +kernel
theorem dX7_find_45 : decode cX7_find 45 = .ok (.invokevirtual 180, 3) := by decide +kernel
theorem dX7_find_48 : decode cX7_find 48 = .ok (.iastore, 1) := by decide +kernel
theorem dX7_find_49 : decode cX7_find 49 = .ok (.goto 54, 3) := by decide +kernel
theorem dX7_find_52 : decode cX7_find 52 = .ok (.aload_n 1, 1) := by decide +kernel
theorem dX7_find_53 : decode cX7_find 53 = .ok (.iload_n 2, 1) := by decide +kernel
theorem dX7_find_54 : decode cX7_find 54 = .ok (.iload_n 3, 1) := by decide +kernel
theorem dX7_find_55 : decode cX7_find 55 = .ok (.invokestatic 140, 3) := by decide +kernel
theorem dX7_find_58 : decode cX7_find 58 = .ok (.ifCond .eq 45, 3) := by decide +kernel
theorem dX7_find_61 : decode cX7_find 61 = .ok (.aload_n 0, 1) := by decide +kernel
theorem dX7_find_62 : decode cX7_find 62 = .ok (.getfield 47, 3) := by decide +kernel
theorem dX7_find_65 : decode cX7_find 65 = .ok (.iload_n 3, 1) := by decide +kernel
theorem dX7_find_66 : decode cX7_find 66 = .ok (.aload_n 0, 1) := by decide +kernel
theorem dX7_find_67 : decode cX7_find 67 = .ok (.aload_n 1, 1) := by decide +kernel
theorem dX7_find_68 : decode cX7_find 68 = .ok (.iload_n 2, 1) := by decide +kernel
theorem dX7_find_69 : decode cX7_find 69 = .ok (.iload_n 3, 1) := by decide +kernel
theorem dX7_find_70 : decode cX7_find 70 = .ok (.aload_n 1, 1) := by decide +kernel
theorem dX7_find_71 : decode cX7_find 71 = .ok (.iload_n 3, 1) := by decide +kernel
theorem dX7_find_72 : decode cX7_find 72 = .ok (.iconst 0, 1) := by decide +kernel
theorem dX7_find_73 : decode cX7_find 73 = .ok (.invokestatic 136, 3) := by decide +kernel
theorem dX7_find_76 : decode cX7_find 76 = .ok (.aload_n 1, 1) := by decide +kernel
theorem dX7_find_77 : decode cX7_find 77 = .ok (.iload_n 3, 1) := by decide +kernel
theorem dX7_find_78 : decode cX7_find 78 = .ok (.iconst 5, 1) := by decide +kernel
theorem dX7_find_79 : decode cX7_find 79 = .ok (.invokestatic 136, 3) := by decide +kernel
theorem dX7_find_82 : decode cX7_find 82 = .ok (.aload_n 1, 1) := by decide +kernel
theorem dX7_find_83 : decode cX7_find 83 = .ok (.iload_n 3, 1) := by decide +kernel
theorem dX7_find_84 : decode cX7_find 84 = .ok (.bipush 6, 2) := by decide +kernel
theorem dX7_find_86 : decode cX7_find 86 = .ok (.invokestatic 136, 3) := by decide +kernel
theorem dX7_find_89 : decode cX7_find 89 = .ok (.invokevirtual 183, 3) := by decide +kernel
theorem dX7_find_92 : decode cX7_find 92 = .ok (.iastore, 1) := by decide +kernel
theorem dX7_find_93 : decode cX7_find 93 = .ok (.aload_n 0, 1) := by decide +kernel
theorem dX7_find_94 : decode cX7_find 94 = .ok (.getfield 50, 3) := by decide +kernel
theorem dX7_find_97 : decode cX7_find 97 = .ok (.iload_n 3, 1) := by decide +kernel
theorem dX7_find_98 : decode cX7_find 98 = .ok (.aload_n 0, 1) := by decide +kernel
theorem dX7_find_99 : decode cX7_find 99 = .ok (.getfield 159, 3) := by decide +kernel
theorem dX7_find_102 : decode cX7_find 102 = .ok (.iastore, 1) := by decide +kernel
theorem dX7_find_103 : decode cX7_find 103 = .ok (.iinc 3 1, 3) := by decide +kernel
theorem dX7_find_106 : decode cX7_find 106 = .ok (.goto (-98), 3) := by decide +kernel
theorem dX7_find_109 : decode cX7_find 109 = .ok (.return_, 1) := by decide +kernel
set_option maxRecDepth 20000 in
theorem ggX7_findAll_X7_allNotes : GoodIn wsX7_findAll wsX7_allNotes := goodIn_r _ [4] (by decide +kernel) (by decide +kernel)
set_option maxRecDepth 20000 in
theorem gX7_findAll_X7_allNotes : GoodIn wsX7_findAll (va_wsS RX7 187 yX7_allNotes wsX7_allNotes) := goodIn_app (goodIn_of _ (by decide +kernel)) ggX7_findAll_X7_allNotes
set_option maxRecDepth 20000 in
theorem ggX7_findAll_X7_find : GoodIn wsX7_findAll wsX7_find := goodIn_r _ [8, 9, 10, 11, 12, 13, 14, 3, 15, 16, 17, 18, 19, 20, 21, 22, 23, 24, 25, 26, 27, 28, 29, 30, 31, 32, 33, 34, 35, 36, 37, 38, 39, 40, 41, 42, 43, 44, 45, 46, 47, 48, 49, 50, 51, 52, 53, 54, 55, 56, 57, 58, 59, 60, 61, 62, 63, 64, 65, 66, 67, 68, 69, 70, 71, 72, 73, 74, 75, 76, 77, 78, 79, 80, 81, 82, 83, 84, 85, 86, 87, 88, 89, 90, 91, 92, 93, 94, 95, 96] (by decide +kernel) (by decide +kernel)
set_option maxRecDepth 20000 in
theorem gX7_findAll_X7_find : GoodIn wsX7_findAll (wsV RX7 191 RX7 yX7_find wsX7_find) := goodIn_app (goodIn_of _ (by decide +kernel)) ggX7_findAll_X7_find
theorem dX7_findAll_0 : decode cX7_findAll 0 = .ok (.aload_n 0, 1) := by decide +kernel
theorem dX7_findAll_1 : decode cX7_findAll 1 = .ok (.aload_n 1, 1) := by decide +kernel
theorem dX7_findAll_2 : decode cX7_findAll 2 = .ok (.aload_n 1, 1) := by decide +kernel
theorem dX7_findAll_3 : decode cX7_findAll 3 = .ok (.invokestatic 187, 3) := by decide +kernel
theorem dX7_findAll_6 : decode cX7_findAll 6 = .ok (.invokevirtual 191, 3) := by decide +kernel
theorem dX7_findAll_9 : decode cX7_findAll 9 = .ok (.return_, 1) := by decide +kernel
set_option maxRecDepth 20000 in
theorem ggX7_manyRefs_X7_isLeft : GoodIn wsX7_manyRefs wsX7_isLeft := goodIn_r _ [4, 5, 6, 3, 7, 8, 9, 10, 11, 12, 13] (by decide +kernel) (by decide +kernel)
set_option maxRecDepth 20000 in
theorem gX7_manyRefs_X7_isLeft : GoodIn wsX7_manyRefs (va_wsS RX7 140 yX7_isLeft wsX7_isLeft) := goodIn_app (goodIn_of _ (by decide +kernel)) ggX7_manyRefs_X7_isLeft
theorem dX7_manyRefs_0 : decode cX7_manyRefs 0 = .ok (.iconst 0, 1) := by decide +kernel
theorem dX7_manyRefs_1 : decode cX7_manyRefs 1 = .ok (.istore_n 2, 1) := by decide +kernel
theorem dX7_manyRefs_2 : decode cX7_manyRefs 2 = .ok (.iconst 0, 1) := by decide +kernel
theorem dX7_manyRefs_3 : decode cX7_manyRefs 3 = .ok (.istore_n 3, 1) := by decide +kernel
theorem dX7_manyRefs_4 : decode cX7_manyRefs 4 = .ok (.iload_n 3, 1) := by decide +kernel
theorem dX7_manyRefs_5 : decode cX7_manyRefs 5 = .ok (.bipush 32, 2) := by decide +kernel
theorem dX7_manyRefs_7 : decode cX7_manyRefs 7 = .ok (.if_icmp .ge 26, 3) := by decide +kernel
theorem dX7_manyRefs_10 : decode cX7_manyRefs 10 = .ok (.iload_n 2, 1) := by decide +kernel
theorem dX7_manyRefs_11 : decode cX7_manyRefs 11 = .ok (.aload_n 0, 1) := by decide +kernel
theorem dX7_manyRefs_12 : decode cX7_manyRefs 12 = .ok (.iload_n 1, 1) := by decide +kernel
theorem dX7_manyRefs_13 : decode cX7_manyRefs 13 = .ok (.iload_n 3, 1) := by decide +kernel
theorem dX7_manyRefs_14 : decode cX7_manyRefs 14 = .ok (.invokestatic 140, 3) := by decide +kernel
theorem dX7_manyRefs_17 : decode cX7_manyRefs 17 = .ok (.ifCond .eq 7, 3) := by decide +kernel
theorem dX7_manyRefs_20 : decode cX7_manyRefs 20 = .ok (.iconst 1, 1) := by decide +kernel
theorem dX7_manyRefs_21 : decode cX7_manyRefs 21 = .ok (.goto 4, 3) := by decide +kernel
theorem dX7_manyRefs_24 : decode cX7_manyRefs 24 = .ok (.iconst 0, 1) := by decide +kernel
theorem dX7_manyRefs_25 : decode cX7_manyRefs 25 = .ok (.iadd, 1) := by decide +kernel
theorem dX7_manyRefs_26 : decode cX7_manyRefs 26 = .ok (.istore_n 2, 1) := by decide +kernel
theorem dX7_manyRefs_27 : decode cX7_manyRefs 27 = .ok (.iinc 3 1, 3) := by decide +kernel
theorem dX7_manyRefs_30 : decode cX7_manyRefs 30 = .ok (.goto (-26), 3) := by decide +kernel
theorem dX7_manyRefs_33 : decode cX7_manyRefs 33 = .ok (.iload_n 2, 1) := by decide +kernel
theorem dX7_manyRefs_34 : decode cX7_manyRefs 34 = .ok (.ireturn, 1) := by decide +kernel
theorem dX7_manyFound_0 : decode cX7_manyFound 0 = .ok (.iconst 0, 1) := by decide +kernel
theorem dX7_manyFound_1 : decode cX7_manyFound 1 = .ok (.istore_n 1, 1) := by decide +kernel
theorem dX7_manyFound_2 : decode cX7_manyFound 2 = .ok (.iconst 0, 1) := by decide +kernel
theorem dX7_manyFound_3 : decode cX7_manyFound 3 = .ok (.istore_n 2, 1) := by decide +kernel
theorem dX7_manyFound_4 : decode cX7_manyFound 4 = .ok (.iload_n 2, 1) := by decide +kernel
theorem dX7_manyFound_5 : decode cX7_manyFound 5 = .ok (.bipush 32, 2) := by decide +kernel
theorem dX7_manyFound_7 : decode cX7_manyFound 7 = .ok (.if_icmp .ge 28, 3) := by decide +kernel
theorem dX7_manyFound_10 : decode cX7_manyFound 10 = .ok (.iload_n 1, 1) := by decide +kernel
theorem dX7_manyFound_11 : decode cX7_manyFound 11 = .ok (.aload_n 0, 1) := by decide +kernel
theorem dX7_manyFound_12 : decode cX7_manyFound 12 = .ok (.getfield 47, 3) := by decide +kernel
theorem dX7_manyFound_15 : decode cX7_manyFound 15 = .ok (.iload_n 2, 1) := by decide +kernel
theorem dX7_manyFound_16 : decode cX7_manyFound 16 = .ok (.iaload, 1) := by decide +kernel
theorem dX7_manyFound_17 : decode cX7_manyFound 17 = .ok (.bipush (-9), 2) := by decide +kernel
theorem dX7_manyFound_19 : decode cX7_manyFound 19 = .ok (.if_icmp .ne 7, 3) := by decide +kernel
theorem dX7_manyFound_22 : decode cX7_manyFound 22 = .ok (.iconst 0, 1) := by decide +kernel
theorem dX7_manyFound_23 : decode cX7_manyFound 23 = .ok (.goto 4, 3) := by decide +kernel
theorem dX7_manyFound_26 : decode cX7_manyFound 26 = .ok (.iconst 1, 1) := by decide +kernel
theorem dX7_manyFound_27 : decode cX7_manyFound 27 = .ok (.iadd, 1) := by decide +kernel
theorem dX7_manyFound_28 : decode cX7_manyFound 28 = .ok (.istore_n 1, 1) := by decide +kernel
theorem dX7_manyFound_29 : decode cX7_manyFound 29 = .ok (.iinc 2 1, 3) := by decide +kernel
theorem dX7_manyFound_32 : decode cX7_manyFound 32 = .ok (.goto (-28), 3) := by decide +kernel
theorem dX7_manyFound_35 : decode cX7_manyFound 35 = .ok (.iload_n 1, 1) := by decide +kernel
theorem dX7_manyFound_36 : decode cX7_manyFound 36 = .ok (.ireturn, 1) := by decide +kernel
set_option maxRecDepth 20000 in
theorem ggX7_dead_X7_findAll : GoodIn wsX7_dead wsX7_findAll := goodIn_r _ [5, 6, 7, 4, 8, 9, 10, 11, 12, 13, 14, 15, 16, 17, 18, 19, 20, 21, 22, 23, 24, 25, 26, 27, 28, 29, 30, 31, 32, 33, 34, 35, 36, 37, 38, 39, 40, 41, 42, 43, 44, 45, 46, 47, 48, 49, 50, 51, 52, 53, 54, 55, 56, 57, 58, 59, 60, 61, 62, 63, 64, 65, 66, 67, 68, 69, 70, 71, 72, 80, 81, 82, 83, 84, 85, 86, 87, 88, 89, 90, 91, 92, 93, 94, 95, 96, 97, 98, 99, 100, 101, 102, 103, 104, 105, 106, 107] (by decide +kernel) (by decide +kernel)
set_option maxRecDepth 20000 in
theorem gX7_dead_X7_findAll : GoodIn wsX7_dead (wsV RX7 194 RX7 yX7_findAll wsX7_findAll) := goodIn_app (goodIn_of _ (by decide +kernel)) ggX7_dead_X7_findAll
set_option maxRecDepth 20000 in
theorem ggX7_dead_X7_allNotes : GoodIn wsX7_dead wsX7_allNotes := goodIn_r _ [8] (by decide +kernel) (by decide +kernel)
set_option maxRecDepth 20000 in
theorem gX7_dead_X7_allNotes : GoodIn wsX7_dead (va_wsS RX7 187 yX7_allNotes wsX7_allNotes) := goodIn_app (goodIn_of _ (by decide +kernel)) ggX7_dead_X7_allNotes
set_option maxRecDepth 20000 in
theorem ggX7_dead_X7_manyRefs : GoodIn wsX7_dead wsX7_manyRefs := goodIn_r _ [75, 26, 27, 4, 28, 29, 30, 31, 32, 33, 34, 35, 36, 37] (by decide +kernel) (by decide +kernel)
set_option maxRecDepth 20000 in
theorem gX7_dead_X7_manyRefs : GoodIn wsX7_dead (va_wsS RX7 198 yX7_manyRefs wsX7_manyRefs) := goodIn_app (goodIn_of _ (by decide +kernel)) ggX7_dead_X7_manyRefs
set_option maxRecDepth 20000 in
theorem ggX7_dead_X7_manyFound : GoodIn wsX7_dead wsX7_manyFound := goodIn_r _ [79, 13, 80, 81, 82, 83, 84, 85, 86, 87, 88, 89, 90, 91, 92, 93, 94, 95, 96, 97, 98, 99, 100, 101, 102, 103, 104, 105, 106, 107] (by decide +kernel) (by decide +kernel)
set_option maxRecDepth 20000 in
theorem gX7_dead_X7_manyFound : GoodIn wsX7_dead (wsV RX7 201 RX7 yX7_manyFound wsX7_manyFound) := goodIn_app (goodIn_of _ (by decide +kernel)) ggX7_dead_X7_manyFound
theorem dX7_dead_0 : decode cX7_dead 0 = .ok (.aload_n 0, 1) := by decide +kernel
theorem dX7_dead_1 : decode cX7_dead 1 = .ok (.aload_n 1, 1) := by decide +kernel
theorem dX7_dead_2 : decode cX7_dead 2 = .ok (.invokevirtual 194, 3) := by decide +kernel
theorem dX7_dead_5 : decode cX7_dead 5 = .ok (.aload_n 1, 1) := by decide +kernel
theorem dX7_dead_6 : decode cX7_dead 6 = .ok (.aload_n 1, 1) := by decide +kernel
theorem dX7_dead_7 : decode cX7_dead 7 = .ok (.invokestatic 187, 3) := by decide +kernel
theorem dX7_dead_10 : decode cX7_dead 10 = .ok (.invokestatic 198, 3) := by decide +kernel
theorem dX7_dead_13 : decode cX7_dead 13 = .ok (.aload_n 0, 1) := by decide +kernel
theorem dX7_dead_14 : decode cX7_dead 14 = .ok (.invokevirtual 201, 3) := by decide +kernel
theorem dX7_dead_17 : decode cX7_dead 17 = .ok (.isub, 1) := by decide +kernel
theorem dX7_dead_18 : decode cX7_dead 18 = .ok (.ireturn, 1) := by decide +kernel
set_option maxRecDepth 20000 in
theorem ggX7_isPast_X7_ref : GoodIn wsX7_isPast wsX7_ref := goodIn_r _ [6] (by decide +kernel) (by decide +kernel)
set_option maxRecDepth 20000 in
theorem gX7_isPast_X7_ref : GoodIn wsX7_isPast (va_wsS RX7 136 yX7_ref wsX7_ref) := goodIn_app (goodIn_of _ (by decide +kernel)) ggX7_isPast_X7_ref
set_option maxRecDepth 20000 in
theorem ggX7_isPast_X7_allNotes : GoodIn wsX7_isPast wsX7_allNotes := goodIn_r _ [9] (by decide +kernel) (by decide +kernel)
set_option maxRecDepth 20000 in
theorem gX7_isPast_X7_allNotes : GoodIn wsX7_isPast (va_wsS RX7 187 yX7_allNotes wsX7_allNotes) := goodIn_app (goodIn_of _ (by decide +kernel)) ggX7_isPast_X7_allNotes
set_option maxRecDepth 20000 in
theorem ggX7_isPast_X7_isSpelled : GoodIn wsX7_isPast wsX7_isSpelled := goodIn_r _ [12, 13, 14, 5, 15, 16, 17, 18, 19, 20, 21, 22, 23, 24, 3, 4, 6] (by decide +kernel) (by decide +kernel)
set_option maxRecDepth 20000 in
theorem gX7_isPast_X7_isSpelled : GoodIn wsX7_isPast (va_wsS RX7 146 yX7_isSpelled wsX7_isSpelled) := goodIn_app (goodIn_of _ (by decide +kernel)) ggX7_isPast_X7_isSpelled
theorem dX7_isPast_0 : decode cX7_isPast 0 = .ok (.aload_n 1, 1) := by decide +kernel
theorem dX7_isPast_1 : decode cX7_isPast 1 = .ok (.aload_n 0, 1) := by decide +kernel
theorem dX7_isPast_2 : decode cX7_isPast 2 = .ok (.getfield 53, 3) := by decide +kernel
theorem dX7_isPast_5 : decode cX7_isPast 5 = .ok (.iload_n 2, 1) := by decide +kernel
theorem dX7_isPast_6 : decode cX7_isPast 6 = .ok (.iaload, 1) := by decide +kernel
theorem dX7_isPast_7 : decode cX7_isPast 7 = .ok (.iconst 3, 1) := by decide +kernel
theorem dX7_isPast_8 : decode cX7_isPast 8 = .ok (.invokestatic 136, 3) := by decide +kernel
theorem dX7_isPast_11 : decode cX7_isPast 11 = .ok (.istore 4, 2) := by decide +kernel
theorem dX7_isPast_13 : decode cX7_isPast 13 = .ok (.iconst 0, 1) := by decide +kernel
theorem dX7_isPast_14 : decode cX7_isPast 14 = .ok (.istore 5, 2) := by decide +kernel
theorem dX7_isPast_16 : decode cX7_isPast 16 = .ok (.iconst 0, 1) := by decide +kernel
theorem dX7_isPast_17 : decode cX7_isPast 17 = .ok (.istore 6, 2) := by decide +kernel
theorem dX7_isPast_19 : decode cX7_isPast 19 = .ok (.iload 6, 2) := by decide +kernel
theorem dX7_isPast_21 : decode cX7_isPast 21 = .ok (.bipush 64, 2) := by decide +kernel
theorem dX7_isPast_23 : decode cX7_isPast 23 = .ok (.if_icmp .ge 94, 3) := by decide +kernel
theorem dX7_isPast_26 : decode cX7_isPast 26 = .ok (.iload 6, 2) := by decide +kernel
theorem dX7_isPast_28 : decode cX7_isPast 28 = .ok (.iconst 2, 1) := by decide +kernel
theorem dX7_isPast_29 : decode cX7_isPast 29 = .ok (.idiv, 1) := by decide +kernel
theorem dX7_isPast_30 : decode cX7_isPast 30 = .ok (.istore 7, 2) := by decide +kernel
theorem dX7_isPast_32 : decode cX7_isPast 32 = .ok (.aload_n 1, 1) := by decide +kernel
theorem dX7_isPast_33 : decode cX7_isPast 33 = .ok (.aload_n 1, 1) := by decide +kernel
theorem dX7_isPast_34 : decode cX7_isPast 34 = .ok (.invokestatic 187, 3) := by decide +kernel
theorem dX7_isPast_37 : decode cX7_isPast 37 = .ok (.iload 7, 2) := by decide +kernel
theorem dX7_isPast_39 : decode cX7_isPast 39 = .ok (.invokestatic 146, 3) := by decide +kernel
theorem dX7_isPast_42 : decode cX7_isPast 42 = .ok (.ifCond .eq 69, 3) := by decide +kernel
theorem dX7_isPast_45 : decode cX7_isPast 45 = .ok (.aload_n 0, 1) := by decide +kernel
theorem dX7_isPast_46 : decode cX7_isPast 46 = .ok (.getfield 47, 3) := by decide +kernel
theorem dX7_isPast_49 : decode cX7_isPast 49 = .ok (.iload 7, 2) := by decide +kernel
theorem dX7_isPast_51 : decode cX7_isPast 51 = .ok (.iaload, 1) := by decide +kernel
theorem dX7_isPast_52 : decode cX7_isPast 52 = .ok (.iload_n 2, 1) := by decide +kernel
theorem dX7_isPast_53 : decode cX7_isPast 53 = .ok (.if_icmp .eq 58, 3) := by decide +kernel
theorem dX7_isPast_56 : decode cX7_isPast 56 = .ok (.aload_n 1, 1) := by decide +kernel
theorem dX7_isPast_57 : decode cX7_isPast 57 = .ok (.iload 7, 2) := by decide +kernel
theorem dX7_isPast_59 : decode cX7_isPast 59 = .ok (.iconst 3, 1) := by decide +kernel
theorem dX7_isPast_60 : decode cX7_isPast 60 = .ok (.iload 6, 2) := by decide +kernel
theorem dX7_isPast_62 : decode cX7_isPast 62 = .ok (.iconst 2, 1) := by decide +kernel
theorem dX7_isPast_63 : decode cX7_isPast 63 = .ok (.irem, 1) := by decide +kernel
theorem dX7_isPast_64 : decode cX7_isPast 64 = .ok (.iadd, 1) := by decide +kernel
theorem dX7_isPast_65 : decode cX7_isPast 65 = .ok (.invokestatic 136, 3) := by decide +kernel
theorem dX7_isPast_68 : decode cX7_isPast 68 = .ok (.istore 8, 2) := by decide +kernel
theorem dX7_isPast_70 : decode cX7_isPast 70 = .ok (.iload 5, 2) := by decide +kernel
theorem dX7_isPast_72 : decode cX7_isPast 72 = .ok (.ifCond .ne 32, 3) := by decide +kernel
theorem dX7_isPast_75 : decode cX7_isPast 75 = .ok (.iload 8, 2) := by decide +kernel
theorem dX7_isPast_77 : decode cX7_isPast 77 = .ok (.bipush 100, 2) := by decide +kernel
theorem dX7_isPast_79 : decode cX7_isPast 79 = .ok (.idiv, 1) := by decide +kernel
theorem dX7_isPast_80 : decode cX7_isPast 80 = .ok (.iload 4, 2) := by decide +kernel
theorem dX7_isPast_82 : decode cX7_isPast 82 = .ok (.bipush 100, 2) := by decide +kernel
theorem dX7_isPast_84 : decode cX7_isPast 84 = .ok (.idiv, 1) := by decide +kernel
theorem dX7_isPast_85 : decode cX7_isPast 85 = .ok (.if_icmp .ne 23, 3) := by decide +kernel
theorem dX7_isPast_88 : decode cX7_isPast 88 = .ok (.iload 8, 2) := by decide +kernel
theorem dX7_isPast_90 : decode cX7_isPast 90 = .ok (.iload 4, 2) := by decide +kernel
theorem dX7_isPast_92 : decode cX7_isPast 92 = .ok (.if_icmp .le 16, 3) := by decide +kernel
theorem dX7_isPast_95 : decode cX7_isPast 95 = .ok (.iload_n 3, 1) := by decide +kernel
theorem dX7_isPast_96 : decode cX7_isPast 96 = .ok (.iload 8, 2) := by decide +kernel
theorem dX7_isPast_98 : decode cX7_isPast 98 = .ok (.bipush 100, 2) := by decide +kernel
theorem dX7_isPast_100 : decode cX7_isPast 100 = .ok (.irem, 1) := by decide +kernel
theorem dX7_isPast_101 : decode cX7_isPast 101 = .ok (.if_icmp .lt 7, 3) := by decide +kernel
theorem dX7_isPast_104 : decode cX7_isPast 104 = .ok (.iconst 1, 1) := by decide +kernel
theorem dX7_isPast_105 : decode cX7_isPast 105 = .ok (.goto 4, 3) := by decide +kernel
theorem dX7_isPast_108 : decode cX7_isPast 108 = .ok (.iconst 0, 1) := by decide +kernel
theorem dX7_isPast_109 : decode cX7_isPast 109 = .ok (.istore 5, 2) := by decide +kernel
theorem dX7_isPast_111 : decode cX7_isPast 111 = .ok (.iinc 6 1, 3) := by decide +kernel
theorem dX7_isPast_114 : decode cX7_isPast 114 = .ok (.goto (-95), 3) := by decide +kernel
theorem dX7_isPast_117 : decode cX7_isPast 117 = .ok (.iload 5, 2) := by decide +kernel
theorem dX7_isPast_119 : decode cX7_isPast 119 = .ok (.ireturn, 1) := by decide +kernel
set_option maxRecDepth 20000 in
theorem ggX7_pinned_X7_ref : GoodIn wsX7_pinned wsX7_ref := goodIn_r _ [6] (by decide +kernel) (by decide +kernel)
set_option maxRecDepth 20000 in
theorem gX7_pinned_X7_ref : GoodIn wsX7_pinned (va_wsS RX7 136 yX7_ref wsX7_ref) := goodIn_app (goodIn_of _ (by decide +kernel)) ggX7_pinned_X7_ref
set_option maxRecDepth 20000 in
theorem ggX7_pinned_X7_isPast : GoodIn wsX7_pinned wsX7_isPast := goodIn_r _ [10, 2, 1, 3, 4, 5, 6, 11, 12, 13, 14, 15, 16, 17, 18, 19, 20, 21, 22, 23, 24, 25, 26, 27, 28, 29, 30, 31, 32, 33, 34, 35, 36, 37, 38, 39, 40, 41, 42, 43, 44, 45, 46, 47, 48, 49, 50, 51, 52, 53, 54, 55, 56] (by decide +kernel) (by decide +kernel)
set_option maxRecDepth 20000 in
theorem gX7_pinned_X7_isPast : GoodIn wsX7_pinned (wsV RX7 204 RX7 yX7_isPast wsX7_isPast) := goodIn_app (goodIn_of _ (by decide +kernel)) ggX7_pinned_X7_isPast
theorem dX7_pinned_0 : decode cX7_pinned 0 = .ok (.aload_n 1, 1) := by decide +kernel
theorem dX7_pinned_1 : decode cX7_pinned 1 = .ok (.iload_n 2, 1) := by decide +kernel
theorem dX7_pinned_2 : decode cX7_pinned 2 = .ok (.bipush 7, 2) := by decide +kernel
theorem dX7_pinned_4 : decode cX7_pinned 4 = .ok (.invokestatic 136, 3) := by decide +kernel
theorem dX7_pinned_7 : decode cX7_pinned 7 = .ok (.istore_n 3, 1) := by decide +kernel
theorem dX7_pinned_8 : decode cX7_pinned 8 = .ok (.aload_n 0, 1) := by decide +kernel
theorem dX7_pinned_9 : decode cX7_pinned 9 = .ok (.getfield 47, 3) := by decide +kernel
theorem dX7_pinned_12 : decode cX7_pinned 12 = .ok (.iload_n 2, 1) := by decide +kernel
theorem dX7_pinned_13 : decode cX7_pinned 13 = .ok (.iaload, 1) := by decide +kernel
theorem dX7_pinned_14 : decode cX7_pinned 14 = .ok (.bipush (-9), 2) := by decide +kernel
theorem dX7_pinned_16 : decode cX7_pinned 16 = .ok (.if_icmp .ne 5, 3) := by decide +kernel
theorem dX7_pinned_19 : decode cX7_pinned 19 = .ok (.iconst 4, 1) := by decide +kernel
theorem dX7_pinned_20 : decode cX7_pinned 20 = .ok (.ireturn, 1) := by decide +kernel
theorem dX7_pinned_21 : decode cX7_pinned 21 = .ok (.iload_n 3, 1) := by decide +kernel
theorem dX7_pinned_22 : decode cX7_pinned 22 = .ok (.ifCond .ne 5, 3) := by decide +kernel
theorem dX7_pinned_25 : decode cX7_pinned 25 = .ok (.iconst 1, 1) := by decide +kernel
theorem dX7_pinned_26 : decode cX7_pinned 26 = .ok (.ireturn, 1) := by decide +kernel
theorem dX7_pinned_27 : decode cX7_pinned 27 = .ok (.iload_n 3, 1) := by decide +kernel
theorem dX7_pinned_28 : decode cX7_pinned 28 = .ok (.aload_n 1, 1) := by decide +kernel
theorem dX7_pinned_29 : decode cX7_pinned 29 = .ok (.aload_n 0, 1) := by decide +kernel
theorem dX7_pinned_30 : decode cX7_pinned 30 = .ok (.getfield 53, 3) := by decide +kernel
theorem dX7_pinned_33 : decode cX7_pinned 33 = .ok (.aload_n 0, 1) := by decide +kernel
theorem dX7_pinned_34 : decode cX7_pinned 34 = .ok (.getfield 47, 3) := by decide +kernel
theorem dX7_pinned_37 : decode cX7_pinned 37 = .ok (.iload_n 2, 1) := by decide +kernel
theorem dX7_pinned_38 : decode cX7_pinned 38 = .ok (.iaload, 1) := by decide +kernel
theorem dX7_pinned_39 : decode cX7_pinned 39 = .ok (.iaload, 1) := by decide +kernel
theorem dX7_pinned_40 : decode cX7_pinned 40 = .ok (.iconst 3, 1) := by decide +kernel
theorem dX7_pinned_41 : decode cX7_pinned 41 = .ok (.invokestatic 136, 3) := by decide +kernel
theorem dX7_pinned_44 : decode cX7_pinned 44 = .ok (.bipush 100, 2) := by decide +kernel
theorem dX7_pinned_46 : decode cX7_pinned 46 = .ok (.irem, 1) := by decide +kernel
theorem dX7_pinned_47 : decode cX7_pinned 47 = .ok (.if_icmp .ge 7, 3) := by decide +kernel
theorem dX7_pinned_50 : decode cX7_pinned 50 = .ok (.iconst 2, 1) := by decide +kernel
theorem dX7_pinned_51 : decode cX7_pinned 51 = .ok (.goto 23, 3) := by decide +kernel
theorem dX7_pinned_54 : decode cX7_pinned 54 = .ok (.aload_n 0, 1) := by decide +kernel
theorem dX7_pinned_55 : decode cX7_pinned 55 = .ok (.aload_n 1, 1) := by decide +kernel
theorem dX7_pinned_56 : decode cX7_pinned 56 = .ok (.aload_n 0, 1) := by decide +kernel
theorem dX7_pinned_57 : decode cX7_pinned 57 = .ok (.getfield 47, 3) := by decide +kernel
theorem dX7_pinned_60 : decode cX7_pinned 60 = .ok (.iload_n 2, 1) := by decide +kernel
theorem dX7_pinned_61 : decode cX7_pinned 61 = .ok (.iaload, 1) := by decide +kernel
theorem dX7_pinned_62 : decode cX7_pinned 62 = .ok (.iload_n 3, 1) := by decide +kernel
theorem dX7_pinned_63 : decode cX7_pinned 63 = .ok (.invokevirtual 204, 3) := by decide +kernel
theorem dX7_pinned_66 : decode cX7_pinned 66 = .ok (.ifCond .eq 7, 3) := by decide +kernel
theorem dX7_pinned_69 : decode cX7_pinned 69 = .ok (.iconst 3, 1) := by decide +kernel
theorem dX7_pinned_70 : decode cX7_pinned 70 = .ok (.goto 4, 3) := by decide +kernel
theorem dX7_pinned_73 : decode cX7_pinned 73 = .ok (.iconst 0, 1) := by decide +kernel
theorem dX7_pinned_74 : decode cX7_pinned 74 = .ok (.ireturn, 1) := by decide +kernel
set_option maxRecDepth 20000 in
theorem ggX7_found_X7_isThere : GoodIn wsX7_found wsX7_isThere := goodIn_r _ [9, 10, 11, 8, 12] (by decide +kernel) (by decide +kernel)
set_option maxRecDepth 20000 in
theorem gX7_found_X7_isThere : GoodIn wsX7_found (va_wsS RX7 76 yX7_isThere wsX7_isThere) := goodIn_app (goodIn_of _ (by decide +kernel)) ggX7_found_X7_isThere
set_option maxRecDepth 20000 in
theorem ggX7_found_X7_in : GoodIn wsX7_found wsX7_in := goodIn_r _ [12] (by decide +kernel) (by decide +kernel)
set_option maxRecDepth 20000 in
theorem gX7_found_X7_in : GoodIn wsX7_found (va_wsS RX7 72 yX7_in wsX7_in) := goodIn_app (goodIn_of _ (by decide +kernel)) ggX7_found_X7_in
set_option maxRecDepth 20000 in
theorem ggX7_found_X7_findAll : GoodIn wsX7_found wsX7_findAll := goodIn_r _ [16, 17, 18, 8, 19, 20, 21, 22, 23, 4, 5, 24, 25, 26, 27, 28, 29, 30, 31, 32, 33, 34, 35, 36, 37, 6, 7, 9, 10, 11, 12, 38, 39, 40, 41, 42, 43, 44, 45, 46, 47, 48, 49, 50, 51, 52, 53, 54, 55, 56, 57, 58, 59, 60, 61, 62, 63, 64, 65, 66, 67, 68, 69, 70, 71, 72, 73, 74, 75, 84, 85, 86, 87, 88, 89, 90, 91, 92, 93, 94, 95, 96, 97, 98, 99, 100, 101, 102, 103, 104, 105, 106, 107, 108, 109, 110, 111] (by decide +kernel) (by decide +kernel)
set_option maxRecDepth 20000 in
theorem gX7_found_X7_findAll : GoodIn wsX7_found (wsV RX7 194 RX7 yX7_findAll wsX7_findAll) := goodIn_app (goodIn_of _ (by decide +kernel)) ggX7_found_X7_findAll
set_option maxRecDepth 20000 in
theorem ggX7_found_X7_pinned : GoodIn wsX7_found wsX7_pinned := goodIn_r _ [79, 4, 31, 41, 42, 8, 43, 80, 81, 82, 83, 17, 18, 19, 32, 33, 34, 35, 36, 37, 6, 7, 9, 10, 11, 12, 38, 39, 40, 84, 85, 86, 87, 88, 89, 90, 91, 92, 93, 94, 95, 96, 97, 98, 99, 100, 101, 102, 103, 104, 105, 106, 107, 108, 109, 110, 111] (by decide +kernel) (by decide +kernel)
set_option maxRecDepth 20000 in
theorem gX7_found_X7_pinned : GoodIn wsX7_found (wsV RX7 207 RX7 yX7_pinned wsX7_pinned) := goodIn_app (goodIn_of _ (by decide +kernel)) ggX7_found_X7_pinned
theorem dX7_found_0 : decode cX7_found 0 = .ok (.aload_n 0, 1) := by decide +kernel
theorem dX7_found_1 : decode cX7_found 1 = .ok (.iconst 0, 1) := by decide +kernel
theorem dX7_found_2 : decode cX7_found 2 = .ok (.putfield 68, 3) := by decide +kernel
theorem dX7_found_5 : decode cX7_found 5 = .ok (.aload_n 0, 1) := by decide +kernel
theorem dX7_found_6 : decode cX7_found 6 = .ok (.getfield 16, 3) := by decide +kernel
theorem dX7_found_9 : decode cX7_found 9 = .ok (.iload_n 1, 1) := by decide +kernel
theorem dX7_found_10 : decode cX7_found 10 = .ok (.iload_n 2, 1) := by decide +kernel
theorem dX7_found_11 : decode cX7_found 11 = .ok (.invokestatic 76, 3) := by decide +kernel
theorem dX7_found_14 : decode cX7_found 14 = .ok (.ifCond .ne 5, 3) := by decide +kernel
theorem dX7_found_17 : decode cX7_found 17 = .ok (.iconst (-1), 1) := by decide +kernel
theorem dX7_found_18 : decode cX7_found 18 = .ok (.ireturn, 1) := by decide +kernel
theorem dX7_found_19 : decode cX7_found 19 = .ok (.iload_n 3, 1) := by decide +kernel
theorem dX7_found_20 : decode cX7_found 20 = .ok (.i2l, 1) := by decide +kernel
theorem dX7_found_21 : decode cX7_found 21 = .ok (.lconst 0, 1) := by decide +kernel
theorem dX7_found_22 : decode cX7_found 22 = .ok (.ldc2_w 134, 3) := by decide +kernel
theorem dX7_found_25 : decode cX7_found 25 = .ok (.invokestatic 72, 3) := by decide +kernel
theorem dX7_found_28 : decode cX7_found 28 = .ok (.ifCond .ne 6, 3) := by decide +kernel
theorem dX7_found_31 : decode cX7_found 31 = .ok (.bipush (-2), 2) := by decide +kernel
theorem dX7_found_33 : decode cX7_found 33 = .ok (.ireturn, 1) := by decide +kernel
theorem dX7_found_34 : decode cX7_found 34 = .ok (.aload_n 0, 1) := by decide +kernel
theorem dX7_found_35 : decode cX7_found 35 = .ok (.aload_n 0, 1) := by decide +kernel
theorem dX7_found_36 : decode cX7_found 36 = .ok (.getfield 16, 3) := by decide +kernel
theorem dX7_found_39 : decode cX7_found 39 = .ok (.invokevirtual 194, 3) := by decide +kernel
theorem dX7_found_42 : decode cX7_found 42 = .ok (.iconst 4, 1) := by decide +kernel
theorem dX7_found_43 : decode cX7_found 43 = .ok (.iload_n 1, 1) := by decide +kernel
theorem dX7_found_44 : decode cX7_found 44 = .ok (.imul, 1) := by decide +kernel
theorem dX7_found_45 : decode cX7_found 45 = .ok (.iload_n 2, 1) := by decide +kernel
theorem dX7_found_46 : decode cX7_found 46 = .ok (.iadd, 1) := by decide +kernel
theorem dX7_found_47 : decode cX7_found 47 = .ok (.istore 4, 2) := by decide +kernel
theorem dX7_found_49 : decode cX7_found 49 = .ok (.iload_n 3, 1) := by decide +kernel
theorem dX7_found_50 : decode cX7_found 50 = .ok (.ifCond .ne 13, 3) := by decide +kernel
theorem dX7_found_53 : decode cX7_found 53 = .ok (.aload_n 0, 1) := by decide +kernel
theorem dX7_found_54 : decode cX7_found 54 = .ok (.getfield 47, 3) := by decide +kernel
theorem dX7_found_57 : decode cX7_found 57 = .ok (.iload 4, 2) := by decide +kernel
theorem dX7_found_59 : decode cX7_found 59 = .ok (.iaload, 1) := by decide +kernel
theorem dX7_found_60 : decode cX7_found 60 = .ok (.goto 28, 3) := by decide +kernel
theorem dX7_found_63 : decode cX7_found 63 = .ok (.iload_n 3, 1) := by decide +kernel
theorem dX7_found_64 : decode cX7_found 64 = .ok (.iconst 1, 1) := by decide +kernel
theorem dX7_found_65 : decode cX7_found 65 = .ok (.if_icmp .ne 13, 3) := by decide +kernel
theorem dX7_found_68 : decode cX7_found 68 = .ok (.aload_n 0, 1) := by decide +kernel
theorem dX7_found_69 : decode cX7_found 69 = .ok (.getfield 50, 3) := by decide +kernel
theorem dX7_found_72 : decode cX7_found 72 = .ok (.iload 4, 2) := by decide +kernel
theorem dX7_found_74 : decode cX7_found 74 = .ok (.iaload, 1) := by decide +kernel
theorem dX7_found_75 : decode cX7_found 75 = .ok (.goto 13, 3) := by decide +kernel
theorem dX7_found_78 : decode cX7_found 78 = .ok (.aload_n 0, 1) := by decide +kernel
theorem dX7_found_79 : decode cX7_found 79 = .ok (.aload_n 0, 1) := by decide +kernel
theorem dX7_found_80 : decode cX7_found 80 = .ok (.getfield 16, 3) := by decide +kernel
theorem dX7_found_83 : decode cX7_found 83 = .ok (.iload 4, 2) := by decide +kernel
theorem dX7_found_85 : decode cX7_found 85 = .ok (.invokevirtual 207, 3) := by decide +kernel
theorem dX7_found_88 : decode cX7_found 88 = .ok (.ireturn, 1) := by decide +kernel
set_option maxRecDepth 20000 in
theorem ggX7_clashes_X7_allNotes : GoodIn wsX7_clashes wsX7_allNotes := goodIn_r _ [7] (by decide +kernel) (by decide +kernel)
set_option maxRecDepth 20000 in
theorem gX7_clashes_X7_allNotes : GoodIn wsX7_clashes (va_wsS RX7 187 yX7_allNotes wsX7_allNotes) := goodIn_app (goodIn_of _ (by decide +kernel)) ggX7_clashes_X7_allNotes
set_option maxRecDepth 20000 in
theorem ggX7_clashes_X7_isSpelled : GoodIn wsX7_clashes wsX7_isSpelled := goodIn_r _ [10, 11, 12, 6, 13, 14, 15, 16, 17, 18, 19, 20, 21, 22, 23, 24, 25] (by decide +kernel) (by decide +kernel)
set_option maxRecDepth 20000 in
theorem gX7_clashes_X7_isSpelled : GoodIn wsX7_clashes (va_wsS RX7 146 yX7_isSpelled wsX7_isSpelled) := goodIn_app (goodIn_of _ (by decide +kernel)) ggX7_clashes_X7_isSpelled
set_option maxRecDepth 20000 in
theorem ggX7_clashes_X7_ref : GoodIn wsX7_clashes wsX7_ref := goodIn_r _ [25] (by decide +kernel) (by decide +kernel)
set_option maxRecDepth 20000 in
theorem gX7_clashes_X7_ref : GoodIn wsX7_clashes (va_wsS RX7 136 yX7_ref wsX7_ref) := goodIn_app (goodIn_of _ (by decide +kernel)) ggX7_clashes_X7_ref
theorem dX7_clashes_0 : decode cX7_clashes 0 = .ok (.iconst 0, 1) := by decide +kernel
theorem dX7_clashes_1 : decode cX7_clashes 1 = .ok (.istore_n 2, 1) := by decide +kernel
theorem dX7_clashes_2 : decode cX7_clashes 2 = .ok (.iconst 0, 1) := by decide +kernel
theorem dX7_clashes_3 : decode cX7_clashes 3 = .ok (.istore_n 3, 1) := by decide +kernel
theorem dX7_clashes_4 : decode cX7_clashes 4 = .ok (.iload_n 3, 1) := by decide +kernel
theorem dX7_clashes_5 : decode cX7_clashes 5 = .ok (.bipush 32, 2) := by decide +kernel
theorem dX7_clashes_7 : decode cX7_clashes 7 = .ok (.if_icmp .ge 123, 3) := by decide +kernel
theorem dX7_clashes_10 : decode cX7_clashes 10 = .ok (.aload_n 0, 1) := by decide +kernel
theorem dX7_clashes_11 : decode cX7_clashes 11 = .ok (.getfield 16, 3) := by decide +kernel
theorem dX7_clashes_14 : decode cX7_clashes 14 = .ok (.aload_n 0, 1) := by decide +kernel
theorem dX7_clashes_15 : decode cX7_clashes 15 = .ok (.getfield 16, 3) := by decide +kernel
theorem dX7_clashes_18 : decode cX7_clashes 18 = .ok (.invokestatic 187, 3) := by decide +kernel
theorem dX7_clashes_21 : decode cX7_clashes 21 = .ok (.iload_n 3, 1) := by decide +kernel
theorem dX7_clashes_22 : decode cX7_clashes 22 = .ok (.invokestatic 146, 3) := by decide +kernel
theorem dX7_clashes_25 : decode cX7_clashes 25 = .ok (.ifCond .eq 17, 3) := by decide +kernel
theorem dX7_clashes_28 : decode cX7_clashes 28 = .ok (.aload_n 0, 1) := by decide +kernel
theorem dX7_clashes_29 : decode cX7_clashes 29 = .ok (.getfield 47, 3) := by decide +kernel
theorem dX7_clashes_32 : decode cX7_clashes 32 = .ok (.iload_n 3, 1) := by decide +kernel
theorem dX7_clashes_33 : decode cX7_clashes 33 = .ok (.iaload, 1) := by decide +kernel
theorem dX7_clashes_34 : decode cX7_clashes 34 = .ok (.iload_n 1, 1) := by decide +kernel
theorem dX7_clashes_35 : decode cX7_clashes 35 = .ok (.if_icmp .ne 7, 3) := by decide +kernel
theorem dX7_clashes_38 : decode cX7_clashes 38 = .ok (.iconst 1, 1) := by decide +kernel
theorem dX7_clashes_39 : decode cX7_clashes 39 = .ok (.goto 4, 3) := by decide +kernel
theorem dX7_clashes_42 : decode cX7_clashes 42 = .ok (.iconst 0, 1) := by decide +kernel
theorem dX7_clashes_43 : decode cX7_clashes 43 = .ok (.istore 4, 2) := by decide +kernel
theorem dX7_clashes_45 : decode cX7_clashes 45 = .ok (.aload_n 0, 1) := by decide +kernel
theorem dX7_clashes_46 : decode cX7_clashes 46 = .ok (.getfield 16, 3) := by decide +kernel
theorem dX7_clashes_49 : decode cX7_clashes 49 = .ok (.iload_n 3, 1) := by decide +kernel
theorem dX7_clashes_50 : decode cX7_clashes 50 = .ok (.iconst 1, 1) := by decide +kernel
theorem dX7_clashes_51 : decode cX7_clashes 51 = .ok (.invokestatic 136, 3) := by decide +kernel
theorem dX7_clashes_54 : decode cX7_clashes 54 = .ok (.aload_n 0, 1) := by decide +kernel
theorem dX7_clashes_55 : decode cX7_clashes 55 = .ok (.getfield 16, 3) := by decide +kernel
theorem dX7_clashes_58 : decode cX7_clashes 58 = .ok (.aload_n 0, 1) := by decide +kernel
theorem dX7_clashes_59 : decode cX7_clashes 59 = .ok (.getfield 53, 3) := by decide +kernel
theorem dX7_clashes_62 : decode cX7_clashes 62 = .ok (.iload_n 1, 1) := by decide +kernel
theorem dX7_clashes_63 : decode cX7_clashes 63 = .ok (.iaload, 1) := by decide +kernel
theorem dX7_clashes_64 : decode cX7_clashes 64 = .ok (.iconst 1, 1) := by decide +kernel
theorem dX7_clashes_65 : decode cX7_clashes 65 = .ok (.invokestatic 136, 3) := by decide +kernel
theorem dX7_clashes_68 : decode cX7_clashes 68 = .ok (.if_icmp .ne 33, 3) := by decide +kernel
theorem dX7_clashes_71 : decode cX7_clashes 71 = .ok (.aload_n 0, 1) := by decide +kernel
theorem dX7_clashes_72 : decode cX7_clashes 72 = .ok (.getfield 16, 3) := by decide +kernel
theorem dX7_clashes_75 : decode cX7_clashes 75 = .ok (.iload_n 3, 1) := by decide +kernel
theorem dX7_clashes_76 : decode cX7_clashes 76 = .ok (.iconst 2, 1) := by decide +kernel
theorem dX7_clashes_77 : decode cX7_clashes 77 = .ok (.invokestatic 136, 3) := by decide +kernel
theorem dX7_clashes_80 : decode cX7_clashes 80 = .ok (.aload_n 0, 1) := by decide +kernel
theorem dX7_clashes_81 : decode cX7_clashes 81 = .ok (.getfield 16, 3) := by decide +kernel
theorem dX7_clashes_84 : decode cX7_clashes 84 = .ok (.aload_n 0, 1) := by decide +kernel
theorem dX7_clashes_85 : decode cX7_clashes 85 = .ok (.getfield 53, 3) := by decide +kernel
theorem dX7_clashes_88 : decode cX7_clashes 88 = .ok (.iload_n 1, 1) := by decide +kernel
theorem dX7_clashes_89 : decode cX7_clashes 89 = .ok (.iaload, 1) := by decide +kernel
theorem dX7_clashes_90 : decode cX7_clashes 90 = .ok (.iconst 2, 1) := by decide +kernel
theorem dX7_clashes_91 : decode cX7_clashes 91 = .ok (.invokestatic 136, 3) := by decide +kernel
theorem dX7_clashes_94 : decode cX7_clashes 94 = .ok (.if_icmp .ne 7, 3) := by decide +kernel
theorem dX7_clashes_97 : decode cX7_clashes 97 = .ok (.iconst 1, 1) := by decide +kernel
theorem dX7_clashes_98 : decode cX7_clashes 98 = .ok (.goto 4, 3) := by decide +kernel
theorem dX7_clashes_101 : decode cX7_clashes 101 = .ok (.iconst 0, 1) := by decide +kernel
theorem dX7_clashes_102 : decode cX7_clashes 102 = .ok (.istore 5, 2) := by decide +kernel
theorem dX7_clashes_104 : decode cX7_clashes 104 = .ok (.iload_n 2, 1) := by decide +kernel
theorem dX7_clashes_105 : decode cX7_clashes 105 = .ok (.ifCond .ne 13, 3) := by decide +kernel
theorem dX7_clashes_108 : decode cX7_clashes 108 = .ok (.iload 4, 2) := by decide +kernel
theorem dX7_clashes_110 : decode cX7_clashes 110 = .ok (.ifCond .eq 12, 3) := by decide +kernel
theorem dX7_clashes_113 : decode cX7_clashes 113 = .ok (.iload 5, 2) := by decide +kernel
theorem dX7_clashes_115 : decode cX7_clashes 115 = .ok (.ifCond .ne 7, 3) := by decide +kernel
theorem dX7_clashes_118 : decode cX7_clashes 118 = .ok (.iconst 1, 1) := by decide +kernel
theorem dX7_clashes_119 : decode cX7_clashes 119 = .ok (.goto 4, 3) := by decide +kernel
theorem dX7_clashes_122 : decode cX7_clashes 122 = .ok (.iconst 0, 1) := by decide +kernel
theorem dX7_clashes_123 : decode cX7_clashes 123 = .ok (.istore_n 2, 1) := by decide +kernel
theorem dX7_clashes_124 : decode cX7_clashes 124 = .ok (.iinc 3 1, 3) := by decide +kernel
theorem dX7_clashes_127 : decode cX7_clashes 127 = .ok (.goto (-123), 3) := by decide +kernel
theorem dX7_clashes_130 : decode cX7_clashes 130 = .ok (.iload_n 2, 1) := by decide +kernel
theorem dX7_clashes_131 : decode cX7_clashes 131 = .ok (.ireturn, 1) := by decide +kernel
set_option maxRecDepth 20000 in
theorem ggX7_isReportOf_X7_allNotes : GoodIn wsX7_isReportOf wsX7_allNotes := goodIn_r _ [6] (by decide +kernel) (by decide +kernel)
set_option maxRecDepth 20000 in
theorem gX7_isReportOf_X7_allNotes : GoodIn wsX7_isReportOf (va_wsS RX7 187 yX7_allNotes wsX7_allNotes) := goodIn_app (goodIn_of _ (by decide +kernel)) ggX7_isReportOf_X7_allNotes
set_option maxRecDepth 20000 in
theorem ggX7_isReportOf_X7_isSpelled : GoodIn wsX7_isReportOf wsX7_isSpelled := goodIn_r _ [9, 10, 11, 5, 12, 13, 14, 15, 16, 17, 18, 19, 20, 21, 22, 23, 24] (by decide +kernel) (by decide +kernel)
set_option maxRecDepth 20000 in
theorem gX7_isReportOf_X7_isSpelled : GoodIn wsX7_isReportOf (va_wsS RX7 146 yX7_isSpelled wsX7_isSpelled) := goodIn_app (goodIn_of _ (by decide +kernel)) ggX7_isReportOf_X7_isSpelled
set_option maxRecDepth 20000 in
theorem ggX7_isReportOf_X7_hasReport : GoodIn wsX7_isReportOf wsX7_hasReport := goodIn_r _ [27, 22, 23, 5, 24] (by decide +kernel) (by decide +kernel)
set_option maxRecDepth 20000 in
theorem gX7_isReportOf_X7_hasReport : GoodIn wsX7_isReportOf (va_wsS RX7 143 yX7_hasReport wsX7_hasReport) := goodIn_app (goodIn_of _ (by decide +kernel)) ggX7_isReportOf_X7_hasReport
theorem dX7_isReportOf_0 : decode cX7_isReportOf 0 = .ok (.iconst 0, 1) := by decide +kernel
theorem dX7_isReportOf_1 : decode cX7_isReportOf 1 = .ok (.istore_n 3, 1) := by decide +kernel
theorem dX7_isReportOf_2 : decode cX7_isReportOf 2 = .ok (.iconst 0, 1) := by decide +kernel
theorem dX7_isReportOf_3 : decode cX7_isReportOf 3 = .ok (.istore 4, 2) := by decide +kernel
theorem dX7_isReportOf_5 : decode cX7_isReportOf 5 = .ok (.iload 4, 2) := by decide +kernel
theorem dX7_isReportOf_7 : decode cX7_isReportOf 7 = .ok (.bipush 32, 2) := by decide +kernel
theorem dX7_isReportOf_9 : decode cX7_isReportOf 9 = .ok (.if_icmp .ge 62, 3) := by decide +kernel
theorem dX7_isReportOf_12 : decode cX7_isReportOf 12 = .ok (.iload_n 3, 1) := by decide +kernel
theorem dX7_isReportOf_13 : decode cX7_isReportOf 13 = .ok (.ifCond .ne 46, 3) := by decide +kernel
theorem dX7_isReportOf_16 : decode cX7_isReportOf 16 = .ok (.aload_n 0, 1) := by decide +kernel
theorem dX7_isReportOf_17 : decode cX7_isReportOf 17 = .ok (.getfield 16, 3) := by decide +kernel
theorem dX7_isReportOf_20 : decode cX7_isReportOf 20 = .ok (.aload_n 0, 1) := by decide +kernel
theorem dX7_isReportOf_21 : decode cX7_isReportOf 21 = .ok (.getfield 16, 3) := by decide +kernel
theorem dX7_isReportOf_24 : decode cX7_isReportOf 24 = .ok (.invokestatic 187, 3) := by decide +kernel
theorem dX7_isReportOf_27 : decode cX7_isReportOf 27 = .ok (.iload 4, 2) := by decide +kernel
theorem dX7_isReportOf_29 : decode cX7_isReportOf 29 = .ok (.invokestatic 146, 3) := by decide +kernel
theorem dX7_isReportOf_32 : decode cX7_isReportOf 32 = .ok (.ifCond .eq 31, 3) := by decide +kernel
theorem dX7_isReportOf_35 : decode cX7_isReportOf 35 = .ok (.aload_n 0, 1) := by decide +kernel
theorem dX7_isReportOf_36 : decode cX7_isReportOf 36 = .ok (.getfield 47, 3) := by decide +kernel
theorem dX7_isReportOf_39 : decode cX7_isReportOf 39 = .ok (.iload 4, 2) := by decide +kernel
theorem dX7_isReportOf_41 : decode cX7_isReportOf 41 = .ok (.iaload, 1) := by decide +kernel
theorem dX7_isReportOf_42 : decode cX7_isReportOf 42 = .ok (.iload_n 1, 1) := by decide +kernel
theorem dX7_isReportOf_43 : decode cX7_isReportOf 43 = .ok (.if_icmp .ne 20, 3) := by decide +kernel
theorem dX7_isReportOf_46 : decode cX7_isReportOf 46 = .ok (.aload_n 0, 1) := by decide +kernel
theorem dX7_isReportOf_47 : decode cX7_isReportOf 47 = .ok (.getfield 16, 3) := by decide +kernel
theorem dX7_isReportOf_50 : decode cX7_isReportOf 50 = .ok (.iload 4, 2) := by decide +kernel
theorem dX7_isReportOf_52 : decode cX7_isReportOf 52 = .ok (.iload_n 2, 1) := by decide +kernel
theorem dX7_isReportOf_53 : decode cX7_isReportOf 53 = .ok (.invokestatic 143, 3) := by decide +kernel
theorem dX7_isReportOf_56 : decode cX7_isReportOf 56 = .ok (.ifCond .eq 7, 3) := by decide +kernel
theorem dX7_isReportOf_59 : decode cX7_isReportOf 59 = .ok (.iconst 1, 1) := by decide +kernel
theorem dX7_isReportOf_60 : decode cX7_isReportOf 60 = .ok (.goto 4, 3) := by decide +kernel
theorem dX7_isReportOf_63 : decode cX7_isReportOf 63 = .ok (.iconst 0, 1) := by decide +kernel
theorem dX7_isReportOf_64 : decode cX7_isReportOf 64 = .ok (.istore_n 3, 1) := by decide +kernel
theorem dX7_isReportOf_65 : decode cX7_isReportOf 65 = .ok (.iinc 4 1, 3) := by decide +kernel
theorem dX7_isReportOf_68 : decode cX7_isReportOf 68 = .ok (.goto (-63), 3) := by decide +kernel
theorem dX7_isReportOf_71 : decode cX7_isReportOf 71 = .ok (.iload_n 3, 1) := by decide +kernel
theorem dX7_isReportOf_72 : decode cX7_isReportOf 72 = .ok (.ireturn, 1) := by decide +kernel
set_option maxRecDepth 20000 in
theorem ggX7_reportsOf_X7_isReportOf : GoodIn wsX7_reportsOf wsX7_isReportOf := goodIn_r _ [5, 6, 7, 8, 9, 4, 10, 11, 12, 13, 14, 15, 16, 17, 18, 19, 20, 21, 22, 23, 24, 25, 26, 27, 28, 29, 30, 31, 32, 33, 34, 35, 36, 37, 38, 39, 40, 41, 42, 43, 44, 45, 46, 47, 48, 49, 50, 51, 52, 53, 54, 55, 56, 57, 58, 59] (by decide +kernel) (by decide +kernel)
set_option maxRecDepth 20000 in
theorem gX7_reportsOf_X7_isReportOf : GoodIn wsX7_reportsOf (wsV RX7 210 RX7 yX7_isReportOf wsX7_isReportOf) := goodIn_app (goodIn_of _ (by decide +kernel)) ggX7_reportsOf_X7_isReportOf
theorem dX7_reportsOf_0 : decode cX7_reportsOf 0 = .ok (.iconst 0, 1) := by decide +kernel
theorem dX7_reportsOf_1 : decode cX7_reportsOf 1 = .ok (.istore_n 2, 1) := by decide +kernel
theorem dX7_reportsOf_2 : decode cX7_reportsOf 2 = .ok (.sipush 1001, 3) := by decide +kernel
theorem dX7_reportsOf_5 : decode cX7_reportsOf 5 = .ok (.istore_n 3, 1) := by decide +kernel
theorem dX7_reportsOf_6 : decode cX7_reportsOf 6 = .ok (.iload_n 3, 1) := by decide +kernel
theorem dX7_reportsOf_7 : decode cX7_reportsOf 7 = .ok (.sipush 9200, 3) := by decide +kernel
theorem dX7_reportsOf_10 : decode cX7_reportsOf 10 = .ok (.if_icmp .ge 37, 3) := by decide +kernel
theorem dX7_reportsOf_13 : decode cX7_reportsOf 13 = .ok (.iload_n 2, 1) := by decide +kernel
theorem dX7_reportsOf_14 : decode cX7_reportsOf 14 = .ok (.iload_n 3, 1) := by decide +kernel
theorem dX7_reportsOf_15 : decode cX7_reportsOf 15 = .ok (.sipush 1000, 3) := by decide +kernel
theorem dX7_reportsOf_18 : decode cX7_reportsOf 18 = .ok (.irem, 1) := by decide +kernel
theorem dX7_reportsOf_19 : decode cX7_reportsOf 19 = .ok (.sipush 200, 3) := by decide +kernel
theorem dX7_reportsOf_22 : decode cX7_reportsOf 22 = .ok (.if_icmp .ge 16, 3) := by decide +kernel
theorem dX7_reportsOf_25 : decode cX7_reportsOf 25 = .ok (.aload_n 0, 1) := by decide +kernel
theorem dX7_reportsOf_26 : decode cX7_reportsOf 26 = .ok (.iload_n 1, 1) := by decide +kernel
theorem dX7_reportsOf_27 : decode cX7_reportsOf 27 = .ok (.iload_n 3, 1) := by decide +kernel
theorem dX7_reportsOf_28 : decode cX7_reportsOf 28 = .ok (.invokevirtual 210, 3) := by decide +kernel
theorem dX7_reportsOf_31 : decode cX7_reportsOf 31 = .ok (.ifCond .eq 7, 3) := by decide +kernel
theorem dX7_reportsOf_34 : decode cX7_reportsOf 34 = .ok (.iconst 1, 1) := by decide +kernel
theorem dX7_reportsOf_35 : decode cX7_reportsOf 35 = .ok (.goto 4, 3) := by decide +kernel
theorem dX7_reportsOf_38 : decode cX7_reportsOf 38 = .ok (.iconst 0, 1) := by decide +kernel
theorem dX7_reportsOf_39 : decode cX7_reportsOf 39 = .ok (.iadd, 1) := by decide +kernel
theorem dX7_reportsOf_40 : decode cX7_reportsOf 40 = .ok (.istore_n 2, 1) := by decide +kernel
theorem dX7_reportsOf_41 : decode cX7_reportsOf 41 = .ok (.iinc 3 1, 3) := by decide +kernel
theorem dX7_reportsOf_44 : decode cX7_reportsOf 44 = .ok (.goto (-38), 3) := by decide +kernel
theorem dX7_reportsOf_47 : decode cX7_reportsOf 47 = .ok (.iload_n 2, 1) := by decide +kernel
theorem dX7_reportsOf_48 : decode cX7_reportsOf 48 = .ok (.ireturn, 1) := by decide +kernel
theorem dX7_notesOf_0 : decode cX7_notesOf 0 = .ok (.iconst 0, 1) := by decide +kernel
theorem dX7_notesOf_1 : decode cX7_notesOf 1 = .ok (.istore_n 2, 1) := by decide +kernel
theorem dX7_notesOf_2 : decode cX7_notesOf 2 = .ok (.iconst 0, 1) := by decide +kernel
theorem dX7_notesOf_3 : decode cX7_notesOf 3 = .ok (.istore_n 3, 1) := by decide +kernel
theorem dX7_notesOf_4 : decode cX7_notesOf 4 = .ok (.iload_n 3, 1) := by decide +kernel
theorem dX7_notesOf_5 : decode cX7_notesOf 5 = .ok (.bipush 32, 2) := by decide +kernel
theorem dX7_notesOf_7 : decode cX7_notesOf 7 = .ok (.if_icmp .ge 31, 3) := by decide +kernel
theorem dX7_notesOf_10 : decode cX7_notesOf 10 = .ok (.iload_n 2, 1) := by decide +kernel
theorem dX7_notesOf_11 : decode cX7_notesOf 11 = .ok (.aload_n 0, 1) := by decide +kernel
theorem dX7_notesOf_12 : decode cX7_notesOf 12 = .ok (.getfield 47, 3) := by decide +kernel
theorem dX7_notesOf_15 : decode cX7_notesOf 15 = .ok (.iload_n 3, 1) := by decide +kernel
theorem dX7_notesOf_16 : decode cX7_notesOf 16 = .ok (.iaload, 1) := by decide +kernel
theorem dX7_notesOf_17 : decode cX7_notesOf 17 = .ok (.iload_n 1, 1) := by decide +kernel
theorem dX7_notesOf_18 : decode cX7_notesOf 18 = .ok (.if_icmp .ne 11, 3) := by decide +kernel
theorem dX7_notesOf_21 : decode cX7_notesOf 21 = .ok (.iconst 1, 1) := by decide +kernel
theorem dX7_notesOf_22 : decode cX7_notesOf 22 = .ok (.iload_n 3, 1) := by decide +kernel
theorem dX7_notesOf_23 : decode cX7_notesOf 23 = .ok (.iconst 4, 1) := by decide +kernel
theorem dX7_notesOf_24 : decode cX7_notesOf 24 = .ok (.idiv, 1) := by decide +kernel
theorem dX7_notesOf_25 : decode cX7_notesOf 25 = .ok (.ishl, 1) := by decide +kernel
theorem dX7_notesOf_26 : decode cX7_notesOf 26 = .ok (.goto 4, 3) := by decide +kernel
theorem dX7_notesOf_29 : decode cX7_notesOf 29 = .ok (.iconst 0, 1) := by decide +kernel
theorem dX7_notesOf_30 : decode cX7_notesOf 30 = .ok (.ior, 1) := by decide +kernel
theorem dX7_notesOf_31 : decode cX7_notesOf 31 = .ok (.istore_n 2, 1) := by decide +kernel
theorem dX7_notesOf_32 : decode cX7_notesOf 32 = .ok (.iinc 3 1, 3) := by decide +kernel
theorem dX7_notesOf_35 : decode cX7_notesOf 35 = .ok (.goto (-31), 3) := by decide +kernel
theorem dX7_notesOf_38 : decode cX7_notesOf 38 = .ok (.iload_n 2, 1) := by decide +kernel
theorem dX7_notesOf_39 : decode cX7_notesOf 39 = .ok (.ireturn, 1) := by decide +kernel
theorem dX7_refsOf_0 : decode cX7_refsOf 0 = .ok (.iconst 0, 1) := by decide +kernel
theorem dX7_refsOf_1 : decode cX7_refsOf 1 = .ok (.istore_n 2, 1) := by decide +kernel
theorem dX7_refsOf_2 : decode cX7_refsOf 2 = .ok (.iconst 0, 1) := by decide +kernel
theorem dX7_refsOf_3 : decode cX7_refsOf 3 = .ok (.istore_n 3, 1) := by decide +kernel
theorem dX7_refsOf_4 : decode cX7_refsOf 4 = .ok (.iload_n 3, 1) := by decide +kernel
theorem dX7_refsOf_5 : decode cX7_refsOf 5 = .ok (.bipush 32, 2) := by decide +kernel
theorem dX7_refsOf_7 : decode cX7_refsOf 7 = .ok (.if_icmp .ge 27, 3) := by decide +kernel
theorem dX7_refsOf_10 : decode cX7_refsOf 10 = .ok (.iload_n 2, 1) := by decide +kernel
theorem dX7_refsOf_11 : decode cX7_refsOf 11 = .ok (.aload_n 0, 1) := by decide +kernel
theorem dX7_refsOf_12 : decode cX7_refsOf 12 = .ok (.getfield 47, 3) := by decide +kernel
theorem dX7_refsOf_15 : decode cX7_refsOf 15 = .ok (.iload_n 3, 1) := by decide +kernel
theorem dX7_refsOf_16 : decode cX7_refsOf 16 = .ok (.iaload, 1) := by decide +kernel
theorem dX7_refsOf_17 : decode cX7_refsOf 17 = .ok (.iload_n 1, 1) := by decide +kernel
theorem dX7_refsOf_18 : decode cX7_refsOf 18 = .ok (.if_icmp .ne 7, 3) := by decide +kernel
theorem dX7_refsOf_21 : decode cX7_refsOf 21 = .ok (.iconst 1, 1) := by decide +kernel
theorem dX7_refsOf_22 : decode cX7_refsOf 22 = .ok (.goto 4, 3) := by decide +kernel
theorem dX7_refsOf_25 : decode cX7_refsOf 25 = .ok (.iconst 0, 1) := by decide +kernel
theorem dX7_refsOf_26 : decode cX7_refsOf 26 = .ok (.iadd, 1) := by decide +kernel
theorem dX7_refsOf_27 : decode cX7_refsOf 27 = .ok (.istore_n 2, 1) := by decide +kernel
theorem dX7_refsOf_28 : decode cX7_refsOf 28 = .ok (.iinc 3 1, 3) := by decide +kernel
theorem dX7_refsOf_31 : decode cX7_refsOf 31 = .ok (.goto (-27), 3) := by decide +kernel
theorem dX7_refsOf_34 : decode cX7_refsOf 34 = .ok (.iload_n 2, 1) := by decide +kernel
theorem dX7_refsOf_35 : decode cX7_refsOf 35 = .ok (.ireturn, 1) := by decide +kernel
set_option maxRecDepth 20000 in
theorem ggX7_aCase_X7_findAll : GoodIn wsX7_aCase wsX7_findAll := goodIn_r _ [9, 10, 11, 8, 12, 13, 14, 15, 16, 17, 18, 19, 20, 21, 22, 23, 24, 3, 4, 25, 26, 27, 28, 29, 30, 31, 32, 33, 34, 35, 36, 37, 38, 39, 40, 41, 42, 43, 44, 45, 46, 47, 48, 49, 50, 51, 52, 53, 54, 55, 56, 57, 58, 59, 60, 61, 62, 63, 64, 65, 66, 67, 68, 69, 70, 71, 72, 73, 74, 95, 96, 97, 98, 99, 100, 101, 102, 103, 104, 105, 106, 107, 108, 109, 110, 111, 112, 113, 114, 115, 116, 117, 118, 119, 120, 121, 122] (by decide +kernel) (by decide +kernel)
set_option maxRecDepth 20000 in
theorem gX7_aCase_X7_findAll : GoodIn wsX7_aCase (wsV RX7 194 RX7 yX7_findAll wsX7_findAll) := goodIn_app (goodIn_of _ (by decide +kernel)) ggX7_aCase_X7_findAll
set_option maxRecDepth 20000 in
theorem ggX7_aCase_X7_in : GoodIn wsX7_aCase wsX7_in := goodIn_r _ [36] (by decide +kernel) (by decide +kernel)
set_option maxRecDepth 20000 in
theorem gX7_aCase_X7_in : GoodIn wsX7_aCase (va_wsS RX7 72 yX7_in wsX7_in) := goodIn_app (goodIn_of _ (by decide +kernel)) ggX7_aCase_X7_in
set_option maxRecDepth 20000 in
theorem ggX7_aCase_X7_initial : GoodIn wsX7_aCase wsX7_initial := goodIn_r _ [70, 4, 40, 41, 8, 42, 95, 96, 97, 98, 99, 100, 101, 102, 103, 104, 105, 106, 107, 108, 109, 110, 111, 112, 113, 114, 115, 116, 117, 118, 119, 120, 121, 122] (by decide +kernel) (by decide +kernel)
set_option maxRecDepth 20000 in
theorem gX7_aCase_X7_initial : GoodIn wsX7_aCase (wsV RX7 155 RX7 yX7_initial wsX7_initial) := goodIn_app (goodIn_of _ (by decide +kernel)) ggX7_aCase_X7_initial
set_option maxRecDepth 20000 in
theorem ggX7_aCase_X7_ref : GoodIn wsX7_aCase wsX7_ref := goodIn_r _ [42] (by decide +kernel) (by decide +kernel)
set_option maxRecDepth 20000 in
theorem gX7_aCase_X7_ref : GoodIn wsX7_aCase (va_wsS RX7 136 yX7_ref wsX7_ref) := goodIn_app (goodIn_of _ (by decide +kernel)) ggX7_aCase_X7_ref
set_option maxRecDepth 20000 in
theorem ggX7_aCase_X7_reportsOf : GoodIn wsX7_aCase wsX7_reportsOf := goodIn_r _ [78, 79, 80, 81, 8, 82, 2, 17, 10, 11, 12, 25, 26, 27, 28, 29, 30, 31, 32, 33, 34, 35, 36, 37, 38, 39, 40, 41, 42, 46, 47, 48, 95, 96, 97, 98, 99, 100, 101, 102, 103, 104, 105, 106, 107, 108, 109, 110, 111, 112, 113, 114, 115, 116, 117, 118, 119, 120, 121, 122] (by decide +kernel) (by decide +kernel)
set_option maxRecDepth 20000 in
theorem gX7_aCase_X7_reportsOf : GoodIn wsX7_aCase (wsV RX7 213 RX7 yX7_reportsOf wsX7_reportsOf) := goodIn_app (goodIn_of _ (by decide +kernel)) ggX7_aCase_X7_reportsOf
set_option maxRecDepth 20000 in
theorem ggX7_aCase_X7_clashes : GoodIn wsX7_aCase wsX7_clashes := goodIn_r _ [86, 2, 17, 4, 10, 11, 8, 12, 25, 26, 27, 28, 29, 30, 31, 32, 33, 34, 35, 36, 37, 38, 39, 40, 41, 42, 95, 96, 97, 98, 99, 100, 101, 102, 103, 104, 105, 106, 107, 108, 109, 110, 111, 112, 113, 114, 115, 116, 117, 118, 119, 120, 121, 122] (by decide +kernel) (by decide +kernel)
set_option maxRecDepth 20000 in
theorem gX7_aCase_X7_clashes : GoodIn wsX7_aCase (wsV RX7 216 RX7 yX7_clashes wsX7_clashes) := goodIn_app (goodIn_of _ (by decide +kernel)) ggX7_aCase_X7_clashes
set_option maxRecDepth 20000 in
theorem ggX7_aCase_X7_notesOf : GoodIn wsX7_aCase wsX7_notesOf := goodIn_r _ [90, 17, 95, 96, 97, 98, 99, 100, 101, 102, 103, 104, 105, 106, 107, 108, 109, 110, 111, 112, 113, 114, 115, 116, 117, 118, 119, 120, 121, 122] (by decide +kernel) (by decide +kernel)
set_option maxRecDepth 20000 in
theorem gX7_aCase_X7_notesOf : GoodIn wsX7_aCase (wsV RX7 219 RX7 yX7_notesOf wsX7_notesOf) := goodIn_app (goodIn_of _ (by decide +kernel)) ggX7_aCase_X7_notesOf
set_option maxRecDepth 20000 in
theorem ggX7_aCase_X7_refsOf : GoodIn wsX7_aCase wsX7_refsOf := goodIn_r _ [94, 17, 95, 96, 97, 98, 99, 100, 101, 102, 103, 104, 105, 106, 107, 108, 109, 110, 111, 112, 113, 114, 115, 116, 117, 118, 119, 120, 121, 122] (by decide +kernel) (by decide +kernel)
set_option maxRecDepth 20000 in
theorem gX7_aCase_X7_refsOf : GoodIn wsX7_aCase (wsV RX7 222 RX7 yX7_refsOf wsX7_refsOf) := goodIn_app (goodIn_of _ (by decide +kernel)) ggX7_aCase_X7_refsOf
theorem dX7_aCase_0 : decode cX7_aCase 0 = .ok (.aload_n 0, 1) := by decide +kernel
theorem dX7_aCase_1 : decode cX7_aCase 1 = .ok (.iconst 0, 1) := by decide +kernel
theorem dX7_aCase_2 : decode cX7_aCase 2 = .ok (.putfield 68, 3) := by decide +kernel
theorem dX7_aCase_5 : decode cX7_aCase 5 = .ok (.aload_n 0, 1) := by decide +kernel
theorem dX7_aCase_6 : decode cX7_aCase 6 = .ok (.aload_n 0, 1) := by decide +kernel
theorem dX7_aCase_7 : decode cX7_aCase 7 = .ok (.getfield 16, 3) := by decide +kernel
theorem dX7_aCase_10 : decode cX7_aCase 10 = .ok (.invokevirtual 194, 3) := by decide +kernel
theorem dX7_aCase_13 : decode cX7_aCase 13 = .ok (.iload_n 1, 1) := by decide +kernel
theorem dX7_aCase_14 : decode cX7_aCase 14 = .ok (.i2l, 1) := by decide +kernel
theorem dX7_aCase_15 : decode cX7_aCase 15 = .ok (.lconst 0, 1) := by decide +kernel
theorem dX7_aCase_16 : decode cX7_aCase 16 = .ok (.aload_n 0, 1) := by decide +kernel
theorem dX7_aCase_17 : decode cX7_aCase 17 = .ok (.getfield 152, 3) := by decide +kernel
theorem dX7_aCase_20 : decode cX7_aCase 20 = .ok (.iconst 1, 1) := by decide +kernel
theorem dX7_aCase_21 : decode cX7_aCase 21 = .ok (.isub, 1) := by decide +kernel
theorem dX7_aCase_22 : decode cX7_aCase 22 = .ok (.i2l, 1) := by decide +kernel
theorem dX7_aCase_23 : decode cX7_aCase 23 = .ok (.invokestatic 72, 3) := by decide +kernel
theorem dX7_aCase_26 : decode cX7_aCase 26 = .ok (.ifCond .ne 5, 3) := by decide +kernel
theorem dX7_aCase_29 : decode cX7_aCase 29 = .ok (.iconst (-1), 1) := by decide +kernel
theorem dX7_aCase_30 : decode cX7_aCase 30 = .ok (.ireturn, 1) := by decide +kernel
theorem dX7_aCase_31 : decode cX7_aCase 31 = .ok (.iload_n 2, 1) := by decide +kernel
theorem dX7_aCase_32 : decode cX7_aCase 32 = .ok (.tableswitch 116 0 6 #[44, 54, 69, 84, 90, 104, 110], 44) := by decide +kernel
theorem dX7_aCase_76 : decode cX7_aCase 76 = .ok (.aload_n 0, 1) := by decide +kernel
theorem dX7_aCase_77 : decode cX7_aCase 77 = .ok (.aload_n 0, 1) := by decide +kernel
theorem dX7_aCase_78 : decode cX7_aCase 78 = .ok (.getfield 16, 3) := by decide +kernel
theorem dX7_aCase_81 : decode cX7_aCase 81 = .ok (.iload_n 1, 1) := by decide +kernel
theorem dX7_aCase_82 : decode cX7_aCase 82 = .ok (.invokevirtual 155, 3) := by decide +kernel
theorem dX7_aCase_85 : decode cX7_aCase 85 = .ok (.ireturn, 1) := by decide +kernel
theorem dX7_aCase_86 : decode cX7_aCase 86 = .ok (.aload_n 0, 1) := by decide +kernel
theorem dX7_aCase_87 : decode cX7_aCase 87 = .ok (.getfield 16, 3) := by decide +kernel
theorem dX7_aCase_90 : decode cX7_aCase 90 = .ok (.aload_n 0, 1) := by decide +kernel
theorem dX7_aCase_91 : decode cX7_aCase 91 = .ok (.getfield 53, 3) := by decide +kernel
theorem dX7_aCase_94 : decode cX7_aCase 94 = .ok (.iload_n 1, 1) := by decide +kernel
theorem dX7_aCase_95 : decode cX7_aCase 95 = .ok (.iaload, 1) := by decide +kernel
theorem dX7_aCase_96 : decode cX7_aCase 96 = .ok (.iconst 2, 1) := by decide +kernel
theorem dX7_aCase_97 : decode cX7_aCase 97 = .ok (.invokestatic 136, 3) := by decide +kernel
theorem dX7_aCase_100 : decode cX7_aCase 100 = .ok (.ireturn, 1) := by decide +kernel
theorem dX7_aCase_101 : decode cX7_aCase 101 = .ok (.aload_n 0, 1) := by decide +kernel
theorem dX7_aCase_102 : decode cX7_aCase 102 = .ok (.getfield 16, 3) := by decide +kernel
theorem dX7_aCase_105 : decode cX7_aCase 105 = .ok (.aload_n 0, 1) := by decide +kernel
theorem dX7_aCase_106 : decode cX7_aCase 106 = .ok (.getfield 53, 3) := by decide +kernel
theorem dX7_aCase_109 : decode cX7_aCase 109 = .ok (.iload_n 1, 1) := by decide +kernel
theorem dX7_aCase_110 : decode cX7_aCase 110 = .ok (.iaload, 1) := by decide +kernel
theorem dX7_aCase_111 : decode cX7_aCase 111 = .ok (.iconst 3, 1) := by decide +kernel
theorem dX7_aCase_112 : decode cX7_aCase 112 = .ok (.invokestatic 136, 3) := by decide +kernel
theorem dX7_aCase_115 : decode cX7_aCase 115 = .ok (.ireturn, 1) := by decide +kernel
theorem dX7_aCase_116 : decode cX7_aCase 116 = .ok (.aload_n 0, 1) := by decide +kernel
theorem dX7_aCase_117 : decode cX7_aCase 117 = .ok (.iload_n 1, 1) := by decide +kernel
theorem dX7_aCase_118 : decode cX7_aCase 118 = .ok (.invokevirtual 213, 3) := by decide +kernel
theorem dX7_aCase_121 : decode cX7_aCase 121 = .ok (.ireturn, 1) := by decide +kernel
theorem dX7_aCase_122 : decode cX7_aCase 122 = .ok (.aload_n 0, 1) := by decide +kernel
theorem dX7_aCase_123 : decode cX7_aCase 123 = .ok (.iload_n 1, 1) := by decide +kernel
theorem dX7_aCase_124 : decode cX7_aCase 124 = .ok (.invokevirtual 216, 3) := by decide +kernel
theorem dX7_aCase_127 : decode cX7_aCase 127 = .ok (.ifCond .eq 7, 3) := by decide +kernel
theorem dX7_aCase_130 : decode cX7_aCase 130 = .ok (.iconst 1, 1) := by decide +kernel
theorem dX7_aCase_131 : decode cX7_aCase 131 = .ok (.goto 4, 3) := by decide +kernel
theorem dX7_aCase_134 : decode cX7_aCase 134 = .ok (.iconst 0, 1) := by decide +kernel
theorem dX7_aCase_135 : decode cX7_aCase 135 = .ok (.ireturn, 1) := by decide +kernel
theorem dX7_aCase_136 : decode cX7_aCase 136 = .ok (.aload_n 0, 1) := by decide +kernel
theorem dX7_aCase_137 : decode cX7_aCase 137 = .ok (.iload_n 1, 1) := by decide +kernel
theorem dX7_aCase_138 : decode cX7_aCase 138 = .ok (.invokevirtual 219, 3) := by decide +kernel
theorem dX7_aCase_141 : decode cX7_aCase 141 = .ok (.ireturn, 1) := by decide +kernel
theorem dX7_aCase_142 : decode cX7_aCase 142 = .ok (.aload_n 0, 1) := by decide +kernel
theorem dX7_aCase_143 : decode cX7_aCase 143 = .ok (.iload_n 1, 1) := by decide +kernel
theorem dX7_aCase_144 : decode cX7_aCase 144 = .ok (.invokevirtual 222, 3) := by decide +kernel
theorem dX7_aCase_147 : decode cX7_aCase 147 = .ok (.ireturn, 1) := by decide +kernel
theorem dX7_aCase_148 : decode cX7_aCase 148 = .ok (.bipush (-2), 2) := by decide +kernel
theorem dX7_aCase_150 : decode cX7_aCase 150 = .ok (.ireturn, 1) := by decide +kernel
set_option maxRecDepth 20000 in
theorem ggX7_rankOf_X7_ref : GoodIn wsX7_rankOf wsX7_ref := goodIn_r _ [6] (by decide +kernel) (by decide +kernel)
set_option maxRecDepth 20000 in
theorem gX7_rankOf_X7_ref : GoodIn wsX7_rankOf (va_wsS RX7 136 yX7_ref wsX7_ref) := goodIn_app (goodIn_of _ (by decide +kernel)) ggX7_rankOf_X7_ref
theorem dX7_rankOf_0 : decode cX7_rankOf 0 = .ok (.aload_n 0, 1) := by decide +kernel
theorem dX7_rankOf_1 : decode cX7_rankOf 1 = .ok (.getfield 53, 3) := by decide +kernel
theorem dX7_rankOf_4 : decode cX7_rankOf 4 = .ok (.iload_n 1, 1) := by decide +kernel
theorem dX7_rankOf_5 : decode cX7_rankOf 5 = .ok (.iaload, 1) := by decide +kernel
theorem dX7_rankOf_6 : decode cX7_rankOf 6 = .ok (.istore_n 2, 1) := by decide +kernel
theorem dX7_rankOf_7 : decode cX7_rankOf 7 = .ok (.aload_n 0, 1) := by decide +kernel
theorem dX7_rankOf_8 : decode cX7_rankOf 8 = .ok (.getfield 16, 3) := by decide +kernel
theorem dX7_rankOf_11 : decode cX7_rankOf 11 = .ok (.iload_n 2, 1) := by decide +kernel
theorem dX7_rankOf_12 : decode cX7_rankOf 12 = .ok (.iconst 3, 1) := by decide +kernel
theorem dX7_rankOf_13 : decode cX7_rankOf 13 = .ok (.invokestatic 136, 3) := by decide +kernel
theorem dX7_rankOf_16 : decode cX7_rankOf 16 = .ok (.istore_n 3, 1) := by decide +kernel
theorem dX7_rankOf_17 : decode cX7_rankOf 17 = .ok (.sipush 10000, 3) := by decide +kernel
theorem dX7_rankOf_20 : decode cX7_rankOf 20 = .ok (.bipush 6, 2) := by decide +kernel
theorem dX7_rankOf_22 : decode cX7_rankOf 22 = .ok (.aload_n 0, 1) := by decide +kernel
theorem dX7_rankOf_23 : decode cX7_rankOf 23 = .ok (.getfield 16, 3) := by decide +kernel
theorem dX7_rankOf_26 : decode cX7_rankOf 26 = .ok (.iload_n 2, 1) := by decide +kernel
theorem dX7_rankOf_27 : decode cX7_rankOf 27 = .ok (.iconst 1, 1) := by decide +kernel
theorem dX7_rankOf_28 : decode cX7_rankOf 28 = .ok (.invokestatic 136, 3) := by decide +kernel
theorem dX7_rankOf_31 : decode cX7_rankOf 31 = .ok (.imul, 1) := by decide +kernel
theorem dX7_rankOf_32 : decode cX7_rankOf 32 = .ok (.aload_n 0, 1) := by decide +kernel
theorem dX7_rankOf_33 : decode cX7_rankOf 33 = .ok (.getfield 16, 3) := by decide +kernel
theorem dX7_rankOf_36 : decode cX7_rankOf 36 = .ok (.iload_n 2, 1) := by decide +kernel
theorem dX7_rankOf_37 : decode cX7_rankOf 37 = .ok (.iconst 2, 1) := by decide +kernel
theorem dX7_rankOf_38 : decode cX7_rankOf 38 = .ok (.invokestatic 136, 3) := by decide +kernel
theorem dX7_rankOf_41 : decode cX7_rankOf 41 = .ok (.iadd, 1) := by decide +kernel
theorem dX7_rankOf_42 : decode cX7_rankOf 42 = .ok (.imul, 1) := by decide +kernel
theorem dX7_rankOf_43 : decode cX7_rankOf 43 = .ok (.sipush 1000, 3) := by decide +kernel
theorem dX7_rankOf_46 : decode cX7_rankOf 46 = .ok (.iload_n 3, 1) := by decide +kernel
theorem dX7_rankOf_47 : decode cX7_rankOf 47 = .ok (.bipush 100, 2) := by decide +kernel
theorem dX7_rankOf_49 : decode cX7_rankOf 49 = .ok (.idiv, 1) := by decide +kernel
theorem dX7_rankOf_50 : decode cX7_rankOf 50 = .ok (.bipush 10, 2) := by decide +kernel
theorem dX7_rankOf_52 : decode cX7_rankOf 52 = .ok (.irem, 1) := by decide +kernel
theorem dX7_rankOf_53 : decode cX7_rankOf 53 = .ok (.imul, 1) := by decide +kernel
theorem dX7_rankOf_54 : decode cX7_rankOf 54 = .ok (.iadd, 1) := by decide +kernel
theorem dX7_rankOf_55 : decode cX7_rankOf 55 = .ok (.iload_n 3, 1) := by decide +kernel
theorem dX7_rankOf_56 : decode cX7_rankOf 56 = .ok (.sipush 1000, 3) := by decide +kernel
theorem dX7_rankOf_59 : decode cX7_rankOf 59 = .ok (.idiv, 1) := by decide +kernel
theorem dX7_rankOf_60 : decode cX7_rankOf 60 = .ok (.bipush 100, 2) := by decide +kernel
theorem dX7_rankOf_62 : decode cX7_rankOf 62 = .ok (.imul, 1) := by decide +kernel
theorem dX7_rankOf_63 : decode cX7_rankOf 63 = .ok (.iadd, 1) := by decide +kernel
theorem dX7_rankOf_64 : decode cX7_rankOf 64 = .ok (.iload_n 3, 1) := by decide +kernel
theorem dX7_rankOf_65 : decode cX7_rankOf 65 = .ok (.bipush 100, 2) := by decide +kernel
theorem dX7_rankOf_67 : decode cX7_rankOf 67 = .ok (.irem, 1) := by decide +kernel
theorem dX7_rankOf_68 : decode cX7_rankOf 68 = .ok (.iadd, 1) := by decide +kernel
theorem dX7_rankOf_69 : decode cX7_rankOf 69 = .ok (.ireturn, 1) := by decide +kernel
set_option maxRecDepth 20000 in
theorem ggX7_table_X7_findAll : GoodIn wsX7_table wsX7_findAll := goodIn_r _ [8, 9, 10, 7, 11, 12, 13, 14, 15, 16, 17, 18, 19, 20, 21, 22, 23, 3, 24, 25, 26, 27, 28, 29, 30, 31, 32, 33, 34, 35, 36, 37, 38, 39, 40, 41, 42, 43, 44, 45, 46, 47, 48, 49, 50, 51, 52, 53, 54, 55, 56, 57, 58, 59, 60, 61, 62, 63, 64, 65, 66, 67, 68, 69, 70, 71, 72, 73, 74, 79, 80, 81, 82, 83, 84, 85, 86, 87, 88, 89, 90, 91, 92, 93, 94, 95, 96, 97, 98, 99, 100, 101, 102, 103, 104, 105, 106] (by decide +kernel) (by decide +kernel)
set_option maxRecDepth 20000 in
theorem gX7_table_X7_findAll : GoodIn wsX7_table (wsV RX7 194 RX7 yX7_findAll wsX7_findAll) := goodIn_app (goodIn_of _ (by decide +kernel)) ggX7_table_X7_findAll
set_option maxRecDepth 20000 in
theorem ggX7_table_X7_rankOf : GoodIn wsX7_table wsX7_rankOf := goodIn_r _ [78, 24, 2, 40, 41, 7, 42, 79, 80, 81, 82, 83, 84, 85, 86, 87, 88, 89, 90, 91, 92, 93, 94, 95, 96, 97, 98, 99, 100, 101, 102, 103, 104, 105, 106] (by decide +kernel) (by decide +kernel)
set_option maxRecDepth 20000 in
theorem gX7_table_X7_rankOf : GoodIn wsX7_table (wsV RX7 225 RX7 yX7_rankOf wsX7_rankOf) := goodIn_app (goodIn_of _ (by decide +kernel)) ggX7_table_X7_rankOf
theorem dX7_table_0 : decode cX7_table 0 = .ok (.aload_n 0, 1) := by decide +kernel
theorem dX7_table_1 : decode cX7_table 1 = .ok (.iconst 0, 1) := by decide +kernel
theorem dX7_table_2 : decode cX7_table 2 = .ok (.putfield 68, 3) := by decide +kernel
theorem dX7_table_5 : decode cX7_table 5 = .ok (.aload_n 0, 1) := by decide +kernel
theorem dX7_table_6 : decode cX7_table 6 = .ok (.aload_n 0, 1) := by decide +kernel
theorem dX7_table_7 : decode cX7_table 7 = .ok (.getfield 16, 3) := by decide +kernel
theorem dX7_table_10 : decode cX7_table 10 = .ok (.invokevirtual 194, 3) := by decide +kernel
theorem dX7_table_13 : decode cX7_table 13 = .ok (.bipush (-9), 2) := by decide +kernel
theorem dX7_table_15 : decode cX7_table 15 = .ok (.istore_n 2, 1) := by decide +kernel
theorem dX7_table_16 : decode cX7_table 16 = .ok (.iconst 0, 1) := by decide +kernel
theorem dX7_table_17 : decode cX7_table 17 = .ok (.istore_n 3, 1) := by decide +kernel
theorem dX7_table_18 : decode cX7_table 18 = .ok (.iload_n 3, 1) := by decide +kernel
theorem dX7_table_19 : decode cX7_table 19 = .ok (.aload_n 0, 1) := by decide +kernel
theorem dX7_table_20 : decode cX7_table 20 = .ok (.getfield 152, 3) := by decide +kernel
theorem dX7_table_23 : decode cX7_table 23 = .ok (.if_icmp .ge 66, 3) := by decide +kernel
theorem dX7_table_26 : decode cX7_table 26 = .ok (.iconst 0, 1) := by decide +kernel
theorem dX7_table_27 : decode cX7_table 27 = .ok (.istore 4, 2) := by decide +kernel
theorem dX7_table_29 : decode cX7_table 29 = .ok (.iconst 0, 1) := by decide +kernel
theorem dX7_table_30 : decode cX7_table 30 = .ok (.istore 5, 2) := by decide +kernel
theorem dX7_table_32 : decode cX7_table 32 = .ok (.iload 5, 2) := by decide +kernel
theorem dX7_table_34 : decode cX7_table 34 = .ok (.aload_n 0, 1) := by decide +kernel
theorem dX7_table_35 : decode cX7_table 35 = .ok (.getfield 152, 3) := by decide +kernel
theorem dX7_table_38 : decode cX7_table 38 = .ok (.if_icmp .ge 33, 3) := by decide +kernel
theorem dX7_table_41 : decode cX7_table 41 = .ok (.iload 4, 2) := by decide +kernel
theorem dX7_table_43 : decode cX7_table 43 = .ok (.aload_n 0, 1) := by decide +kernel
theorem dX7_table_44 : decode cX7_table 44 = .ok (.iload 5, 2) := by decide +kernel
theorem dX7_table_46 : decode cX7_table 46 = .ok (.invokevirtual 225, 3) := by decide +kernel
theorem dX7_table_49 : decode cX7_table 49 = .ok (.aload_n 0, 1) := by decide +kernel
theorem dX7_table_50 : decode cX7_table 50 = .ok (.iload_n 3, 1) := by decide +kernel
theorem dX7_table_51 : decode cX7_table 51 = .ok (.invokevirtual 225, 3) := by decide +kernel
theorem dX7_table_54 : decode cX7_table 54 = .ok (.if_icmp .ge 7, 3) := by decide +kernel
theorem dX7_table_57 : decode cX7_table 57 = .ok (.iconst 1, 1) := by decide +kernel
theorem dX7_table_58 : decode cX7_table 58 = .ok (.goto 4, 3) := by decide +kernel
theorem dX7_table_61 : decode cX7_table 61 = .ok (.iconst 0, 1) := by decide +kernel
theorem dX7_table_62 : decode cX7_table 62 = .ok (.iadd, 1) := by decide +kernel
theorem dX7_table_63 : decode cX7_table 63 = .ok (.istore 4, 2) := by decide +kernel
theorem dX7_table_65 : decode cX7_table 65 = .ok (.iinc 5 1, 3) := by decide +kernel
theorem dX7_table_68 : decode cX7_table 68 = .ok (.goto (-36), 3) := by decide +kernel
theorem dX7_table_71 : decode cX7_table 71 = .ok (.iload 4, 2) := by decide +kernel
theorem dX7_table_73 : decode cX7_table 73 = .ok (.iload_n 1, 1) := by decide +kernel
theorem dX7_table_74 : decode cX7_table 74 = .ok (.if_icmp .ne 7, 3) := by decide +kernel
theorem dX7_table_77 : decode cX7_table 77 = .ok (.iload_n 3, 1) := by decide +kernel
theorem dX7_table_78 : decode cX7_table 78 = .ok (.goto 4, 3) := by decide +kernel
theorem dX7_table_81 : decode cX7_table 81 = .ok (.iload_n 2, 1) := by decide +kernel
theorem dX7_table_82 : decode cX7_table 82 = .ok (.istore_n 2, 1) := by decide +kernel
theorem dX7_table_83 : decode cX7_table 83 = .ok (.iinc 3 1, 3) := by decide +kernel
theorem dX7_table_86 : decode cX7_table 86 = .ok (.goto (-68), 3) := by decide +kernel
theorem dX7_table_89 : decode cX7_table 89 = .ok (.iload_n 2, 1) := by decide +kernel
theorem dX7_table_90 : decode cX7_table 90 = .ok (.bipush (-9), 2) := by decide +kernel
theorem dX7_table_92 : decode cX7_table 92 = .ok (.if_icmp .ne 7, 3) := by decide +kernel
theorem dX7_table_95 : decode cX7_table 95 = .ok (.iconst (-1), 1) := by decide +kernel
theorem dX7_table_96 : decode cX7_table 96 = .ok (.goto 4, 3) := by decide +kernel
theorem dX7_table_99 : decode cX7_table 99 = .ok (.iload_n 2, 1) := by decide +kernel
theorem dX7_table_100 : decode cX7_table 100 = .ok (.ireturn, 1) := by decide +kernel
set_option maxRecDepth 20000 in
theorem ggX7_hasAll_X7_ref : GoodIn wsX7_hasAll wsX7_ref := goodIn_r _ [4] (by decide +kernel) (by decide +kernel)
set_option maxRecDepth 20000 in
theorem gX7_hasAll_X7_ref : GoodIn wsX7_hasAll (va_wsS RX7 136 yX7_ref wsX7_ref) := goodIn_app (goodIn_of _ (by decide +kernel)) ggX7_hasAll_X7_ref
set_option maxRecDepth 20000 in
theorem ggX7_hasAll_X7_hasReport : GoodIn wsX7_hasAll wsX7_hasReport := goodIn_r _ [7, 1, 2, 3, 4] (by decide +kernel) (by decide +kernel)
set_option maxRecDepth 20000 in
theorem gX7_hasAll_X7_hasReport : GoodIn wsX7_hasAll (va_wsS RX7 143 yX7_hasReport wsX7_hasReport) := goodIn_app (goodIn_of _ (by decide +kernel)) ggX7_hasAll_X7_hasReport
theorem dX7_hasAll_0 : decode cX7_hasAll 0 = .ok (.aload_n 0, 1) := by decide +kernel
theorem dX7_hasAll_1 : decode cX7_hasAll 1 = .ok (.iload_n 2, 1) := by decide +kernel
theorem dX7_hasAll_2 : decode cX7_hasAll 2 = .ok (.aload_n 0, 1) := by decide +kernel
theorem dX7_hasAll_3 : decode cX7_hasAll 3 = .ok (.iload_n 1, 1) := by decide +kernel
theorem dX7_hasAll_4 : decode cX7_hasAll 4 = .ok (.iconst 3, 1) := by decide +kernel
theorem dX7_hasAll_5 : decode cX7_hasAll 5 = .ok (.invokestatic 136, 3) := by decide +kernel
theorem dX7_hasAll_8 : decode cX7_hasAll 8 = .ok (.invokestatic 143, 3) := by decide +kernel
theorem dX7_hasAll_11 : decode cX7_hasAll 11 = .ok (.ifCond .eq 30, 3) := by decide +kernel
theorem dX7_hasAll_14 : decode cX7_hasAll 14 = .ok (.aload_n 0, 1) := by decide +kernel
theorem dX7_hasAll_15 : decode cX7_hasAll 15 = .ok (.iload_n 1, 1) := by decide +kernel
theorem dX7_hasAll_16 : decode cX7_hasAll 16 = .ok (.iconst 4, 1) := by decide +kernel
theorem dX7_hasAll_17 : decode cX7_hasAll 17 = .ok (.invokestatic 136, 3) := by decide +kernel
theorem dX7_hasAll_20 : decode cX7_hasAll 20 = .ok (.ifCond .eq 17, 3) := by decide +kernel
theorem dX7_hasAll_23 : decode cX7_hasAll 23 = .ok (.aload_n 0, 1) := by decide +kernel
theorem dX7_hasAll_24 : decode cX7_hasAll 24 = .ok (.iload_n 2, 1) := by decide +kernel
theorem dX7_hasAll_25 : decode cX7_hasAll 25 = .ok (.aload_n 0, 1) := by decide +kernel
theorem dX7_hasAll_26 : decode cX7_hasAll 26 = .ok (.iload_n 1, 1) := by decide +kernel
theorem dX7_hasAll_27 : decode cX7_hasAll 27 = .ok (.iconst 4, 1) := by decide +kernel
theorem dX7_hasAll_28 : decode cX7_hasAll 28 = .ok (.invokestatic 136, 3) := by decide +kernel
theorem dX7_hasAll_31 : decode cX7_hasAll 31 = .ok (.invokestatic 143, 3) := by decide +kernel
theorem dX7_hasAll_34 : decode cX7_hasAll 34 = .ok (.ifCond .eq 7, 3) := by decide +kernel
theorem dX7_hasAll_37 : decode cX7_hasAll 37 = .ok (.iconst 1, 1) := by decide +kernel
theorem dX7_hasAll_38 : decode cX7_hasAll 38 = .ok (.goto 4, 3) := by decide +kernel
theorem dX7_hasAll_41 : decode cX7_hasAll 41 = .ok (.iconst 0, 1) := by decide +kernel
theorem dX7_hasAll_42 : decode cX7_hasAll 42 = .ok (.ireturn, 1) := by decide +kernel
set_option maxRecDepth 20000 in
theorem ggX7_stays_X7_ref : GoodIn wsX7_stays wsX7_ref := goodIn_r _ [4] (by decide +kernel) (by decide +kernel)
set_option maxRecDepth 20000 in
theorem gX7_stays_X7_ref : GoodIn wsX7_stays (va_wsS RX7 136 yX7_ref wsX7_ref) := goodIn_app (goodIn_of _ (by decide +kernel)) ggX7_stays_X7_ref
set_option maxRecDepth 20000 in
theorem ggX7_stays_X7_allNotes : GoodIn wsX7_stays wsX7_allNotes := goodIn_r _ [7] (by decide +kernel) (by decide +kernel)
set_option maxRecDepth 20000 in
theorem gX7_stays_X7_allNotes : GoodIn wsX7_stays (va_wsS RX7 187 yX7_allNotes wsX7_allNotes) := goodIn_app (goodIn_of _ (by decide +kernel)) ggX7_stays_X7_allNotes
set_option maxRecDepth 20000 in
theorem ggX7_stays_X7_isSpelled : GoodIn wsX7_stays wsX7_isSpelled := goodIn_r _ [10, 11, 12, 3, 13, 14, 15, 16, 17, 18, 19, 20, 21, 22, 1, 2, 4] (by decide +kernel) (by decide +kernel)
set_option maxRecDepth 20000 in
theorem gX7_stays_X7_isSpelled : GoodIn wsX7_stays (va_wsS RX7 146 yX7_isSpelled wsX7_isSpelled) := goodIn_app (goodIn_of _ (by decide +kernel)) ggX7_stays_X7_isSpelled
set_option maxRecDepth 20000 in
theorem ggX7_stays_X7_hasAll : GoodIn wsX7_stays wsX7_hasAll := goodIn_r _ [25, 1, 2, 3, 4, 26, 27, 28] (by decide +kernel) (by decide +kernel)
set_option maxRecDepth 20000 in
theorem gX7_stays_X7_hasAll : GoodIn wsX7_stays (va_wsS RX7 228 yX7_hasAll wsX7_hasAll) := goodIn_app (goodIn_of _ (by decide +kernel)) ggX7_stays_X7_hasAll
theorem dX7_stays_0 : decode cX7_stays 0 = .ok (.aload_n 0, 1) := by decide +kernel
theorem dX7_stays_1 : decode cX7_stays 1 = .ok (.iload_n 1, 1) := by decide +kernel
theorem dX7_stays_2 : decode cX7_stays 2 = .ok (.iconst 0, 1) := by decide +kernel
theorem dX7_stays_3 : decode cX7_stays 3 = .ok (.invokestatic 136, 3) := by decide +kernel
theorem dX7_stays_6 : decode cX7_stays 6 = .ok (.ifCond .ne 7, 3) := by decide +kernel
theorem dX7_stays_9 : decode cX7_stays 9 = .ok (.iconst 1, 1) := by decide +kernel
theorem dX7_stays_10 : decode cX7_stays 10 = .ok (.goto 4, 3) := by decide +kernel
theorem dX7_stays_13 : decode cX7_stays 13 = .ok (.iconst 0, 1) := by decide +kernel
theorem dX7_stays_14 : decode cX7_stays 14 = .ok (.istore_n 2, 1) := by decide +kernel
theorem dX7_stays_15 : decode cX7_stays 15 = .ok (.iconst 0, 1) := by decide +kernel
theorem dX7_stays_16 : decode cX7_stays 16 = .ok (.istore_n 3, 1) := by decide +kernel
theorem dX7_stays_17 : decode cX7_stays 17 = .ok (.iload_n 3, 1) := by decide +kernel
theorem dX7_stays_18 : decode cX7_stays 18 = .ok (.iload_n 1, 1) := by decide +kernel
theorem dX7_stays_19 : decode cX7_stays 19 = .ok (.if_icmp .ge 40, 3) := by decide +kernel
theorem dX7_stays_22 : decode cX7_stays 22 = .ok (.iload_n 2, 1) := by decide +kernel
theorem dX7_stays_23 : decode cX7_stays 23 = .ok (.ifCond .eq 28, 3) := by decide +kernel
theorem dX7_stays_26 : decode cX7_stays 26 = .ok (.aload_n 0, 1) := by decide +kernel
theorem dX7_stays_27 : decode cX7_stays 27 = .ok (.aload_n 0, 1) := by decide +kernel
theorem dX7_stays_28 : decode cX7_stays 28 = .ok (.invokestatic 187, 3) := by decide +kernel
theorem dX7_stays_31 : decode cX7_stays 31 = .ok (.iload_n 3, 1) := by decide +kernel
theorem dX7_stays_32 : decode cX7_stays 32 = .ok (.invokestatic 146, 3) := by decide +kernel
theorem dX7_stays_35 : decode cX7_stays 35 = .ok (.ifCond .eq 12, 3) := by decide +kernel
theorem dX7_stays_38 : decode cX7_stays 38 = .ok (.aload_n 0, 1) := by decide +kernel
theorem dX7_stays_39 : decode cX7_stays 39 = .ok (.iload_n 1, 1) := by decide +kernel
theorem dX7_stays_40 : decode cX7_stays 40 = .ok (.iload_n 3, 1) := by decide +kernel
theorem dX7_stays_41 : decode cX7_stays 41 = .ok (.invokestatic 228, 3) := by decide +kernel
theorem dX7_stays_44 : decode cX7_stays 44 = .ok (.ifCond .ne 7, 3) := by decide +kernel
theorem dX7_stays_47 : decode cX7_stays 47 = .ok (.iconst 1, 1) := by decide +kernel
theorem dX7_stays_48 : decode cX7_stays 48 = .ok (.goto 4, 3) := by decide +kernel
theorem dX7_stays_51 : decode cX7_stays 51 = .ok (.iconst 0, 1) := by decide +kernel
theorem dX7_stays_52 : decode cX7_stays 52 = .ok (.istore_n 2, 1) := by decide +kernel
theorem dX7_stays_53 : decode cX7_stays 53 = .ok (.iinc 3 1, 3) := by decide +kernel
theorem dX7_stays_56 : decode cX7_stays 56 = .ok (.goto (-39), 3) := by decide +kernel
theorem dX7_stays_59 : decode cX7_stays 59 = .ok (.iload_n 2, 1) := by decide +kernel
theorem dX7_stays_60 : decode cX7_stays 60 = .ok (.ireturn, 1) := by decide +kernel
theorem dX7_layBrief_0 : decode cX7_layBrief 0 = .ok (.aload_n 0, 1) := by decide +kernel
theorem dX7_layBrief_1 : decode cX7_layBrief 1 = .ok (.getfield 56, 3) := by decide +kernel
theorem dX7_layBrief_4 : decode cX7_layBrief 4 = .ok (.iconst 0, 1) := by decide +kernel
theorem dX7_layBrief_5 : decode cX7_layBrief 5 = .ok (.iload_n 1, 1) := by decide +kernel
theorem dX7_layBrief_6 : decode cX7_layBrief 6 = .ok (.iastore, 1) := by decide +kernel
theorem dX7_layBrief_7 : decode cX7_layBrief 7 = .ok (.aload_n 0, 1) := by decide +kernel
theorem dX7_layBrief_8 : decode cX7_layBrief 8 = .ok (.getfield 56, 3) := by decide +kernel
theorem dX7_layBrief_11 : decode cX7_layBrief 11 = .ok (.iconst 1, 1) := by decide +kernel
theorem dX7_layBrief_12 : decode cX7_layBrief 12 = .ok (.iconst 0, 1) := by decide +kernel
theorem dX7_layBrief_13 : decode cX7_layBrief 13 = .ok (.iastore, 1) := by decide +kernel
theorem dX7_layBrief_14 : decode cX7_layBrief 14 = .ok (.aload_n 0, 1) := by decide +kernel
theorem dX7_layBrief_15 : decode cX7_layBrief 15 = .ok (.getfield 56, 3) := by decide +kernel
theorem dX7_layBrief_18 : decode cX7_layBrief 18 = .ok (.iconst 2, 1) := by decide +kernel
theorem dX7_layBrief_19 : decode cX7_layBrief 19 = .ok (.iconst 0, 1) := by decide +kernel
theorem dX7_layBrief_20 : decode cX7_layBrief 20 = .ok (.iastore, 1) := by decide +kernel
theorem dX7_layBrief_21 : decode cX7_layBrief 21 = .ok (.aload_n 0, 1) := by decide +kernel
theorem dX7_layBrief_22 : decode cX7_layBrief 22 = .ok (.getfield 56, 3) := by decide +kernel
theorem dX7_layBrief_25 : decode cX7_layBrief 25 = .ok (.iconst 3, 1) := by decide +kernel
theorem dX7_layBrief_26 : decode cX7_layBrief 26 = .ok (.iconst 0, 1) := by decide +kernel
theorem dX7_layBrief_27 : decode cX7_layBrief 27 = .ok (.iastore, 1) := by decide +kernel
theorem dX7_layBrief_28 : decode cX7_layBrief 28 = .ok (.aload_n 0, 1) := by decide +kernel
theorem dX7_layBrief_29 : decode cX7_layBrief 29 = .ok (.getfield 56, 3) := by decide +kernel
theorem dX7_layBrief_32 : decode cX7_layBrief 32 = .ok (.iconst 4, 1) := by decide +kernel
theorem dX7_layBrief_33 : decode cX7_layBrief 33 = .ok (.iconst 0, 1) := by decide +kernel
theorem dX7_layBrief_34 : decode cX7_layBrief 34 = .ok (.iastore, 1) := by decide +kernel
theorem dX7_layBrief_35 : decode cX7_layBrief 35 = .ok (.aload_n 0, 1) := by decide +kernel
theorem dX7_layBrief_36 : decode cX7_layBrief 36 = .ok (.getfield 56, 3) := by decide +kernel
theorem dX7_layBrief_39 : decode cX7_layBrief 39 = .ok (.iconst 5, 1) := by decide +kernel
theorem dX7_layBrief_40 : decode cX7_layBrief 40 = .ok (.iload_n 2, 1) := by decide +kernel
theorem dX7_layBrief_41 : decode cX7_layBrief 41 = .ok (.iastore, 1) := by decide +kernel
theorem dX7_layBrief_42 : decode cX7_layBrief 42 = .ok (.aload_n 0, 1) := by decide +kernel
theorem dX7_layBrief_43 : decode cX7_layBrief 43 = .ok (.getfield 56, 3) := by decide +kernel
theorem dX7_layBrief_46 : decode cX7_layBrief 46 = .ok (.bipush 6, 2) := by decide +kernel
theorem dX7_layBrief_48 : decode cX7_layBrief 48 = .ok (.iload_n 3, 1) := by decide +kernel
theorem dX7_layBrief_49 : decode cX7_layBrief 49 = .ok (.iastore, 1) := by decide +kernel
theorem dX7_layBrief_50 : decode cX7_layBrief 50 = .ok (.return_, 1) := by decide +kernel
set_option maxRecDepth 20000 in
theorem ggX7_laySpelled_X7_ref : GoodIn wsX7_laySpelled wsX7_ref := goodIn_r _ [6] (by decide +kernel) (by decide +kernel)
set_option maxRecDepth 20000 in
theorem gX7_laySpelled_X7_ref : GoodIn wsX7_laySpelled (va_wsS RX7 136 yX7_ref wsX7_ref) := goodIn_app (goodIn_of _ (by decide +kernel)) ggX7_laySpelled_X7_ref
theorem dX7_laySpelled_0 : decode cX7_laySpelled 0 = .ok (.iconst 0, 1) := by decide +kernel
theorem dX7_laySpelled_1 : decode cX7_laySpelled 1 = .ok (.istore_n 3, 1) := by decide +kernel
theorem dX7_laySpelled_2 : decode cX7_laySpelled 2 = .ok (.iload_n 3, 1) := by decide +kernel
theorem dX7_laySpelled_3 : decode cX7_laySpelled 3 = .ok (.bipush 7, 2) := by decide +kernel
theorem dX7_laySpelled_5 : decode cX7_laySpelled 5 = .ok (.if_icmp .ge 26, 3) := by decide +kernel
theorem dX7_laySpelled_8 : decode cX7_laySpelled 8 = .ok (.aload_n 0, 1) := by decide +kernel
theorem dX7_laySpelled_9 : decode cX7_laySpelled 9 = .ok (.getfield 56, 3) := by decide +kernel
theorem dX7_laySpelled_12 : decode cX7_laySpelled 12 = .ok (.iload_n 3, 1) := by decide +kernel
theorem dX7_laySpelled_13 : decode cX7_laySpelled 13 = .ok (.aload_n 1, 1) := by decide +kernel
theorem dX7_laySpelled_14 : decode cX7_laySpelled 14 = .ok (.aload_n 0, 1) := by decide +kernel
theorem dX7_laySpelled_15 : decode cX7_laySpelled 15 = .ok (.getfield 53, 3) := by decide +kernel
theorem dX7_laySpelled_18 : decode cX7_laySpelled 18 = .ok (.iload_n 2, 1) := by decide +kernel
theorem dX7_laySpelled_19 : decode cX7_laySpelled 19 = .ok (.iaload, 1) := by decide +kernel
theorem dX7_laySpelled_20 : decode cX7_laySpelled 20 = .ok (.iload_n 3, 1) := by decide +kernel
theorem dX7_laySpelled_21 : decode cX7_laySpelled 21 = .ok (.invokestatic 136, 3) := by decide +kernel
theorem dX7_laySpelled_24 : decode cX7_laySpelled 24 = .ok (.iastore, 1) := by decide +kernel
theorem dX7_laySpelled_25 : decode cX7_laySpelled 25 = .ok (.iinc 3 1, 3) := by decide +kernel
theorem dX7_laySpelled_28 : decode cX7_laySpelled 28 = .ok (.goto (-26), 3) := by decide +kernel
theorem dX7_laySpelled_31 : decode cX7_laySpelled 31 = .ok (.return_, 1) := by decide +kernel
set_option maxRecDepth 20000 in
theorem ggX7_shorten_X7_ref : GoodIn wsX7_shorten wsX7_ref := goodIn_r _ [6] (by decide +kernel) (by decide +kernel)
set_option maxRecDepth 20000 in
theorem gX7_shorten_X7_ref : GoodIn wsX7_shorten (va_wsS RX7 136 yX7_ref wsX7_ref) := goodIn_app (goodIn_of _ (by decide +kernel)) ggX7_shorten_X7_ref
set_option maxRecDepth 20000 in
theorem ggX7_shorten_X7_stays : GoodIn wsX7_shorten wsX7_stays := goodIn_r _ [9, 3, 4, 5, 6, 10, 11, 12, 13, 14, 15, 16, 17, 18, 19, 20, 21, 22, 23, 24, 25, 26, 27, 28, 29, 30, 31, 32, 33] (by decide +kernel) (by decide +kernel)
set_option maxRecDepth 20000 in
theorem gX7_shorten_X7_stays : GoodIn wsX7_shorten (va_wsS RX7 231 yX7_stays wsX7_stays) := goodIn_app (goodIn_of _ (by decide +kernel)) ggX7_shorten_X7_stays
set_option maxRecDepth 20000 in
theorem ggX7_shorten_X7_allNotes : GoodIn wsX7_shorten wsX7_allNotes := goodIn_r _ [12] (by decide +kernel) (by decide +kernel)
set_option maxRecDepth 20000 in
theorem gX7_shorten_X7_allNotes : GoodIn wsX7_shorten (va_wsS RX7 187 yX7_allNotes wsX7_allNotes) := goodIn_app (goodIn_of _ (by decide +kernel)) ggX7_shorten_X7_allNotes
set_option maxRecDepth 20000 in
theorem ggX7_shorten_X7_initial : GoodIn wsX7_shorten wsX7_initial := goodIn_r _ [37, 38, 3, 4, 5, 6, 67, 68, 69, 70, 71, 72, 73, 74, 75, 76, 77, 78, 79, 80, 81, 82, 83, 84, 85, 86, 87, 88, 89, 90, 91, 92, 93, 94] (by decide +kernel) (by decide +kernel)
set_option maxRecDepth 20000 in
theorem gX7_shorten_X7_initial : GoodIn wsX7_shorten (wsV RX7 155 RX7 yX7_initial wsX7_initial) := goodIn_app (goodIn_of _ (by decide +kernel)) ggX7_shorten_X7_initial
set_option maxRecDepth 20000 in
theorem ggX7_shorten_X7_told : GoodIn wsX7_shorten wsX7_told := goodIn_r _ [42, 43, 2, 44, 45, 5, 46, 25, 26, 27, 47, 48, 49, 50, 51, 52, 53, 54, 38, 34, 35, 36, 37, 3, 4, 6, 55, 56, 57, 58, 16, 17, 18, 19, 20, 21, 22, 23, 24, 67, 68, 69, 70, 71, 72, 73, 74, 75, 76, 77, 78, 79, 80, 81, 82, 83, 84, 85, 86, 87, 88, 89, 90, 91, 92, 93, 94] (by decide +kernel) (by decide +kernel)
set_option maxRecDepth 20000 in
theorem gX7_shorten_X7_told : GoodIn wsX7_shorten (wsV RX7 183 RX7 yX7_told wsX7_told) := goodIn_app (goodIn_of _ (by decide +kernel)) ggX7_shorten_X7_told
set_option maxRecDepth 20000 in
theorem ggX7_shorten_X7_layBrief : GoodIn wsX7_shorten wsX7_layBrief := goodIn_r _ [62, 1, 67, 68, 69, 70, 71, 72, 73, 74, 75, 76, 77, 78, 79, 80, 81, 82, 83, 84, 85, 86, 87, 88, 89, 90, 91, 92, 93, 94] (by decide +kernel) (by decide +kernel)
set_option maxRecDepth 20000 in
theorem gX7_shorten_X7_layBrief : GoodIn wsX7_shorten (wsV RX7 235 RX7 yX7_layBrief wsX7_layBrief) := goodIn_app (goodIn_of _ (by decide +kernel)) ggX7_shorten_X7_layBrief
set_option maxRecDepth 20000 in
theorem ggX7_shorten_X7_laySpelled : GoodIn wsX7_shorten wsX7_laySpelled := goodIn_r _ [66, 1, 38, 3, 4, 5, 6, 67, 68, 69, 70, 71, 72, 73, 74, 75, 76, 77, 78, 79, 80, 81, 82, 83, 84, 85, 86, 87, 88, 89, 90, 91, 92, 93, 94] (by decide +kernel) (by decide +kernel)
set_option maxRecDepth 20000 in
theorem gX7_shorten_X7_laySpelled : GoodIn wsX7_shorten (wsV RX7 239 RX7 yX7_laySpelled wsX7_laySpelled) := goodIn_app (goodIn_of _ (by decide +kernel)) ggX7_shorten_X7_laySpelled
theorem dX7_shorten_0 : decode cX7_shorten 0 = .ok (.iconst 0, 1) := by decide +kernel
theorem dX7_shorten_1 : decode cX7_shorten 1 = .ok (.istore_n 3, 1) := by decide +kernel
theorem dX7_shorten_2 : decode cX7_shorten 2 = .ok (.iload_n 3, 1) := by decide +kernel
theorem dX7_shorten_3 : decode cX7_shorten 3 = .ok (.bipush 8, 2) := by decide +kernel
theorem dX7_shorten_5 : decode cX7_shorten 5 = .ok (.if_icmp .ge 21, 3) := by decide +kernel
theorem dX7_shorten_8 : decode cX7_shorten 8 = .ok (.aload_n 0, 1) := by decide +kernel
theorem dX7_shorten_9 : decode cX7_shorten 9 = .ok (.getfield 56, 3) := by decide +kernel
theorem dX7_shorten_12 : decode cX7_shorten 12 = .ok (.iload_n 3, 1) := by decide +kernel
theorem dX7_shorten_13 : decode cX7_shorten 13 = .ok (.aload_n 1, 1) := by decide +kernel
theorem dX7_shorten_14 : decode cX7_shorten 14 = .ok (.iload_n 2, 1) := by decide +kernel
theorem dX7_shorten_15 : decode cX7_shorten 15 = .ok (.iload_n 3, 1) := by decide +kernel
theorem dX7_shorten_16 : decode cX7_shorten 16 = .ok (.invokestatic 136, 3) := by decide +kernel
theorem dX7_shorten_19 : decode cX7_shorten 19 = .ok (.iastore, 1) := by decide +kernel
theorem dX7_shorten_20 : decode cX7_shorten 20 = .ok (.iinc 3 1, 3) := by decide +kernel
theorem dX7_shorten_23 : decode cX7_shorten 23 = .ok (.goto (-21), 3) := by decide +kernel
theorem dX7_shorten_26 : decode cX7_shorten 26 = .ok (.aload_n 0, 1) := by decide +kernel
theorem dX7_shorten_27 : decode cX7_shorten 27 = .ok (.getfield 47, 3) := by decide +kernel
theorem dX7_shorten_30 : decode cX7_shorten 30 = .ok (.iload_n 2, 1) := by decide +kernel
theorem dX7_shorten_31 : decode cX7_shorten 31 = .ok (.iaload, 1) := by decide +kernel
theorem dX7_shorten_32 : decode cX7_shorten 32 = .ok (.istore_n 3, 1) := by decide +kernel
theorem dX7_shorten_33 : decode cX7_shorten 33 = .ok (.iload_n 3, 1) := by decide +kernel
theorem dX7_shorten_34 : decode cX7_shorten 34 = .ok (.bipush (-9), 2) := by decide +kernel
theorem dX7_shorten_36 : decode cX7_shorten 36 = .ok (.if_icmp .eq 11, 3) := by decide +kernel
theorem dX7_shorten_39 : decode cX7_shorten 39 = .ok (.aload_n 1, 1) := by decide +kernel
theorem dX7_shorten_40 : decode cX7_shorten 40 = .ok (.iload_n 2, 1) := by decide +kernel
theorem dX7_shorten_41 : decode cX7_shorten 41 = .ok (.invokestatic 231, 3) := by decide +kernel
theorem dX7_shorten_44 : decode cX7_shorten 44 = .ok (.ifCond .eq 4, 3) := by decide +kernel
theorem dX7_shorten_47 : decode cX7_shorten 47 = .ok (.return_, 1) := by decide +kernel
theorem dX7_shorten_48 : decode cX7_shorten 48 = .ok (.aload_n 1, 1) := by decide +kernel
theorem dX7_shorten_49 : decode cX7_shorten 49 = .ok (.invokestatic 187, 3) := by decide +kernel
theorem dX7_shorten_52 : decode cX7_shorten 52 = .ok (.istore 4, 2) := by decide +kernel
theorem dX7_shorten_54 : decode cX7_shorten 54 = .ok (.aload_n 0, 1) := by decide +kernel
theorem dX7_shorten_55 : decode cX7_shorten 55 = .ok (.aload_n 1, 1) := by decide +kernel
theorem dX7_shorten_56 : decode cX7_shorten 56 = .ok (.iload_n 3, 1) := by decide +kernel
theorem dX7_shorten_57 : decode cX7_shorten 57 = .ok (.invokevirtual 155, 3) := by decide +kernel
theorem dX7_shorten_60 : decode cX7_shorten 60 = .ok (.istore 5, 2) := by decide +kernel
theorem dX7_shorten_62 : decode cX7_shorten 62 = .ok (.aload_n 0, 1) := by decide +kernel
theorem dX7_shorten_63 : decode cX7_shorten 63 = .ok (.aload_n 1, 1) := by decide +kernel
theorem dX7_shorten_64 : decode cX7_shorten 64 = .ok (.iload 4, 2) := by decide +kernel
theorem dX7_shorten_66 : decode cX7_shorten 66 = .ok (.iload_n 2, 1) := by decide +kernel
theorem dX7_shorten_67 : decode cX7_shorten 67 = .ok (.iconst 2, 1) := by decide +kernel
theorem dX7_shorten_68 : decode cX7_shorten 68 = .ok (.iconst 0, 1) := by decide +kernel
theorem dX7_shorten_69 : decode cX7_shorten 69 = .ok (.iconst 0, 1) := by decide +kernel
theorem dX7_shorten_70 : decode cX7_shorten 70 = .ok (.invokevirtual 183, 3) := by decide +kernel
theorem dX7_shorten_73 : decode cX7_shorten 73 = .ok (.iload_n 3, 1) := by decide +kernel
theorem dX7_shorten_74 : decode cX7_shorten 74 = .ok (.if_icmp .ne 11, 3) := by decide +kernel
theorem dX7_shorten_77 : decode cX7_shorten 77 = .ok (.aload_n 0, 1) := by decide +kernel
theorem dX7_shorten_78 : decode cX7_shorten 78 = .ok (.iconst 2, 1) := by decide +kernel
theorem dX7_shorten_79 : decode cX7_shorten 79 = .ok (.iconst 0, 1) := by decide +kernel
theorem dX7_shorten_80 : decode cX7_shorten 80 = .ok (.iconst 0, 1) := by decide +kernel
theorem dX7_shorten_81 : decode cX7_shorten 81 = .ok (.invokevirtual 235, 3) := by decide +kernel
theorem dX7_shorten_84 : decode cX7_shorten 84 = .ok (.return_, 1) := by decide +kernel
theorem dX7_shorten_85 : decode cX7_shorten 85 = .ok (.aload_n 0, 1) := by decide +kernel
theorem dX7_shorten_86 : decode cX7_shorten 86 = .ok (.aload_n 1, 1) := by decide +kernel
theorem dX7_shorten_87 : decode cX7_shorten 87 = .ok (.iload 4, 2) := by decide +kernel
theorem dX7_shorten_89 : decode cX7_shorten 89 = .ok (.iload_n 2, 1) := by decide +kernel
theorem dX7_shorten_90 : decode cX7_shorten 90 = .ok (.iconst 1, 1) := by decide +kernel
theorem dX7_shorten_91 : decode cX7_shorten 91 = .ok (.iload 5, 2) := by decide +kernel
theorem dX7_shorten_93 : decode cX7_shorten 93 = .ok (.iconst 0, 1) := by decide +kernel
theorem dX7_shorten_94 : decode cX7_shorten 94 = .ok (.invokevirtual 183, 3) := by decide +kernel
theorem dX7_shorten_97 : decode cX7_shorten 97 = .ok (.iload_n 3, 1) := by decide +kernel
theorem dX7_shorten_98 : decode cX7_shorten 98 = .ok (.if_icmp .ne 12, 3) := by decide +kernel
theorem dX7_shorten_101 : decode cX7_shorten 101 = .ok (.aload_n 0, 1) := by decide +kernel
theorem dX7_shorten_102 : decode cX7_shorten 102 = .ok (.iconst 1, 1) := by decide +kernel
theorem dX7_shorten_103 : decode cX7_shorten 103 = .ok (.iload 5, 2) := by decide +kernel
theorem dX7_shorten_105 : decode cX7_shorten 105 = .ok (.iconst 0, 1) := by decide +kernel
theorem dX7_shorten_106 : decode cX7_shorten 106 = .ok (.invokevirtual 235, 3) := by decide +kernel
theorem dX7_shorten_109 : decode cX7_shorten 109 = .ok (.return_, 1) := by decide +kernel
theorem dX7_shorten_110 : decode cX7_shorten 110 = .ok (.iconst 0, 1) := by decide +kernel
theorem dX7_shorten_111 : decode cX7_shorten 111 = .ok (.istore 6, 2) := by decide +kernel
theorem dX7_shorten_113 : decode cX7_shorten 113 = .ok (.iload 6, 2) := by decide +kernel
theorem dX7_shorten_115 : decode cX7_shorten 115 = .ok (.iload_n 2, 1) := by decide +kernel
theorem dX7_shorten_116 : decode cX7_shorten 116 = .ok (.iconst 4, 1) := by decide +kernel
theorem dX7_shorten_117 : decode cX7_shorten 117 = .ok (.idiv, 1) := by decide +kernel
theorem dX7_shorten_118 : decode cX7_shorten 118 = .ok (.if_icmp .ge 36, 3) := by decide +kernel
theorem dX7_shorten_121 : decode cX7_shorten 121 = .ok (.aload_n 0, 1) := by decide +kernel
theorem dX7_shorten_122 : decode cX7_shorten 122 = .ok (.aload_n 1, 1) := by decide +kernel
theorem dX7_shorten_123 : decode cX7_shorten 123 = .ok (.iload 4, 2) := by decide +kernel
theorem dX7_shorten_125 : decode cX7_shorten 125 = .ok (.iload_n 2, 1) := by decide +kernel
theorem dX7_shorten_126 : decode cX7_shorten 126 = .ok (.iconst 3, 1) := by decide +kernel
theorem dX7_shorten_127 : decode cX7_shorten 127 = .ok (.iload 5, 2) := by decide +kernel
theorem dX7_shorten_129 : decode cX7_shorten 129 = .ok (.iload 6, 2) := by decide +kernel
theorem dX7_shorten_131 : decode cX7_shorten 131 = .ok (.invokevirtual 183, 3) := by decide +kernel
theorem dX7_shorten_134 : decode cX7_shorten 134 = .ok (.iload_n 3, 1) := by decide +kernel
theorem dX7_shorten_135 : decode cX7_shorten 135 = .ok (.if_icmp .ne 13, 3) := by decide +kernel
theorem dX7_shorten_138 : decode cX7_shorten 138 = .ok (.aload_n 0, 1) := by decide +kernel
theorem dX7_shorten_139 : decode cX7_shorten 139 = .ok (.iconst 3, 1) := by decide +kernel
theorem dX7_shorten_140 : decode cX7_shorten 140 = .ok (.iload 5, 2) := by decide +kernel
theorem dX7_shorten_142 : decode cX7_shorten 142 = .ok (.iload 6, 2) := by decide +kernel
theorem dX7_shorten_144 : decode cX7_shorten 144 = .ok (.invokevirtual 235, 3) := by decide +kernel
theorem dX7_shorten_147 : decode cX7_shorten 147 = .ok (.return_, 1) := by decide +kernel
theorem dX7_shorten_148 : decode cX7_shorten 148 = .ok (.iinc 6 1, 3) := by decide +kernel
theorem dX7_shorten_151 : decode cX7_shorten 151 = .ok (.goto (-38), 3) := by decide +kernel
theorem dX7_shorten_154 : decode cX7_shorten 154 = .ok (.aload_n 0, 1) := by decide +kernel
theorem dX7_shorten_155 : decode cX7_shorten 155 = .ok (.aload_n 1, 1) := by decide +kernel
theorem dX7_shorten_156 : decode cX7_shorten 156 = .ok (.iload_n 3, 1) := by decide +kernel
theorem dX7_shorten_157 : decode cX7_shorten 157 = .ok (.invokevirtual 239, 3) := by decide +kernel
theorem dX7_shorten_160 : decode cX7_shorten 160 = .ok (.return_, 1) := by decide +kernel
theorem dX7_briefLetters_0 : decode cX7_briefLetters 0 = .ok (.aload_n 0, 1) := by decide +kernel
theorem dX7_briefLetters_1 : decode cX7_briefLetters 1 = .ok (.getfield 56, 3) := by decide +kernel
theorem dX7_briefLetters_4 : decode cX7_briefLetters 4 = .ok (.iconst 0, 1) := by decide +kernel
theorem dX7_briefLetters_5 : decode cX7_briefLetters 5 = .ok (.iaload, 1) := by decide +kernel
theorem dX7_briefLetters_6 : decode cX7_briefLetters 6 = .ok (.ifCond .ne 22, 3) := by decide +kernel
theorem dX7_briefLetters_9 : decode cX7_briefLetters 9 = .ok (.aload_n 0, 1) := by decide +kernel
theorem dX7_briefLetters_10 : decode cX7_briefLetters 10 = .ok (.getfield 56, 3) := by decide +kernel
theorem dX7_briefLetters_13 : decode cX7_briefLetters 13 = .ok (.iconst 4, 1) := by decide +kernel
theorem dX7_briefLetters_14 : decode cX7_briefLetters 14 = .ok (.iaload, 1) := by decide +kernel
theorem dX7_briefLetters_15 : decode cX7_briefLetters 15 = .ok (.ifCond .ne 8, 3) := by decide +kernel
theorem dX7_briefLetters_18 : decode cX7_briefLetters 18 = .ok (.bipush 6, 2) := by decide +kernel
theorem dX7_briefLetters_20 : decode cX7_briefLetters 20 = .ok (.goto 23, 3) := by decide +kernel
theorem dX7_briefLetters_23 : decode cX7_briefLetters 23 = .ok (.bipush 11, 2) := by decide +kernel
theorem dX7_briefLetters_25 : decode cX7_briefLetters 25 = .ok (.goto 18, 3) := by decide +kernel
theorem dX7_briefLetters_28 : decode cX7_briefLetters 28 = .ok (.aload_n 0, 1) := by decide +kernel
theorem dX7_briefLetters_29 : decode cX7_briefLetters 29 = .ok (.getfield 56, 3) := by decide +kernel
theorem dX7_briefLetters_32 : decode cX7_briefLetters 32 = .ok (.iconst 0, 1) := by decide +kernel
theorem dX7_briefLetters_33 : decode cX7_briefLetters 33 = .ok (.iaload, 1) := by decide +kernel
theorem dX7_briefLetters_34 : decode cX7_briefLetters 34 = .ok (.iconst 3, 1) := by decide +kernel
theorem dX7_briefLetters_35 : decode cX7_briefLetters 35 = .ok (.if_icmp .ne 7, 3) := by decide +kernel
theorem dX7_briefLetters_38 : decode cX7_briefLetters 38 = .ok (.iconst 3, 1) := by decide +kernel
theorem dX7_briefLetters_39 : decode cX7_briefLetters 39 = .ok (.goto 4, 3) := by decide +kernel
theorem dX7_briefLetters_42 : decode cX7_briefLetters 42 = .ok (.iconst 1, 1) := by decide +kernel
theorem dX7_briefLetters_43 : decode cX7_briefLetters 43 = .ok (.istore_n 1, 1) := by decide +kernel
theorem dX7_briefLetters_44 : decode cX7_briefLetters 44 = .ok (.aload_n 0, 1) := by decide +kernel
theorem dX7_briefLetters_45 : decode cX7_briefLetters 45 = .ok (.getfield 56, 3) := by decide +kernel
theorem dX7_briefLetters_48 : decode cX7_briefLetters 48 = .ok (.bipush 7, 2) := by decide +kernel
theorem dX7_briefLetters_50 : decode cX7_briefLetters 50 = .ok (.iaload, 1) := by decide +kernel
theorem dX7_briefLetters_51 : decode cX7_briefLetters 51 = .ok (.ifCond .ne 7, 3) := by decide +kernel
theorem dX7_briefLetters_54 : decode cX7_briefLetters 54 = .ok (.iload_n 1, 1) := by decide +kernel
theorem dX7_briefLetters_55 : decode cX7_briefLetters 55 = .ok (.goto 6, 3) := by decide +kernel
theorem dX7_briefLetters_58 : decode cX7_briefLetters 58 = .ok (.iload_n 1, 1) := by decide +kernel
theorem dX7_briefLetters_59 : decode cX7_briefLetters 59 = .ok (.iconst 3, 1) := by decide +kernel
theorem dX7_briefLetters_60 : decode cX7_briefLetters 60 = .ok (.iadd, 1) := by decide +kernel
theorem dX7_briefLetters_61 : decode cX7_briefLetters 61 = .ok (.ireturn, 1) := by decide +kernel
set_option maxRecDepth 20000 in
theorem ggX7_shorter_X7_isThere : GoodIn wsX7_shorter wsX7_isThere := goodIn_r _ [7, 8, 9, 6, 10] (by decide +kernel) (by decide +kernel)
set_option maxRecDepth 20000 in
theorem gX7_shorter_X7_isThere : GoodIn wsX7_shorter (va_wsS RX7 76 yX7_isThere wsX7_isThere) := goodIn_app (goodIn_of _ (by decide +kernel)) ggX7_shorter_X7_isThere
set_option maxRecDepth 20000 in
theorem ggX7_shorter_X7_in : GoodIn wsX7_shorter wsX7_in := goodIn_r _ [10] (by decide +kernel) (by decide +kernel)
set_option maxRecDepth 20000 in
theorem gX7_shorter_X7_in : GoodIn wsX7_shorter (va_wsS RX7 72 yX7_in wsX7_in) := goodIn_app (goodIn_of _ (by decide +kernel)) ggX7_shorter_X7_in
set_option maxRecDepth 20000 in
theorem ggX7_shorter_X7_findAll : GoodIn wsX7_shorter wsX7_findAll := goodIn_r _ [14, 15, 16, 6, 17, 18, 19, 20, 21, 22, 23, 24, 25, 26, 27, 28, 29, 30, 31, 32, 33, 34, 35, 36, 37, 4, 5, 7, 8, 9, 10, 38, 39, 40, 41, 42, 43, 44, 45, 46, 47, 48, 49, 50, 51, 52, 53, 54, 55, 56, 57, 58, 59, 60, 61, 62, 63, 64, 65, 66, 67, 68, 69, 70, 71, 72, 73, 74, 75, 98, 99, 100, 101, 102, 103, 104, 105, 106, 107, 108, 109, 110, 111, 112, 113, 114, 115, 116, 117, 118, 119, 120, 121, 122, 123, 124, 125] (by decide +kernel) (by decide +kernel)
set_option maxRecDepth 20000 in
theorem gX7_shorter_X7_findAll : GoodIn wsX7_shorter (wsV RX7 194 RX7 yX7_findAll wsX7_findAll) := goodIn_app (goodIn_of _ (by decide +kernel)) ggX7_shorter_X7_findAll
set_option maxRecDepth 20000 in
theorem ggX7_shorter_X7_shorten : GoodIn wsX7_shorter wsX7_shorten := goodIn_r _ [79, 3, 22, 41, 42, 6, 43, 80, 81, 82, 15, 16, 17, 32, 33, 34, 35, 36, 37, 4, 5, 7, 8, 9, 10, 38, 39, 40, 83, 84, 85, 47, 48, 49, 68, 69, 70, 71, 31, 54, 55, 56, 57, 24, 58, 59, 60, 61, 62, 63, 64, 65, 66, 67, 30, 72, 73, 74, 75, 86, 87, 88, 89, 90, 91, 92, 93, 98, 99, 100, 101, 102, 103, 104, 105, 106, 107, 108, 109, 110, 111, 112, 113, 114, 115, 116, 117, 118, 119, 120, 121, 122, 123, 124, 125] (by decide +kernel) (by decide +kernel)
set_option maxRecDepth 20000 in
theorem gX7_shorter_X7_shorten : GoodIn wsX7_shorter (wsV RX7 242 RX7 yX7_shorten wsX7_shorten) := goodIn_app (goodIn_of _ (by decide +kernel)) ggX7_shorter_X7_shorten
set_option maxRecDepth 20000 in
theorem ggX7_shorter_X7_briefLetters : GoodIn wsX7_shorter wsX7_briefLetters := goodIn_r _ [97, 3, 98, 99, 100, 101, 102, 103, 104, 105, 106, 107, 108, 109, 110, 111, 112, 113, 114, 115, 116, 117, 118, 119, 120, 121, 122, 123, 124, 125] (by decide +kernel) (by decide +kernel)
set_option maxRecDepth 20000 in
theorem gX7_shorter_X7_briefLetters : GoodIn wsX7_shorter (wsV RX7 245 RX7 yX7_briefLetters wsX7_briefLetters) := goodIn_app (goodIn_of _ (by decide +kernel)) ggX7_shorter_X7_briefLetters
theorem dX7_shorter_0 : decode cX7_shorter 0 = .ok (.aload_n 0, 1) := by decide +kernel
theorem dX7_shorter_1 : decode cX7_shorter 1 = .ok (.iconst 0, 1) := by decide +kernel
theorem dX7_shorter_2 : decode cX7_shorter 2 = .ok (.putfield 68, 3) := by decide +kernel
theorem dX7_shorter_5 : decode cX7_shorter 5 = .ok (.aload_n 0, 1) := by decide +kernel
theorem dX7_shorter_6 : decode cX7_shorter 6 = .ok (.getfield 16, 3) := by decide +kernel
theorem dX7_shorter_9 : decode cX7_shorter 9 = .ok (.iload_n 1, 1) := by decide +kernel
theorem dX7_shorter_10 : decode cX7_shorter 10 = .ok (.iload_n 2, 1) := by decide +kernel
theorem dX7_shorter_11 : decode cX7_shorter 11 = .ok (.invokestatic 76, 3) := by decide +kernel
theorem dX7_shorter_14 : decode cX7_shorter 14 = .ok (.ifCond .ne 5, 3) := by decide +kernel
theorem dX7_shorter_17 : decode cX7_shorter 17 = .ok (.iconst (-1), 1) := by decide +kernel
theorem dX7_shorter_18 : decode cX7_shorter 18 = .ok (.ireturn, 1) := by decide +kernel
theorem dX7_shorter_19 : decode cX7_shorter 19 = .ok (.iload_n 3, 1) := by decide +kernel
theorem dX7_shorter_20 : decode cX7_shorter 20 = .ok (.i2l, 1) := by decide +kernel
theorem dX7_shorter_21 : decode cX7_shorter 21 = .ok (.lconst 0, 1) := by decide +kernel
theorem dX7_shorter_22 : decode cX7_shorter 22 = .ok (.lconst 1, 1) := by decide +kernel
theorem dX7_shorter_23 : decode cX7_shorter 23 = .ok (.invokestatic 72, 3) := by decide +kernel
theorem dX7_shorter_26 : decode cX7_shorter 26 = .ok (.ifCond .ne 6, 3) := by decide +kernel
theorem dX7_shorter_29 : decode cX7_shorter 29 = .ok (.bipush (-2), 2) := by decide +kernel
theorem dX7_shorter_31 : decode cX7_shorter 31 = .ok (.ireturn, 1) := by decide +kernel
theorem dX7_shorter_32 : decode cX7_shorter 32 = .ok (.aload_n 0, 1) := by decide +kernel
theorem dX7_shorter_33 : decode cX7_shorter 33 = .ok (.aload_n 0, 1) := by decide +kernel
theorem dX7_shorter_34 : decode cX7_shorter 34 = .ok (.getfield 16, 3) := by decide +kernel
theorem dX7_shorter_37 : decode cX7_shorter 37 = .ok (.invokevirtual 194, 3) := by decide +kernel
theorem dX7_shorter_40 : decode cX7_shorter 40 = .ok (.aload_n 0, 1) := by decide +kernel
theorem dX7_shorter_41 : decode cX7_shorter 41 = .ok (.aload_n 0, 1) := by decide +kernel
theorem dX7_shorter_42 : decode cX7_shorter 42 = .ok (.getfield 16, 3) := by decide +kernel
theorem dX7_shorter_45 : decode cX7_shorter 45 = .ok (.iconst 4, 1) := by decide +kernel
theorem dX7_shorter_46 : decode cX7_shorter 46 = .ok (.iload_n 1, 1) := by decide +kernel
theorem dX7_shorter_47 : decode cX7_shorter 47 = .ok (.imul, 1) := by decide +kernel
theorem dX7_shorter_48 : decode cX7_shorter 48 = .ok (.iload_n 2, 1) := by decide +kernel
theorem dX7_shorter_49 : decode cX7_shorter 49 = .ok (.iadd, 1) := by decide +kernel
theorem dX7_shorter_50 : decode cX7_shorter 50 = .ok (.invokevirtual 242, 3) := by decide +kernel
theorem dX7_shorter_53 : decode cX7_shorter 53 = .ok (.iload_n 3, 1) := by decide +kernel
theorem dX7_shorter_54 : decode cX7_shorter 54 = .ok (.ifCond .ne 12, 3) := by decide +kernel
theorem dX7_shorter_57 : decode cX7_shorter 57 = .ok (.aload_n 0, 1) := by decide +kernel
theorem dX7_shorter_58 : decode cX7_shorter 58 = .ok (.getfield 56, 3) := by decide +kernel
theorem dX7_shorter_61 : decode cX7_shorter 61 = .ok (.iconst 0, 1) := by decide +kernel
theorem dX7_shorter_62 : decode cX7_shorter 62 = .ok (.iaload, 1) := by decide +kernel
theorem dX7_shorter_63 : decode cX7_shorter 63 = .ok (.goto 7, 3) := by decide +kernel
theorem dX7_shorter_66 : decode cX7_shorter 66 = .ok (.aload_n 0, 1) := by decide +kernel
theorem dX7_shorter_67 : decode cX7_shorter 67 = .ok (.invokevirtual 245, 3) := by decide +kernel
theorem dX7_shorter_70 : decode cX7_shorter 70 = .ok (.ireturn, 1) := by decide +kernel
theorem dX7_out_0 : decode cX7_out 0 = .ok (.aload_n 0, 1) := by decide +kernel
theorem dX7_out_1 : decode cX7_out 1 = .ok (.getfield 59, 3) := by decide +kernel
theorem dX7_out_4 : decode cX7_out 4 = .ok (.aload_n 0, 1) := by decide +kernel
theorem dX7_out_5 : decode cX7_out 5 = .ok (.getfield 248, 3) := by decide +kernel
theorem dX7_out_8 : decode cX7_out 8 = .ok (.iload_n 1, 1) := by decide +kernel
theorem dX7_out_9 : decode cX7_out 9 = .ok (.iastore, 1) := by decide +kernel
theorem dX7_out_10 : decode cX7_out 10 = .ok (.aload_n 0, 1) := by decide +kernel
theorem dX7_out_11 : decode cX7_out 11 = .ok (.dup, 1) := by decide +kernel
theorem dX7_out_12 : decode cX7_out 12 = .ok (.getfield 248, 3) := by decide +kernel
theorem dX7_out_15 : decode cX7_out 15 = .ok (.iconst 1, 1) := by decide +kernel
theorem dX7_out_16 : decode cX7_out 16 = .ok (.iadd, 1) := by decide +kernel
theorem dX7_out_17 : decode cX7_out 17 = .ok (.putfield 248, 3) := by decide +kernel
theorem dX7_out_20 : decode cX7_out 20 = .ok (.return_, 1) := by decide +kernel
set_option maxRecDepth 20000 in
theorem ggX7_outPage_X7_out : GoodIn wsX7_outPage wsX7_out := goodIn_r _ [5, 6, 7, 8, 9, 10, 11, 12, 13, 14, 15, 16, 17, 18, 19, 20, 21, 22, 23, 24, 25, 26, 27, 28, 29, 30, 31, 32, 33, 34, 35] (by decide +kernel) (by decide +kernel)
set_option maxRecDepth 20000 in
theorem gX7_outPage_X7_out : GoodIn wsX7_outPage (wsV RX7 251 RX7 yX7_out wsX7_out) := goodIn_app (goodIn_of _ (by decide +kernel)) ggX7_outPage_X7_out
theorem dX7_outPage_0 : decode cX7_outPage 0 = .ok (.aload_n 0, 1) := by decide +kernel
theorem dX7_outPage_1 : decode cX7_outPage 1 = .ok (.bipush 48, 2) := by decide +kernel
theorem dX7_outPage_3 : decode cX7_outPage 3 = .ok (.iload_n 1, 1) := by decide +kernel
theorem dX7_outPage_4 : decode cX7_outPage 4 = .ok (.bipush 10, 2) := by decide +kernel
theorem dX7_outPage_6 : decode cX7_outPage 6 = .ok (.idiv, 1) := by decide +kernel
theorem dX7_outPage_7 : decode cX7_outPage 7 = .ok (.iadd, 1) := by decide +kernel
theorem dX7_outPage_8 : decode cX7_outPage 8 = .ok (.invokevirtual 251, 3) := by decide +kernel
theorem dX7_outPage_11 : decode cX7_outPage 11 = .ok (.aload_n 0, 1) := by decide +kernel
theorem dX7_outPage_12 : decode cX7_outPage 12 = .ok (.bipush 48, 2) := by decide +kernel
theorem dX7_outPage_14 : decode cX7_outPage 14 = .ok (.iload_n 1, 1) := by decide +kernel
theorem dX7_outPage_15 : decode cX7_outPage 15 = .ok (.bipush 10, 2) := by decide +kernel
theorem dX7_outPage_17 : decode cX7_outPage 17 = .ok (.irem, 1) := by decide +kernel
theorem dX7_outPage_18 : decode cX7_outPage 18 = .ok (.iadd, 1) := by decide +kernel
theorem dX7_outPage_19 : decode cX7_outPage 19 = .ok (.invokevirtual 251, 3) := by decide +kernel
theorem dX7_outPage_22 : decode cX7_outPage 22 = .ok (.return_, 1) := by decide +kernel
set_option maxRecDepth 20000 in
theorem ggX7_outReport_X7_out : GoodIn wsX7_outReport wsX7_out := goodIn_r _ [5, 6, 7, 12, 13, 14, 15, 16, 17, 18, 19, 20, 21, 22, 23, 24, 25, 26, 27, 28, 29, 30, 31, 32, 33, 34, 35, 36, 37, 38, 39] (by decide +kernel) (by decide +kernel)
set_option maxRecDepth 20000 in
theorem gX7_outReport_X7_out : GoodIn wsX7_outReport (wsV RX7 251 RX7 yX7_out wsX7_out) := goodIn_app (goodIn_of _ (by decide +kernel)) ggX7_outReport_X7_out
set_option maxRecDepth 20000 in
theorem ggX7_outReport_X7_outPage : GoodIn wsX7_outReport wsX7_outPage := goodIn_r _ [11, 1, 2, 3, 4, 5, 6, 7, 12, 13, 14, 15, 16, 17, 18, 19, 20, 21, 22, 23, 24, 25, 26, 27, 28, 29, 30, 31, 32, 33, 34, 35, 36, 37, 38, 39] (by decide +kernel) (by decide +kernel)
set_option maxRecDepth 20000 in
theorem gX7_outReport_X7_outPage : GoodIn wsX7_outReport (wsV RX7 255 RX7 yX7_outPage wsX7_outPage) := goodIn_app (goodIn_of _ (by decide +kernel)) ggX7_outReport_X7_outPage
theorem dX7_outReport_0 : decode cX7_outReport 0 = .ok (.aload_n 0, 1) := by decide +kernel
theorem dX7_outReport_1 : decode cX7_outReport 1 = .ok (.bipush 48, 2) := by decide +kernel
theorem dX7_outReport_3 : decode cX7_outReport 3 = .ok (.iload_n 1, 1) := by decide +kernel
theorem dX7_outReport_4 : decode cX7_outReport 4 = .ok (.sipush 1000, 3) := by decide +kernel
theorem dX7_outReport_7 : decode cX7_outReport 7 = .ok (.idiv, 1) := by decide +kernel
theorem dX7_outReport_8 : decode cX7_outReport 8 = .ok (.iadd, 1) := by decide +kernel
theorem dX7_outReport_9 : decode cX7_outReport 9 = .ok (.invokevirtual 251, 3) := by decide +kernel
theorem dX7_outReport_12 : decode cX7_outReport 12 = .ok (.aload_n 0, 1) := by decide +kernel
theorem dX7_outReport_13 : decode cX7_outReport 13 = .ok (.bipush 114, 2) := by decide +kernel
theorem dX7_outReport_15 : decode cX7_outReport 15 = .ok (.iload_n 1, 1) := by decide +kernel
theorem dX7_outReport_16 : decode cX7_outReport 16 = .ok (.bipush 100, 2) := by decide +kernel
theorem dX7_outReport_18 : decode cX7_outReport 18 = .ok (.idiv, 1) := by decide +kernel
theorem dX7_outReport_19 : decode cX7_outReport 19 = .ok (.bipush 10, 2) := by decide +kernel
theorem dX7_outReport_21 : decode cX7_outReport 21 = .ok (.irem, 1) := by decide +kernel
theorem dX7_outReport_22 : decode cX7_outReport 22 = .ok (.iadd, 1) := by decide +kernel
theorem dX7_outReport_23 : decode cX7_outReport 23 = .ok (.invokevirtual 251, 3) := by decide +kernel
theorem dX7_outReport_26 : decode cX7_outReport 26 = .ok (.aload_n 0, 1) := by decide +kernel
theorem dX7_outReport_27 : decode cX7_outReport 27 = .ok (.iload_n 1, 1) := by decide +kernel
theorem dX7_outReport_28 : decode cX7_outReport 28 = .ok (.bipush 100, 2) := by decide +kernel
theorem dX7_outReport_30 : decode cX7_outReport 30 = .ok (.irem, 1) := by decide +kernel
theorem dX7_outReport_31 : decode cX7_outReport 31 = .ok (.invokevirtual 255, 3) := by decide +kernel
theorem dX7_outReport_34 : decode cX7_outReport 34 = .ok (.return_, 1) := by decide +kernel
set_option maxRecDepth 20000 in
theorem ggX7_outBrief_X7_out : GoodIn wsX7_outBrief wsX7_out := goodIn_r _ [6, 7, 8, 17, 18, 19, 20, 21, 22, 23, 24, 25, 26, 27, 28, 29, 30, 31, 32, 33, 34, 35, 36, 37, 38, 39, 40, 41, 42, 43, 44] (by decide +kernel) (by decide +kernel)
set_option maxRecDepth 20000 in
theorem gX7_outBrief_X7_out : GoodIn wsX7_outBrief (wsV RX7 251 RX7 yX7_out wsX7_out) := goodIn_app (goodIn_of _ (by decide +kernel)) ggX7_outBrief_X7_out
set_option maxRecDepth 20000 in
theorem ggX7_outBrief_X7_outReport : GoodIn wsX7_outBrief wsX7_outReport := goodIn_r _ [12, 2, 3, 4, 5, 6, 7, 8, 13, 14, 15, 16, 17, 18, 19, 20, 21, 22, 23, 24, 25, 26, 27, 28, 29, 30, 31, 32, 33, 34, 35, 36, 37, 38, 39, 40, 41, 42, 43, 44] (by decide +kernel) (by decide +kernel)
set_option maxRecDepth 20000 in
theorem gX7_outBrief_X7_outReport : GoodIn wsX7_outBrief (wsV RX7 258 RX7 yX7_outReport wsX7_outReport) := goodIn_app (goodIn_of _ (by decide +kernel)) ggX7_outBrief_X7_outReport
set_option maxRecDepth 20000 in
theorem ggX7_outBrief_X7_outPage : GoodIn wsX7_outBrief wsX7_outPage := goodIn_r _ [16, 2, 3, 4, 5, 6, 7, 8, 17, 18, 19, 20, 21, 22, 23, 24, 25, 26, 27, 28, 29, 30, 31, 32, 33, 34, 35, 36, 37, 38, 39, 40, 41, 42, 43, 44] (by decide +kernel) (by decide +kernel)
set_option maxRecDepth 20000 in
theorem gX7_outBrief_X7_outPage : GoodIn wsX7_outBrief (wsV RX7 255 RX7 yX7_outPage wsX7_outPage) := goodIn_app (goodIn_of _ (by decide +kernel)) ggX7_outBrief_X7_outPage
theorem dX7_outBrief_0 : decode cX7_outBrief 0 = .ok (.aload_n 0, 1) := by decide +kernel
theorem dX7_outBrief_1 : decode cX7_outBrief 1 = .ok (.getfield 56, 3) := by decide +kernel
theorem dX7_outBrief_4 : decode cX7_outBrief 4 = .ok (.iconst 0, 1) := by decide +kernel
theorem dX7_outBrief_5 : decode cX7_outBrief 5 = .ok (.iaload, 1) := by decide +kernel
theorem dX7_outBrief_6 : decode cX7_outBrief 6 = .ok (.tableswitch 115 0 2 #[26, 90, 106], 26) := by decide +kernel
theorem dX7_outBrief_32 : decode cX7_outBrief 32 = .ok (.aload_n 0, 1) := by decide +kernel
theorem dX7_outBrief_33 : decode cX7_outBrief 33 = .ok (.bipush 65, 2) := by decide +kernel
theorem dX7_outBrief_35 : decode cX7_outBrief 35 = .ok (.aload_n 0, 1) := by decide +kernel
theorem dX7_outBrief_36 : decode cX7_outBrief 36 = .ok (.getfield 56, 3) := by decide +kernel
theorem dX7_outBrief_39 : decode cX7_outBrief 39 = .ok (.iconst 1, 1) := by decide +kernel
theorem dX7_outBrief_40 : decode cX7_outBrief 40 = .ok (.iaload, 1) := by decide +kernel
theorem dX7_outBrief_41 : decode cX7_outBrief 41 = .ok (.iadd, 1) := by decide +kernel
theorem dX7_outBrief_42 : decode cX7_outBrief 42 = .ok (.invokevirtual 251, 3) := by decide +kernel
theorem dX7_outBrief_45 : decode cX7_outBrief 45 = .ok (.aload_n 0, 1) := by decide +kernel
theorem dX7_outBrief_46 : decode cX7_outBrief 46 = .ok (.bipush 65, 2) := by decide +kernel
theorem dX7_outBrief_48 : decode cX7_outBrief 48 = .ok (.aload_n 0, 1) := by decide +kernel
theorem dX7_outBrief_49 : decode cX7_outBrief 49 = .ok (.getfield 56, 3) := by decide +kernel
theorem dX7_outBrief_52 : decode cX7_outBrief 52 = .ok (.iconst 2, 1) := by decide +kernel
theorem dX7_outBrief_53 : decode cX7_outBrief 53 = .ok (.iaload, 1) := by decide +kernel
theorem dX7_outBrief_54 : decode cX7_outBrief 54 = .ok (.iadd, 1) := by decide +kernel
theorem dX7_outBrief_55 : decode cX7_outBrief 55 = .ok (.invokevirtual 251, 3) := by decide +kernel
theorem dX7_outBrief_58 : decode cX7_outBrief 58 = .ok (.aload_n 0, 1) := by decide +kernel
theorem dX7_outBrief_59 : decode cX7_outBrief 59 = .ok (.aload_n 0, 1) := by decide +kernel
theorem dX7_outBrief_60 : decode cX7_outBrief 60 = .ok (.getfield 56, 3) := by decide +kernel
theorem dX7_outBrief_63 : decode cX7_outBrief 63 = .ok (.iconst 3, 1) := by decide +kernel
theorem dX7_outBrief_64 : decode cX7_outBrief 64 = .ok (.iaload, 1) := by decide +kernel
theorem dX7_outBrief_65 : decode cX7_outBrief 65 = .ok (.invokevirtual 258, 3) := by decide +kernel
theorem dX7_outBrief_68 : decode cX7_outBrief 68 = .ok (.aload_n 0, 1) := by decide +kernel
theorem dX7_outBrief_69 : decode cX7_outBrief 69 = .ok (.getfield 56, 3) := by decide +kernel
theorem dX7_outBrief_72 : decode cX7_outBrief 72 = .ok (.iconst 4, 1) := by decide +kernel
theorem dX7_outBrief_73 : decode cX7_outBrief 73 = .ok (.iaload, 1) := by decide +kernel
theorem dX7_outBrief_74 : decode cX7_outBrief 74 = .ok (.ifCond .eq 80, 3) := by decide +kernel
theorem dX7_outBrief_77 : decode cX7_outBrief 77 = .ok (.aload_n 0, 1) := by decide +kernel
theorem dX7_outBrief_78 : decode cX7_outBrief 78 = .ok (.bipush 61, 2) := by decide +kernel
theorem dX7_outBrief_80 : decode cX7_outBrief 80 = .ok (.invokevirtual 251, 3) := by decide +kernel
theorem dX7_outBrief_83 : decode cX7_outBrief 83 = .ok (.aload_n 0, 1) := by decide +kernel
theorem dX7_outBrief_84 : decode cX7_outBrief 84 = .ok (.aload_n 0, 1) := by decide +kernel
theorem dX7_outBrief_85 : decode cX7_outBrief 85 = .ok (.getfield 56, 3) := by decide +kernel
theorem dX7_outBrief_88 : decode cX7_outBrief 88 = .ok (.iconst 4, 1) := by decide +kernel
theorem dX7_outBrief_89 : decode cX7_outBrief 89 = .ok (.iaload, 1) := by decide +kernel
theorem dX7_outBrief_90 : decode cX7_outBrief 90 = .ok (.invokevirtual 258, 3) := by decide +kernel
theorem dX7_outBrief_93 : decode cX7_outBrief 93 = .ok (.goto 61, 3) := by decide +kernel
theorem dX7_outBrief_96 : decode cX7_outBrief 96 = .ok (.aload_n 0, 1) := by decide +kernel
theorem dX7_outBrief_97 : decode cX7_outBrief 97 = .ok (.bipush 65, 2) := by decide +kernel
theorem dX7_outBrief_99 : decode cX7_outBrief 99 = .ok (.aload_n 0, 1) := by decide +kernel
theorem dX7_outBrief_100 : decode cX7_outBrief 100 = .ok (.getfield 56, 3) := by decide +kernel
theorem dX7_outBrief_103 : decode cX7_outBrief 103 = .ok (.iconst 5, 1) := by decide +kernel
theorem dX7_outBrief_104 : decode cX7_outBrief 104 = .ok (.iaload, 1) := by decide +kernel
theorem dX7_outBrief_105 : decode cX7_outBrief 105 = .ok (.iadd, 1) := by decide +kernel
theorem dX7_outBrief_106 : decode cX7_outBrief 106 = .ok (.invokevirtual 251, 3) := by decide +kernel
theorem dX7_outBrief_109 : decode cX7_outBrief 109 = .ok (.goto 45, 3) := by decide +kernel
theorem dX7_outBrief_112 : decode cX7_outBrief 112 = .ok (.aload_n 0, 1) := by decide +kernel
theorem dX7_outBrief_113 : decode cX7_outBrief 113 = .ok (.bipush 105, 2) := by decide +kernel
theorem dX7_outBrief_115 : decode cX7_outBrief 115 = .ok (.invokevirtual 251, 3) := by decide +kernel
theorem dX7_outBrief_118 : decode cX7_outBrief 118 = .ok (.goto 36, 3) := by decide +kernel
theorem dX7_outBrief_121 : decode cX7_outBrief 121 = .ok (.aload_n 0, 1) := by decide +kernel
theorem dX7_outBrief_122 : decode cX7_outBrief 122 = .ok (.bipush 97, 2) := by decide +kernel
theorem dX7_outBrief_124 : decode cX7_outBrief 124 = .ok (.invokevirtual 251, 3) := by decide +kernel
theorem dX7_outBrief_127 : decode cX7_outBrief 127 = .ok (.aload_n 0, 1) := by decide +kernel
theorem dX7_outBrief_128 : decode cX7_outBrief 128 = .ok (.bipush 48, 2) := by decide +kernel
theorem dX7_outBrief_130 : decode cX7_outBrief 130 = .ok (.aload_n 0, 1) := by decide +kernel
theorem dX7_outBrief_131 : decode cX7_outBrief 131 = .ok (.getfield 56, 3) := by decide +kernel
theorem dX7_outBrief_134 : decode cX7_outBrief 134 = .ok (.bipush 6, 2) := by decide +kernel
theorem dX7_outBrief_136 : decode cX7_outBrief 136 = .ok (.iaload, 1) := by decide +kernel
theorem dX7_outBrief_137 : decode cX7_outBrief 137 = .ok (.iadd, 1) := by decide +kernel
theorem dX7_outBrief_138 : decode cX7_outBrief 138 = .ok (.invokevirtual 251, 3) := by decide +kernel
theorem dX7_outBrief_141 : decode cX7_outBrief 141 = .ok (.aload_n 0, 1) := by decide +kernel
theorem dX7_outBrief_142 : decode cX7_outBrief 142 = .ok (.bipush 65, 2) := by decide +kernel
theorem dX7_outBrief_144 : decode cX7_outBrief 144 = .ok (.aload_n 0, 1) := by decide +kernel
theorem dX7_outBrief_145 : decode cX7_outBrief 145 = .ok (.getfield 56, 3) := by decide +kernel
theorem dX7_outBrief_148 : decode cX7_outBrief 148 = .ok (.iconst 5, 1) := by decide +kernel
theorem dX7_outBrief_149 : decode cX7_outBrief 149 = .ok (.iaload, 1) := by decide +kernel
theorem dX7_outBrief_150 : decode cX7_outBrief 150 = .ok (.iadd, 1) := by decide +kernel
theorem dX7_outBrief_151 : decode cX7_outBrief 151 = .ok (.invokevirtual 251, 3) := by decide +kernel
theorem dX7_outBrief_154 : decode cX7_outBrief 154 = .ok (.aload_n 0, 1) := by decide +kernel
theorem dX7_outBrief_155 : decode cX7_outBrief 155 = .ok (.getfield 56, 3) := by decide +kernel
theorem dX7_outBrief_158 : decode cX7_outBrief 158 = .ok (.bipush 7, 2) := by decide +kernel
theorem dX7_outBrief_160 : decode cX7_outBrief 160 = .ok (.iaload, 1) := by decide +kernel
theorem dX7_outBrief_161 : decode cX7_outBrief 161 = .ok (.ifCond .eq 20, 3) := by decide +kernel
theorem dX7_outBrief_164 : decode cX7_outBrief 164 = .ok (.aload_n 0, 1) := by decide +kernel
theorem dX7_outBrief_165 : decode cX7_outBrief 165 = .ok (.bipush 64, 2) := by decide +kernel
theorem dX7_outBrief_167 : decode cX7_outBrief 167 = .ok (.invokevirtual 251, 3) := by decide +kernel
theorem dX7_outBrief_170 : decode cX7_outBrief 170 = .ok (.aload_n 0, 1) := by decide +kernel
theorem dX7_outBrief_171 : decode cX7_outBrief 171 = .ok (.aload_n 0, 1) := by decide +kernel
theorem dX7_outBrief_172 : decode cX7_outBrief 172 = .ok (.getfield 56, 3) := by decide +kernel
theorem dX7_outBrief_175 : decode cX7_outBrief 175 = .ok (.bipush 7, 2) := by decide +kernel
theorem dX7_outBrief_177 : decode cX7_outBrief 177 = .ok (.iaload, 1) := by decide +kernel
theorem dX7_outBrief_178 : decode cX7_outBrief 178 = .ok (.invokevirtual 255, 3) := by decide +kernel
theorem dX7_outBrief_181 : decode cX7_outBrief 181 = .ok (.return_, 1) := by decide +kernel
set_option maxRecDepth 20000 in
theorem ggX7_layPrinted_X7_findAll : GoodIn wsX7_layPrinted wsX7_findAll := goodIn_r _ [8, 9, 10, 7, 11, 12, 13, 14, 15, 16, 17, 18, 19, 20, 21, 22, 23, 24, 25, 26, 27, 28, 29, 30, 31, 32, 33, 34, 35, 36, 37, 38, 39, 40, 41, 42, 43, 44, 45, 46, 47, 48, 49, 50, 51, 52, 53, 54, 55, 56, 57, 58, 59, 60, 61, 62, 63, 64, 65, 66, 67, 68, 69, 70, 71, 72, 73, 74, 75, 111, 112, 113, 114, 115, 116, 117, 118, 119, 120, 121, 122, 123, 124, 125, 126, 127, 128, 129, 130, 131, 132, 133, 134, 135, 136, 137, 138] (by decide +kernel) (by decide +kernel)
set_option maxRecDepth 20000 in
theorem gX7_layPrinted_X7_findAll : GoodIn wsX7_layPrinted (wsV RX7 194 RX7 yX7_findAll wsX7_findAll) := goodIn_app (goodIn_of _ (by decide +kernel)) ggX7_layPrinted_X7_findAll
set_option maxRecDepth 20000 in
theorem ggX7_layPrinted_X7_isThere : GoodIn wsX7_layPrinted wsX7_isThere := goodIn_r _ [34, 35, 36, 7, 37] (by decide +kernel) (by decide +kernel)
set_option maxRecDepth 20000 in
theorem gX7_layPrinted_X7_isThere : GoodIn wsX7_layPrinted (va_wsS RX7 76 yX7_isThere wsX7_isThere) := goodIn_app (goodIn_of _ (by decide +kernel)) ggX7_layPrinted_X7_isThere
set_option maxRecDepth 20000 in
theorem ggX7_layPrinted_X7_out : GoodIn wsX7_layPrinted wsX7_out := goodIn_r _ [79, 80, 2, 111, 112, 113, 114, 115, 116, 117, 118, 119, 120, 121, 122, 123, 124, 125, 126, 127, 128, 129, 130, 131, 132, 133, 134, 135, 136, 137, 138] (by decide +kernel) (by decide +kernel)
set_option maxRecDepth 20000 in
theorem gX7_layPrinted_X7_out : GoodIn wsX7_layPrinted (wsV RX7 251 RX7 yX7_out wsX7_out) := goodIn_app (goodIn_of _ (by decide +kernel)) ggX7_layPrinted_X7_out
set_option maxRecDepth 20000 in
theorem ggX7_layPrinted_X7_shorten : GoodIn wsX7_layPrinted wsX7_shorten := goodIn_r _ [84, 3, 16, 41, 42, 7, 43, 85, 86, 87, 9, 10, 11, 26, 27, 28, 29, 30, 31, 32, 33, 34, 35, 36, 37, 38, 39, 40, 88, 89, 90, 47, 48, 49, 68, 69, 70, 71, 25, 54, 55, 56, 57, 18, 58, 59, 60, 61, 62, 63, 64, 65, 66, 67, 24, 72, 73, 74, 75, 91, 92, 93, 94, 95, 96, 97, 98, 111, 112, 113, 114, 115, 116, 117, 118, 119, 120, 121, 122, 123, 124, 125, 126, 127, 128, 129, 130, 131, 132, 133, 134, 135, 136, 137, 138] (by decide +kernel) (by decide +kernel)
set_option maxRecDepth 20000 in
theorem gX7_layPrinted_X7_shorten : GoodIn wsX7_layPrinted (wsV RX7 242 RX7 yX7_shorten wsX7_shorten) := goodIn_app (goodIn_of _ (by decide +kernel)) ggX7_layPrinted_X7_shorten
set_option maxRecDepth 20000 in
theorem ggX7_layPrinted_X7_ref : GoodIn wsX7_layPrinted wsX7_ref := goodIn_r _ [43] (by decide +kernel) (by decide +kernel)
set_option maxRecDepth 20000 in
theorem gX7_layPrinted_X7_ref : GoodIn wsX7_layPrinted (va_wsS RX7 136 yX7_ref wsX7_ref) := goodIn_app (goodIn_of _ (by decide +kernel)) ggX7_layPrinted_X7_ref
set_option maxRecDepth 20000 in
theorem ggX7_layPrinted_X7_outBrief : GoodIn wsX7_layPrinted wsX7_outBrief := goodIn_r _ [102, 3, 76, 77, 78, 7, 79, 80, 2, 103, 104, 105, 106, 107, 108, 109, 110, 111, 112, 113, 114, 115, 116, 117, 118, 119, 120, 121, 122, 123, 124, 125, 126, 127, 128, 129, 130, 131, 132, 133, 134, 135, 136, 137, 138] (by decide +kernel) (by decide +kernel)
set_option maxRecDepth 20000 in
theorem gX7_layPrinted_X7_outBrief : GoodIn wsX7_layPrinted (wsV RX7 261 RX7 yX7_outBrief wsX7_outBrief) := goodIn_app (goodIn_of _ (by decide +kernel)) ggX7_layPrinted_X7_outBrief
theorem dX7_layPrinted_0 : decode cX7_layPrinted 0 = .ok (.aload_n 0, 1) := by decide +kernel
theorem dX7_layPrinted_1 : decode cX7_layPrinted 1 = .ok (.aload_n 0, 1) := by decide +kernel
theorem dX7_layPrinted_2 : decode cX7_layPrinted 2 = .ok (.getfield 16, 3) := by decide +kernel
theorem dX7_layPrinted_5 : decode cX7_layPrinted 5 = .ok (.invokevirtual 194, 3) := by decide +kernel
theorem dX7_layPrinted_8 : decode cX7_layPrinted 8 = .ok (.aload_n 0, 1) := by decide +kernel
theorem dX7_layPrinted_9 : decode cX7_layPrinted 9 = .ok (.iconst 0, 1) := by decide +kernel
theorem dX7_layPrinted_10 : decode cX7_layPrinted 10 = .ok (.putfield 248, 3) := by decide +kernel
theorem dX7_layPrinted_13 : decode cX7_layPrinted 13 = .ok (.iconst 0, 1) := by decide +kernel
theorem dX7_layPrinted_14 : decode cX7_layPrinted 14 = .ok (.istore_n 2, 1) := by decide +kernel
theorem dX7_layPrinted_15 : decode cX7_layPrinted 15 = .ok (.iload_n 2, 1) := by decide +kernel
theorem dX7_layPrinted_16 : decode cX7_layPrinted 16 = .ok (.bipush 32, 2) := by decide +kernel
theorem dX7_layPrinted_18 : decode cX7_layPrinted 18 = .ok (.if_icmp .ge 96, 3) := by decide +kernel
theorem dX7_layPrinted_21 : decode cX7_layPrinted 21 = .ok (.aload_n 0, 1) := by decide +kernel
theorem dX7_layPrinted_22 : decode cX7_layPrinted 22 = .ok (.getfield 16, 3) := by decide +kernel
theorem dX7_layPrinted_25 : decode cX7_layPrinted 25 = .ok (.iload_n 2, 1) := by decide +kernel
theorem dX7_layPrinted_26 : decode cX7_layPrinted 26 = .ok (.iconst 4, 1) := by decide +kernel
theorem dX7_layPrinted_27 : decode cX7_layPrinted 27 = .ok (.idiv, 1) := by decide +kernel
theorem dX7_layPrinted_28 : decode cX7_layPrinted 28 = .ok (.iload_n 2, 1) := by decide +kernel
theorem dX7_layPrinted_29 : decode cX7_layPrinted 29 = .ok (.iconst 4, 1) := by decide +kernel
theorem dX7_layPrinted_30 : decode cX7_layPrinted 30 = .ok (.irem, 1) := by decide +kernel
theorem dX7_layPrinted_31 : decode cX7_layPrinted 31 = .ok (.invokestatic 76, 3) := by decide +kernel
theorem dX7_layPrinted_34 : decode cX7_layPrinted 34 = .ok (.ifCond .eq 74, 3) := by decide +kernel
theorem dX7_layPrinted_37 : decode cX7_layPrinted 37 = .ok (.iload_n 2, 1) := by decide +kernel
theorem dX7_layPrinted_38 : decode cX7_layPrinted 38 = .ok (.ifCond .le 20, 3) := by decide +kernel
theorem dX7_layPrinted_41 : decode cX7_layPrinted 41 = .ok (.aload_n 0, 1) := by decide +kernel
theorem dX7_layPrinted_42 : decode cX7_layPrinted 42 = .ok (.iload_n 2, 1) := by decide +kernel
theorem dX7_layPrinted_43 : decode cX7_layPrinted 43 = .ok (.iconst 4, 1) := by decide +kernel
theorem dX7_layPrinted_44 : decode cX7_layPrinted 44 = .ok (.irem, 1) := by decide +kernel
theorem dX7_layPrinted_45 : decode cX7_layPrinted 45 = .ok (.ifCond .le 8, 3) := by decide +kernel
theorem dX7_layPrinted_48 : decode cX7_layPrinted 48 = .ok (.bipush 44, 2) := by decide +kernel
theorem dX7_layPrinted_50 : decode cX7_layPrinted 50 = .ok (.goto 5, 3) := by decide +kernel
theorem dX7_layPrinted_53 : decode cX7_layPrinted 53 = .ok (.bipush 59, 2) := by decide +kernel
theorem dX7_layPrinted_55 : decode cX7_layPrinted 55 = .ok (.invokevirtual 251, 3) := by decide +kernel
theorem dX7_layPrinted_58 : decode cX7_layPrinted 58 = .ok (.iload_n 1, 1) := by decide +kernel
theorem dX7_layPrinted_59 : decode cX7_layPrinted 59 = .ok (.iconst 1, 1) := by decide +kernel
theorem dX7_layPrinted_60 : decode cX7_layPrinted 60 = .ok (.if_icmp .ne 15, 3) := by decide +kernel
theorem dX7_layPrinted_63 : decode cX7_layPrinted 63 = .ok (.aload_n 0, 1) := by decide +kernel
theorem dX7_layPrinted_64 : decode cX7_layPrinted 64 = .ok (.aload_n 0, 1) := by decide +kernel
theorem dX7_layPrinted_65 : decode cX7_layPrinted 65 = .ok (.getfield 16, 3) := by decide +kernel
theorem dX7_layPrinted_68 : decode cX7_layPrinted 68 = .ok (.iload_n 2, 1) := by decide +kernel
theorem dX7_layPrinted_69 : decode cX7_layPrinted 69 = .ok (.invokevirtual 242, 3) := by decide +kernel
theorem dX7_layPrinted_72 : decode cX7_layPrinted 72 = .ok (.goto 32, 3) := by decide +kernel
theorem dX7_layPrinted_75 : decode cX7_layPrinted 75 = .ok (.iconst 0, 1) := by decide +kernel
theorem dX7_layPrinted_76 : decode cX7_layPrinted 76 = .ok (.istore_n 3, 1) := by decide +kernel
theorem dX7_layPrinted_77 : decode cX7_layPrinted 77 = .ok (.iload_n 3, 1) := by decide +kernel
theorem dX7_layPrinted_78 : decode cX7_layPrinted 78 = .ok (.bipush 8, 2) := by decide +kernel
theorem dX7_layPrinted_80 : decode cX7_layPrinted 80 = .ok (.if_icmp .ge 24, 3) := by decide +kernel
theorem dX7_layPrinted_83 : decode cX7_layPrinted 83 = .ok (.aload_n 0, 1) := by decide +kernel
theorem dX7_layPrinted_84 : decode cX7_layPrinted 84 = .ok (.getfield 56, 3) := by decide +kernel
theorem dX7_layPrinted_87 : decode cX7_layPrinted 87 = .ok (.iload_n 3, 1) := by decide +kernel
theorem dX7_layPrinted_88 : decode cX7_layPrinted 88 = .ok (.aload_n 0, 1) := by decide +kernel
theorem dX7_layPrinted_89 : decode cX7_layPrinted 89 = .ok (.getfield 16, 3) := by decide +kernel
theorem dX7_layPrinted_92 : decode cX7_layPrinted 92 = .ok (.iload_n 2, 1) := by decide +kernel
theorem dX7_layPrinted_93 : decode cX7_layPrinted 93 = .ok (.iload_n 3, 1) := by decide +kernel
theorem dX7_layPrinted_94 : decode cX7_layPrinted 94 = .ok (.invokestatic 136, 3) := by decide +kernel
theorem dX7_layPrinted_97 : decode cX7_layPrinted 97 = .ok (.iastore, 1) := by decide +kernel
theorem dX7_layPrinted_98 : decode cX7_layPrinted 98 = .ok (.iinc 3 1, 3) := by decide +kernel
theorem dX7_layPrinted_101 : decode cX7_layPrinted 101 = .ok (.goto (-24), 3) := by decide +kernel
theorem dX7_layPrinted_104 : decode cX7_layPrinted 104 = .ok (.aload_n 0, 1) := by decide +kernel
theorem dX7_layPrinted_105 : decode cX7_layPrinted 105 = .ok (.invokevirtual 261, 3) := by decide +kernel
theorem dX7_layPrinted_108 : decode cX7_layPrinted 108 = .ok (.iinc 2 1, 3) := by decide +kernel
theorem dX7_layPrinted_111 : decode cX7_layPrinted 111 = .ok (.goto (-96), 3) := by decide +kernel
theorem dX7_layPrinted_114 : decode cX7_layPrinted 114 = .ok (.return_, 1) := by decide +kernel
set_option maxRecDepth 20000 in
theorem ggX7_print_X7_in : GoodIn wsX7_print wsX7_in := goodIn_r _ [7] (by decide +kernel) (by decide +kernel)
set_option maxRecDepth 20000 in
theorem gX7_print_X7_in : GoodIn wsX7_print (va_wsS RX7 72 yX7_in wsX7_in) := goodIn_app (goodIn_of _ (by decide +kernel)) ggX7_print_X7_in
set_option maxRecDepth 20000 in
theorem ggX7_print_X7_layPrinted : GoodIn wsX7_print wsX7_layPrinted := goodIn_r _ [11, 12, 2, 13, 14, 15, 16, 6, 17, 18, 19, 20, 21, 22, 23, 24, 25, 26, 27, 28, 29, 30, 31, 32, 33, 34, 35, 36, 37, 38, 39, 40, 41, 42, 43, 4, 5, 7, 44, 45, 46, 47, 48, 49, 50, 51, 52, 53, 54, 55, 56, 57, 58, 59, 60, 61, 62, 63, 64, 65, 66, 67, 68, 69, 70, 71, 72, 73, 74, 75, 76, 77, 78, 79, 80, 81, 82, 83, 84, 85, 3, 86, 87, 88, 89, 90, 91, 92, 93, 94, 95, 96, 97, 98, 99, 100, 101, 102, 103, 104, 105, 106, 107, 108, 109, 110, 111, 112, 113, 114, 115, 116, 117, 118, 119, 120, 121, 122, 123, 124, 125, 126, 127, 128, 129, 130, 131, 132, 133, 134, 135, 136, 137, 138, 139, 140, 141, 142, 143] (by decide +kernel) (by decide +kernel)
set_option maxRecDepth 20000 in
theorem gX7_print_X7_layPrinted : GoodIn wsX7_print (wsV RX7 264 RX7 yX7_layPrinted wsX7_layPrinted) := goodIn_app (goodIn_of _ (by decide +kernel)) ggX7_print_X7_layPrinted
theorem dX7_print_0 : decode cX7_print 0 = .ok (.aload_n 0, 1) := by decide +kernel
theorem dX7_print_1 : decode cX7_print 1 = .ok (.iconst 0, 1) := by decide +kernel
theorem dX7_print_2 : decode cX7_print 2 = .ok (.putfield 68, 3) := by decide +kernel
theorem dX7_print_5 : decode cX7_print 5 = .ok (.iload_n 1, 1) := by decide +kernel
theorem dX7_print_6 : decode cX7_print 6 = .ok (.i2l, 1) := by decide +kernel
theorem dX7_print_7 : decode cX7_print 7 = .ok (.lconst 0, 1) := by decide +kernel
theorem dX7_print_8 : decode cX7_print 8 = .ok (.lconst 1, 1) := by decide +kernel
theorem dX7_print_9 : decode cX7_print 9 = .ok (.invokestatic 72, 3) := by decide +kernel
theorem dX7_print_12 : decode cX7_print 12 = .ok (.ifCond .eq 8, 3) := by decide +kernel
theorem dX7_print_15 : decode cX7_print 15 = .ok (.iload_n 2, 1) := by decide +kernel
theorem dX7_print_16 : decode cX7_print 16 = .ok (.iconst (-1), 1) := by decide +kernel
theorem dX7_print_17 : decode cX7_print 17 = .ok (.if_icmp .ge 6, 3) := by decide +kernel
theorem dX7_print_20 : decode cX7_print 20 = .ok (.bipush (-2), 2) := by decide +kernel
theorem dX7_print_22 : decode cX7_print 22 = .ok (.ireturn, 1) := by decide +kernel
theorem dX7_print_23 : decode cX7_print 23 = .ok (.aload_n 0, 1) := by decide +kernel
theorem dX7_print_24 : decode cX7_print 24 = .ok (.iload_n 1, 1) := by decide +kernel
theorem dX7_print_25 : decode cX7_print 25 = .ok (.invokevirtual 264, 3) := by decide +kernel
theorem dX7_print_28 : decode cX7_print 28 = .ok (.iload_n 2, 1) := by decide +kernel
theorem dX7_print_29 : decode cX7_print 29 = .ok (.iconst (-1), 1) := by decide +kernel
theorem dX7_print_30 : decode cX7_print 30 = .ok (.if_icmp .ne 10, 3) := by decide +kernel
theorem dX7_print_33 : decode cX7_print 33 = .ok (.aload_n 0, 1) := by decide +kernel
theorem dX7_print_34 : decode cX7_print 34 = .ok (.getfield 248, 3) := by decide +kernel
theorem dX7_print_37 : decode cX7_print 37 = .ok (.goto 22, 3) := by decide +kernel
theorem dX7_print_40 : decode cX7_print 40 = .ok (.iload_n 2, 1) := by decide +kernel
theorem dX7_print_41 : decode cX7_print 41 = .ok (.aload_n 0, 1) := by decide +kernel
theorem dX7_print_42 : decode cX7_print 42 = .ok (.getfield 248, 3) := by decide +kernel
theorem dX7_print_45 : decode cX7_print 45 = .ok (.if_icmp .ge 12, 3) := by decide +kernel
theorem dX7_print_48 : decode cX7_print 48 = .ok (.aload_n 0, 1) := by decide +kernel
theorem dX7_print_49 : decode cX7_print 49 = .ok (.getfield 59, 3) := by decide +kernel
theorem dX7_print_52 : decode cX7_print 52 = .ok (.iload_n 2, 1) := by decide +kernel
theorem dX7_print_53 : decode cX7_print 53 = .ok (.iaload, 1) := by decide +kernel
theorem dX7_print_54 : decode cX7_print 54 = .ok (.goto 5, 3) := by decide +kernel
theorem dX7_print_57 : decode cX7_print 57 = .ok (.bipush (-9), 2) := by decide +kernel
theorem dX7_print_59 : decode cX7_print 59 = .ok (.ireturn, 1) := by decide +kernel
theorem dX7_note_0 : decode cX7_note 0 = .ok (.aload_n 0, 1) := by decide +kernel
theorem dX7_note_1 : decode cX7_note 1 = .ok (.getfield 131, 3) := by decide +kernel
theorem dX7_note_4 : decode cX7_note 4 = .ok (.bipush 14, 2) := by decide +kernel
theorem dX7_note_6 : decode cX7_note 6 = .ok (.if_icmp .ne 44, 3) := by decide +kernel
theorem dX7_note_9 : decode cX7_note 9 = .ok (.iconst 0, 1) := by decide +kernel
theorem dX7_note_10 : decode cX7_note 10 = .ok (.istore_n 1, 1) := by decide +kernel
theorem dX7_note_11 : decode cX7_note 11 = .ok (.iload_n 1, 1) := by decide +kernel
theorem dX7_note_12 : decode cX7_note 12 = .ok (.sipush 3445, 3) := by decide +kernel
theorem dX7_note_15 : decode cX7_note 15 = .ok (.if_icmp .ge 25, 3) := by decide +kernel
theorem dX7_note_18 : decode cX7_note 18 = .ok (.aload_n 0, 1) := by decide +kernel
theorem dX7_note_19 : decode cX7_note 19 = .ok (.getfield 25, 3) := by decide +kernel
theorem dX7_note_22 : decode cX7_note 22 = .ok (.iload_n 1, 1) := by decide +kernel
theorem dX7_note_23 : decode cX7_note 23 = .ok (.aload_n 0, 1) := by decide +kernel
theorem dX7_note_24 : decode cX7_note 24 = .ok (.getfield 25, 3) := by decide +kernel
theorem dX7_note_27 : decode cX7_note 27 = .ok (.iload_n 1, 1) := by decide +kernel
theorem dX7_note_28 : decode cX7_note 28 = .ok (.sipush 265, 3) := by decide +kernel
theorem dX7_note_31 : decode cX7_note 31 = .ok (.iadd, 1) := by decide +kernel
theorem dX7_note_32 : decode cX7_note 32 = .ok (.iaload, 1) := by decide +kernel
theorem dX7_note_33 : decode cX7_note 33 = .ok (.iastore, 1) := by decide +kernel
theorem dX7_note_34 : decode cX7_note 34 = .ok (.iinc 1 1, 3) := by decide +kernel
theorem dX7_note_37 : decode cX7_note 37 = .ok (.goto (-26), 3) := by decide +kernel
theorem dX7_note_40 : decode cX7_note 40 = .ok (.aload_n 0, 1) := by decide +kernel
theorem dX7_note_41 : decode cX7_note 41 = .ok (.dup, 1) := by decide +kernel
theorem dX7_note_42 : decode cX7_note 42 = .ok (.getfield 131, 3) := by decide +kernel
theorem dX7_note_45 : decode cX7_note 45 = .ok (.iconst 1, 1) := by decide +kernel
theorem dX7_note_46 : decode cX7_note 46 = .ok (.isub, 1) := by decide +kernel
theorem dX7_note_47 : decode cX7_note 47 = .ok (.putfield 131, 3) := by decide +kernel
theorem dX7_note_50 : decode cX7_note 50 = .ok (.iconst 0, 1) := by decide +kernel
theorem dX7_note_51 : decode cX7_note 51 = .ok (.istore_n 1, 1) := by decide +kernel
theorem dX7_note_52 : decode cX7_note 52 = .ok (.iload_n 1, 1) := by decide +kernel
theorem dX7_note_53 : decode cX7_note 53 = .ok (.sipush 265, 3) := by decide +kernel
theorem dX7_note_56 : decode cX7_note 56 = .ok (.if_icmp .ge 30, 3) := by decide +kernel
theorem dX7_note_59 : decode cX7_note 59 = .ok (.aload_n 0, 1) := by decide +kernel
theorem dX7_note_60 : decode cX7_note 60 = .ok (.getfield 25, 3) := by decide +kernel
theorem dX7_note_63 : decode cX7_note 63 = .ok (.sipush 265, 3) := by decide +kernel
theorem dX7_note_66 : decode cX7_note 66 = .ok (.aload_n 0, 1) := by decide +kernel
theorem dX7_note_67 : decode cX7_note 67 = .ok (.getfield 131, 3) := by decide +kernel
theorem dX7_note_70 : decode cX7_note 70 = .ok (.imul, 1) := by decide +kernel
theorem dX7_note_71 : decode cX7_note 71 = .ok (.iload_n 1, 1) := by decide +kernel
theorem dX7_note_72 : decode cX7_note 72 = .ok (.iadd, 1) := by decide +kernel
theorem dX7_note_73 : decode cX7_note 73 = .ok (.aload_n 0, 1) := by decide +kernel
theorem dX7_note_74 : decode cX7_note 74 = .ok (.getfield 16, 3) := by decide +kernel
theorem dX7_note_77 : decode cX7_note 77 = .ok (.iload_n 1, 1) := by decide +kernel
theorem dX7_note_78 : decode cX7_note 78 = .ok (.iaload, 1) := by decide +kernel
theorem dX7_note_79 : decode cX7_note 79 = .ok (.iastore, 1) := by decide +kernel
theorem dX7_note_80 : decode cX7_note 80 = .ok (.iinc 1 1, 3) := by decide +kernel
theorem dX7_note_83 : decode cX7_note 83 = .ok (.goto (-31), 3) := by decide +kernel
theorem dX7_note_86 : decode cX7_note 86 = .ok (.aload_n 0, 1) := by decide +kernel
theorem dX7_note_87 : decode cX7_note 87 = .ok (.dup, 1) := by decide +kernel
theorem dX7_note_88 : decode cX7_note 88 = .ok (.getfield 131, 3) := by decide +kernel
theorem dX7_note_91 : decode cX7_note 91 = .ok (.iconst 1, 1) := by decide +kernel
theorem dX7_note_92 : decode cX7_note 92 = .ok (.iadd, 1) := by decide +kernel
theorem dX7_note_93 : decode cX7_note 93 = .ok (.putfield 131, 3) := by decide +kernel
theorem dX7_note_96 : decode cX7_note 96 = .ok (.return_, 1) := by decide +kernel
set_option maxRecDepth 20000 in
theorem ggX7_rename_X7_ref : GoodIn wsX7_rename wsX7_ref := goodIn_r _ [5] (by decide +kernel) (by decide +kernel)
set_option maxRecDepth 20000 in
theorem gX7_rename_X7_ref : GoodIn wsX7_rename (va_wsS RX7 136 yX7_ref wsX7_ref) := goodIn_app (goodIn_of _ (by decide +kernel)) ggX7_rename_X7_ref
set_option maxRecDepth 20000 in
theorem ggX7_rename_X7_isThere : GoodIn wsX7_rename wsX7_isThere := goodIn_r _ [8, 9, 10, 4, 11] (by decide +kernel) (by decide +kernel)
set_option maxRecDepth 20000 in
theorem gX7_rename_X7_isThere : GoodIn wsX7_rename (va_wsS RX7 76 yX7_isThere wsX7_isThere) := goodIn_app (goodIn_of _ (by decide +kernel)) ggX7_rename_X7_isThere
theorem dX7_rename_0 : decode cX7_rename 0 = .ok (.iconst 0, 1) := by decide +kernel
theorem dX7_rename_1 : decode cX7_rename 1 = .ok (.istore_n 3, 1) := by decide +kernel
theorem dX7_rename_2 : decode cX7_rename 2 = .ok (.iload_n 3, 1) := by decide +kernel
theorem dX7_rename_3 : decode cX7_rename 3 = .ok (.bipush 32, 2) := by decide +kernel
theorem dX7_rename_5 : decode cX7_rename 5 = .ok (.if_icmp .ge 78, 3) := by decide +kernel
theorem dX7_rename_8 : decode cX7_rename 8 = .ok (.aload_n 1, 1) := by decide +kernel
theorem dX7_rename_9 : decode cX7_rename 9 = .ok (.iload_n 3, 1) := by decide +kernel
theorem dX7_rename_10 : decode cX7_rename 10 = .ok (.bipush 6, 2) := by decide +kernel
theorem dX7_rename_12 : decode cX7_rename 12 = .ok (.invokestatic 136, 3) := by decide +kernel
theorem dX7_rename_15 : decode cX7_rename 15 = .ok (.istore 4, 2) := by decide +kernel
theorem dX7_rename_17 : decode cX7_rename 17 = .ok (.aload_n 1, 1) := by decide +kernel
theorem dX7_rename_18 : decode cX7_rename 18 = .ok (.iload_n 3, 1) := by decide +kernel
theorem dX7_rename_19 : decode cX7_rename 19 = .ok (.iconst 0, 1) := by decide +kernel
theorem dX7_rename_20 : decode cX7_rename 20 = .ok (.invokestatic 136, 3) := by decide +kernel
theorem dX7_rename_23 : decode cX7_rename 23 = .ok (.iconst 3, 1) := by decide +kernel
theorem dX7_rename_24 : decode cX7_rename 24 = .ok (.if_icmp .ne 53, 3) := by decide +kernel
theorem dX7_rename_27 : decode cX7_rename 27 = .ok (.aload_n 1, 1) := by decide +kernel
theorem dX7_rename_28 : decode cX7_rename 28 = .ok (.iload_n 3, 1) := by decide +kernel
theorem dX7_rename_29 : decode cX7_rename 29 = .ok (.iconst 4, 1) := by decide +kernel
theorem dX7_rename_30 : decode cX7_rename 30 = .ok (.idiv, 1) := by decide +kernel
theorem dX7_rename_31 : decode cX7_rename 31 = .ok (.iload_n 3, 1) := by decide +kernel
theorem dX7_rename_32 : decode cX7_rename 32 = .ok (.iconst 4, 1) := by decide +kernel
theorem dX7_rename_33 : decode cX7_rename 33 = .ok (.irem, 1) := by decide +kernel
theorem dX7_rename_34 : decode cX7_rename 34 = .ok (.invokestatic 76, 3) := by decide +kernel
theorem dX7_rename_37 : decode cX7_rename 37 = .ok (.ifCond .eq 40, 3) := by decide +kernel
theorem dX7_rename_40 : decode cX7_rename 40 = .ok (.iload 4, 2) := by decide +kernel
theorem dX7_rename_42 : decode cX7_rename 42 = .ok (.iload_n 2, 1) := by decide +kernel
theorem dX7_rename_43 : decode cX7_rename 43 = .ok (.if_icmp .ge 34, 3) := by decide +kernel
theorem dX7_rename_46 : decode cX7_rename 46 = .ok (.aload_n 0, 1) := by decide +kernel
theorem dX7_rename_47 : decode cX7_rename 47 = .ok (.getfield 62, 3) := by decide +kernel
theorem dX7_rename_50 : decode cX7_rename 50 = .ok (.iload 4, 2) := by decide +kernel
theorem dX7_rename_52 : decode cX7_rename 52 = .ok (.iaload, 1) := by decide +kernel
theorem dX7_rename_53 : decode cX7_rename 53 = .ok (.bipush (-9), 2) := by decide +kernel
theorem dX7_rename_55 : decode cX7_rename 55 = .ok (.if_icmp .eq 22, 3) := by decide +kernel
theorem dX7_rename_58 : decode cX7_rename 58 = .ok (.aload_n 1, 1) := by decide +kernel
theorem dX7_rename_59 : decode cX7_rename 59 = .ok (.bipush 9, 2) := by decide +kernel
theorem dX7_rename_61 : decode cX7_rename 61 = .ok (.bipush 8, 2) := by decide +kernel
theorem dX7_rename_63 : decode cX7_rename 63 = .ok (.iload_n 3, 1) := by decide +kernel
theorem dX7_rename_64 : decode cX7_rename 64 = .ok (.imul, 1) := by decide +kernel
theorem dX7_rename_65 : decode cX7_rename 65 = .ok (.iadd, 1) := by decide +kernel
theorem dX7_rename_66 : decode cX7_rename 66 = .ok (.bipush 6, 2) := by decide +kernel
theorem dX7_rename_68 : decode cX7_rename 68 = .ok (.iadd, 1) := by decide +kernel
theorem dX7_rename_69 : decode cX7_rename 69 = .ok (.aload_n 0, 1) := by decide +kernel
theorem dX7_rename_70 : decode cX7_rename 70 = .ok (.getfield 62, 3) := by decide +kernel
theorem dX7_rename_73 : decode cX7_rename 73 = .ok (.iload 4, 2) := by decide +kernel
theorem dX7_rename_75 : decode cX7_rename 75 = .ok (.iaload, 1) := by decide +kernel
theorem dX7_rename_76 : decode cX7_rename 76 = .ok (.iastore, 1) := by decide +kernel
theorem dX7_rename_77 : decode cX7_rename 77 = .ok (.iinc 3 1, 3) := by decide +kernel
theorem dX7_rename_80 : decode cX7_rename 80 = .ok (.goto (-78), 3) := by decide +kernel
theorem dX7_rename_83 : decode cX7_rename 83 = .ok (.return_, 1) := by decide +kernel
theorem dX7_copyNote_0 : decode cX7_copyNote 0 = .ok (.aload_n 0, 1) := by decide +kernel
theorem dX7_copyNote_1 : decode cX7_copyNote 1 = .ok (.iconst 1, 1) := by decide +kernel
theorem dX7_copyNote_2 : decode cX7_copyNote 2 = .ok (.iload_n 1, 1) := by decide +kernel
theorem dX7_copyNote_3 : decode cX7_copyNote 3 = .ok (.iadd, 1) := by decide +kernel
theorem dX7_copyNote_4 : decode cX7_copyNote 4 = .ok (.aload_n 2, 1) := by decide +kernel
theorem dX7_copyNote_5 : decode cX7_copyNote 5 = .ok (.iconst 1, 1) := by decide +kernel
theorem dX7_copyNote_6 : decode cX7_copyNote 6 = .ok (.iload_n 3, 1) := by decide +kernel
theorem dX7_copyNote_7 : decode cX7_copyNote 7 = .ok (.iadd, 1) := by decide +kernel
theorem dX7_copyNote_8 : decode cX7_copyNote 8 = .ok (.iaload, 1) := by decide +kernel
theorem dX7_copyNote_9 : decode cX7_copyNote 9 = .ok (.iastore, 1) := by decide +kernel
theorem dX7_copyNote_10 : decode cX7_copyNote 10 = .ok (.iconst 0, 1) := by decide +kernel
theorem dX7_copyNote_11 : decode cX7_copyNote 11 = .ok (.istore 4, 2) := by decide +kernel
theorem dX7_copyNote_13 : decode cX7_copyNote 13 = .ok (.iload 4, 2) := by decide +kernel
theorem dX7_copyNote_15 : decode cX7_copyNote 15 = .ok (.bipush 32, 2) := by decide +kernel
theorem dX7_copyNote_17 : decode cX7_copyNote 17 = .ok (.if_icmp .ge 33, 3) := by decide +kernel
theorem dX7_copyNote_20 : decode cX7_copyNote 20 = .ok (.aload_n 0, 1) := by decide +kernel
theorem dX7_copyNote_21 : decode cX7_copyNote 21 = .ok (.bipush 9, 2) := by decide +kernel
theorem dX7_copyNote_23 : decode cX7_copyNote 23 = .ok (.bipush 32, 2) := by decide +kernel
theorem dX7_copyNote_25 : decode cX7_copyNote 25 = .ok (.iload_n 1, 1) := by decide +kernel
theorem dX7_copyNote_26 : decode cX7_copyNote 26 = .ok (.imul, 1) := by decide +kernel
theorem dX7_copyNote_27 : decode cX7_copyNote 27 = .ok (.iadd, 1) := by decide +kernel
theorem dX7_copyNote_28 : decode cX7_copyNote 28 = .ok (.iload 4, 2) := by decide +kernel
theorem dX7_copyNote_30 : decode cX7_copyNote 30 = .ok (.iadd, 1) := by decide +kernel
theorem dX7_copyNote_31 : decode cX7_copyNote 31 = .ok (.aload_n 2, 1) := by decide +kernel
theorem dX7_copyNote_32 : decode cX7_copyNote 32 = .ok (.bipush 9, 2) := by decide +kernel
theorem dX7_copyNote_34 : decode cX7_copyNote 34 = .ok (.bipush 32, 2) := by decide +kernel
theorem dX7_copyNote_36 : decode cX7_copyNote 36 = .ok (.iload_n 3, 1) := by decide +kernel
theorem dX7_copyNote_37 : decode cX7_copyNote 37 = .ok (.imul, 1) := by decide +kernel
theorem dX7_copyNote_38 : decode cX7_copyNote 38 = .ok (.iadd, 1) := by decide +kernel
theorem dX7_copyNote_39 : decode cX7_copyNote 39 = .ok (.iload 4, 2) := by decide +kernel
theorem dX7_copyNote_41 : decode cX7_copyNote 41 = .ok (.iadd, 1) := by decide +kernel
theorem dX7_copyNote_42 : decode cX7_copyNote 42 = .ok (.iaload, 1) := by decide +kernel
theorem dX7_copyNote_43 : decode cX7_copyNote 43 = .ok (.iastore, 1) := by decide +kernel
theorem dX7_copyNote_44 : decode cX7_copyNote 44 = .ok (.iinc 4 1, 3) := by decide +kernel
theorem dX7_copyNote_47 : decode cX7_copyNote 47 = .ok (.goto (-34), 3) := by decide +kernel
theorem dX7_copyNote_50 : decode cX7_copyNote 50 = .ok (.return_, 1) := by decide +kernel
set_option maxRecDepth 20000 in
theorem ggX7_put_X7_in : GoodIn wsX7_put wsX7_in := goodIn_r _ [8] (by decide +kernel) (by decide +kernel)
set_option maxRecDepth 20000 in
theorem gX7_put_X7_in : GoodIn wsX7_put (va_wsS RX7 72 yX7_in wsX7_in) := goodIn_app (goodIn_of _ (by decide +kernel)) ggX7_put_X7_in
set_option maxRecDepth 20000 in
theorem ggX7_put_X7_readPaper : GoodIn wsX7_put wsX7_readPaper := goodIn_r _ [12, 3, 13, 14, 15, 16, 17, 7, 18, 19, 20, 21, 22, 23, 24, 25, 26, 27, 28, 29, 30, 31, 5, 6, 8, 32, 33, 34, 35, 36, 37, 38, 39, 40, 41, 42, 43, 44, 45, 46, 47, 48, 49, 69, 70, 71, 72, 73, 74, 75, 76, 77, 78, 79, 80, 81, 82, 83, 84, 85, 86, 87, 88, 89, 90, 91, 92, 93, 94, 95, 96] (by decide +kernel) (by decide +kernel)
set_option maxRecDepth 20000 in
theorem gX7_put_X7_readPaper : GoodIn wsX7_put (wsV RX7 124 RX7 yX7_readPaper wsX7_readPaper) := goodIn_app (goodIn_of _ (by decide +kernel)) ggX7_put_X7_readPaper
set_option maxRecDepth 20000 in
theorem ggX7_put_X7_note : GoodIn wsX7_put wsX7_note := goodIn_r _ [53, 54, 55, 2, 69, 70, 71, 72, 73, 74, 75, 76, 77, 78, 79, 80, 81, 82, 83, 84, 85, 86, 87, 88, 89, 90, 91, 92, 93, 94, 95, 96] (by decide +kernel) (by decide +kernel)
set_option maxRecDepth 20000 in
theorem gX7_put_X7_note : GoodIn wsX7_put (wsV RX7 267 RX7 yX7_note wsX7_note) := goodIn_app (goodIn_of _ (by decide +kernel)) ggX7_put_X7_note
set_option maxRecDepth 20000 in
theorem ggX7_put_X7_rename : GoodIn wsX7_put wsX7_rename := goodIn_r _ [59, 4, 60, 61, 7, 62, 63, 64, 65, 5, 6, 8, 69, 70, 71, 72, 73, 74, 75, 76, 77, 78, 79, 80, 81, 82, 83, 84, 85, 86, 87, 88, 89, 90, 91, 92, 93, 94, 95, 96] (by decide +kernel) (by decide +kernel)
set_option maxRecDepth 20000 in
theorem gX7_put_X7_rename : GoodIn wsX7_put (wsV RX7 270 RX7 yX7_rename wsX7_rename) := goodIn_app (goodIn_of _ (by decide +kernel)) ggX7_put_X7_rename
set_option maxRecDepth 20000 in
theorem ggX7_put_X7_copyNote : GoodIn wsX7_put wsX7_copyNote := goodIn_r _ [68] (by decide +kernel) (by decide +kernel)
set_option maxRecDepth 20000 in
theorem gX7_put_X7_copyNote : GoodIn wsX7_put (va_wsS RX7 273 yX7_copyNote wsX7_copyNote) := goodIn_app (goodIn_of _ (by decide +kernel)) ggX7_put_X7_copyNote
theorem dX7_put_0 : decode cX7_put 0 = .ok (.aload_n 0, 1) := by decide +kernel
theorem dX7_put_1 : decode cX7_put 1 = .ok (.iconst 0, 1) := by decide +kernel
theorem dX7_put_2 : decode cX7_put 2 = .ok (.putfield 68, 3) := by decide +kernel
theorem dX7_put_5 : decode cX7_put 5 = .ok (.iload_n 1, 1) := by decide +kernel
theorem dX7_put_6 : decode cX7_put 6 = .ok (.i2l, 1) := by decide +kernel
theorem dX7_put_7 : decode cX7_put 7 = .ok (.lconst 0, 1) := by decide +kernel
theorem dX7_put_8 : decode cX7_put 8 = .ok (.aload_n 0, 1) := by decide +kernel
theorem dX7_put_9 : decode cX7_put 9 = .ok (.getfield 16, 3) := by decide +kernel
theorem dX7_put_12 : decode cX7_put 12 = .ok (.iconst 0, 1) := by decide +kernel
theorem dX7_put_13 : decode cX7_put 13 = .ok (.iaload, 1) := by decide +kernel
theorem dX7_put_14 : decode cX7_put 14 = .ok (.i2l, 1) := by decide +kernel
theorem dX7_put_15 : decode cX7_put 15 = .ok (.invokestatic 72, 3) := by decide +kernel
theorem dX7_put_18 : decode cX7_put 18 = .ok (.ifCond .eq 13, 3) := by decide +kernel
theorem dX7_put_21 : decode cX7_put 21 = .ok (.iload_n 2, 1) := by decide +kernel
theorem dX7_put_22 : decode cX7_put 22 = .ok (.i2l, 1) := by decide +kernel
theorem dX7_put_23 : decode cX7_put 23 = .ok (.lconst 0, 1) := by decide +kernel
theorem dX7_put_24 : decode cX7_put 24 = .ok (.lconst 1, 1) := by decide +kernel
theorem dX7_put_25 : decode cX7_put 25 = .ok (.invokestatic 72, 3) := by decide +kernel
theorem dX7_put_28 : decode cX7_put 28 = .ok (.ifCond .ne 6, 3) := by decide +kernel
theorem dX7_put_31 : decode cX7_put 31 = .ok (.bipush (-2), 2) := by decide +kernel
theorem dX7_put_33 : decode cX7_put 33 = .ok (.ireturn, 1) := by decide +kernel
theorem dX7_put_34 : decode cX7_put 34 = .ok (.aload_n 0, 1) := by decide +kernel
theorem dX7_put_35 : decode cX7_put 35 = .ok (.invokevirtual 124, 3) := by decide +kernel
theorem dX7_put_38 : decode cX7_put 38 = .ok (.bipush (-9), 2) := by decide +kernel
theorem dX7_put_40 : decode cX7_put 40 = .ok (.if_icmp .ne 13, 3) := by decide +kernel
theorem dX7_put_43 : decode cX7_put 43 = .ok (.aload_n 0, 1) := by decide +kernel
theorem dX7_put_44 : decode cX7_put 44 = .ok (.getfield 13, 3) := by decide +kernel
theorem dX7_put_47 : decode cX7_put 47 = .ok (.iconst 0, 1) := by decide +kernel
theorem dX7_put_48 : decode cX7_put 48 = .ok (.iaload, 1) := by decide +kernel
theorem dX7_put_49 : decode cX7_put 49 = .ok (.iconst 1, 1) := by decide +kernel
theorem dX7_put_50 : decode cX7_put 50 = .ok (.if_icmp .eq 6, 3) := by decide +kernel
theorem dX7_put_53 : decode cX7_put 53 = .ok (.bipush (-3), 2) := by decide +kernel
theorem dX7_put_55 : decode cX7_put 55 = .ok (.ireturn, 1) := by decide +kernel
theorem dX7_put_56 : decode cX7_put 56 = .ok (.aload_n 0, 1) := by decide +kernel
theorem dX7_put_57 : decode cX7_put 57 = .ok (.getfield 16, 3) := by decide +kernel
theorem dX7_put_60 : decode cX7_put 60 = .ok (.iconst 0, 1) := by decide +kernel
theorem dX7_put_61 : decode cX7_put 61 = .ok (.iaload, 1) := by decide +kernel
theorem dX7_put_62 : decode cX7_put 62 = .ok (.bipush 8, 2) := by decide +kernel
theorem dX7_put_64 : decode cX7_put 64 = .ok (.if_icmp .ne 6, 3) := by decide +kernel
theorem dX7_put_67 : decode cX7_put 67 = .ok (.bipush (-4), 2) := by decide +kernel
theorem dX7_put_69 : decode cX7_put 69 = .ok (.ireturn, 1) := by decide +kernel
theorem dX7_put_70 : decode cX7_put 70 = .ok (.aload_n 0, 1) := by decide +kernel
theorem dX7_put_71 : decode cX7_put 71 = .ok (.invokevirtual 267, 3) := by decide +kernel
theorem dX7_put_74 : decode cX7_put 74 = .ok (.iconst 0, 1) := by decide +kernel
theorem dX7_put_75 : decode cX7_put 75 = .ok (.istore_n 3, 1) := by decide +kernel
theorem dX7_put_76 : decode cX7_put 76 = .ok (.iload_n 3, 1) := by decide +kernel
theorem dX7_put_77 : decode cX7_put 77 = .ok (.bipush 8, 2) := by decide +kernel
theorem dX7_put_79 : decode cX7_put 79 = .ok (.if_icmp .ge 27, 3) := by decide +kernel
