theorem dX4_joinCases_48 : decode cX4_joinCases 48 = .ok (.iand, 1) := by decide +kernel
theorem dX4_joinCases_49 : decode cX4_joinCases 49 = .ok (.istore_n 1, 1) := by decide +kernel
theorem dX4_joinCases_50 : decode cX4_joinCases 50 = .ok (.aload_n 0, 1) := by decide +kernel
theorem dX4_joinCases_51 : decode cX4_joinCases 51 = .ok (.iload_n 2, 1) := by decide +kernel
theorem dX4_joinCases_52 : decode cX4_joinCases 52 = .ok (.iload_n 3, 1) := by decide +kernel
theorem dX4_joinCases_53 : decode cX4_joinCases 53 = .ok (.invokevirtual 123, 3) := by decide +kernel
theorem dX4_joinCases_56 : decode cX4_joinCases 56 = .ok (.iinc 2 1, 3) := by decide +kernel
theorem dX4_joinCases_59 : decode cX4_joinCases 59 = .ok (.goto (-39), 3) := by decide +kernel
theorem dX4_joinCases_62 : decode cX4_joinCases 62 = .ok (.return_, 1) := by decide +kernel
set_option maxRecDepth 20000 in
theorem ggX4_presentFullReferences_X4_isPresent : GoodIn wsX4_presentFullReferences wsX4_isPresent := goodIn_r _ [6, 7, 12, 13, 14, 15, 16, 17, 18, 19, 20, 21, 22, 23, 24, 25, 26, 27] (by decide +kernel) (by decide +kernel)
set_option maxRecDepth 20000 in
theorem gX4_presentFullReferences_X4_isPresent : GoodIn wsX4_presentFullReferences (wsV RX4 85 RX4 yX4_isPresent wsX4_isPresent) := goodIn_app (goodIn_of _ (by decide +kernel)) ggX4_presentFullReferences_X4_isPresent
set_option maxRecDepth 20000 in
theorem ggX4_presentFullReferences_X1_slotOf : GoodIn wsX4_presentFullReferences wsX1_slotOf := goodIn_r _ [11] (by decide +kernel) (by decide +kernel)
set_option maxRecDepth 20000 in
theorem gX4_presentFullReferences_X1_slotOf : GoodIn wsX4_presentFullReferences (va_wsS RX4 127 yX1_slotOf wsX1_slotOf) := goodIn_app (goodIn_of _ (by decide +kernel)) ggX4_presentFullReferences_X1_slotOf
theorem dX4_presentFullReferences_0 : decode cX4_presentFullReferences 0 = .ok (.iconst 0, 1) := by decide +kernel
theorem dX4_presentFullReferences_1 : decode cX4_presentFullReferences 1 = .ok (.istore_n 1, 1) := by decide +kernel
theorem dX4_presentFullReferences_2 : decode cX4_presentFullReferences 2 = .ok (.iconst 0, 1) := by decide +kernel
theorem dX4_presentFullReferences_3 : decode cX4_presentFullReferences 3 = .ok (.istore_n 2, 1) := by decide +kernel
theorem dX4_presentFullReferences_4 : decode cX4_presentFullReferences 4 = .ok (.iload_n 2, 1) := by decide +kernel
theorem dX4_presentFullReferences_5 : decode cX4_presentFullReferences 5 = .ok (.bipush 8, 2) := by decide +kernel
theorem dX4_presentFullReferences_7 : decode cX4_presentFullReferences 7 = .ok (.if_icmp .ge 28, 3) := by decide +kernel
theorem dX4_presentFullReferences_10 : decode cX4_presentFullReferences 10 = .ok (.aload_n 0, 1) := by decide +kernel
theorem dX4_presentFullReferences_11 : decode cX4_presentFullReferences 11 = .ok (.iload_n 2, 1) := by decide +kernel
theorem dX4_presentFullReferences_12 : decode cX4_presentFullReferences 12 = .ok (.invokevirtual 85, 3) := by decide +kernel
theorem dX4_presentFullReferences_15 : decode cX4_presentFullReferences 15 = .ok (.ifCond .eq 14, 3) := by decide +kernel
theorem dX4_presentFullReferences_18 : decode cX4_presentFullReferences 18 = .ok (.iload_n 1, 1) := by decide +kernel
theorem dX4_presentFullReferences_19 : decode cX4_presentFullReferences 19 = .ok (.bipush 15, 2) := by decide +kernel
theorem dX4_presentFullReferences_21 : decode cX4_presentFullReferences 21 = .ok (.iload_n 2, 1) := by decide +kernel
theorem dX4_presentFullReferences_22 : decode cX4_presentFullReferences 22 = .ok (.iconst 0, 1) := by decide +kernel
theorem dX4_presentFullReferences_23 : decode cX4_presentFullReferences 23 = .ok (.invokestatic 127, 3) := by decide +kernel
theorem dX4_presentFullReferences_26 : decode cX4_presentFullReferences 26 = .ok (.ishl, 1) := by decide +kernel
theorem dX4_presentFullReferences_27 : decode cX4_presentFullReferences 27 = .ok (.ior, 1) := by decide +kernel
theorem dX4_presentFullReferences_28 : decode cX4_presentFullReferences 28 = .ok (.istore_n 1, 1) := by decide +kernel
theorem dX4_presentFullReferences_29 : decode cX4_presentFullReferences 29 = .ok (.iinc 2 1, 3) := by decide +kernel
theorem dX4_presentFullReferences_32 : decode cX4_presentFullReferences 32 = .ok (.goto (-28), 3) := by decide +kernel
theorem dX4_presentFullReferences_35 : decode cX4_presentFullReferences 35 = .ok (.aload_n 0, 1) := by decide +kernel
theorem dX4_presentFullReferences_36 : decode cX4_presentFullReferences 36 = .ok (.getfield 97, 3) := by decide +kernel
theorem dX4_presentFullReferences_39 : decode cX4_presentFullReferences 39 = .ok (.iload_n 1, 1) := by decide +kernel
theorem dX4_presentFullReferences_40 : decode cX4_presentFullReferences 40 = .ok (.iand, 1) := by decide +kernel
theorem dX4_presentFullReferences_41 : decode cX4_presentFullReferences 41 = .ok (.ireturn, 1) := by decide +kernel
theorem dX4_joinedTo_0 : decode cX4_joinedTo 0 = .ok (.iconst 1, 1) := by decide +kernel
theorem dX4_joinedTo_1 : decode cX4_joinedTo 1 = .ok (.iload_n 1, 1) := by decide +kernel
theorem dX4_joinedTo_2 : decode cX4_joinedTo 2 = .ok (.ishl, 1) := by decide +kernel
theorem dX4_joinedTo_3 : decode cX4_joinedTo 3 = .ok (.istore_n 3, 1) := by decide +kernel
theorem dX4_joinedTo_4 : decode cX4_joinedTo 4 = .ok (.iconst 0, 1) := by decide +kernel
theorem dX4_joinedTo_5 : decode cX4_joinedTo 5 = .ok (.istore 4, 2) := by decide +kernel
theorem dX4_joinedTo_7 : decode cX4_joinedTo 7 = .ok (.iload 4, 2) := by decide +kernel
theorem dX4_joinedTo_9 : decode cX4_joinedTo 9 = .ok (.bipush 32, 2) := by decide +kernel
theorem dX4_joinedTo_11 : decode cX4_joinedTo 11 = .ok (.if_icmp .ge 58, 3) := by decide +kernel
theorem dX4_joinedTo_14 : decode cX4_joinedTo 14 = .ok (.iload_n 3, 1) := by decide +kernel
theorem dX4_joinedTo_15 : decode cX4_joinedTo 15 = .ok (.istore 5, 2) := by decide +kernel
theorem dX4_joinedTo_17 : decode cX4_joinedTo 17 = .ok (.iload_n 1, 1) := by decide +kernel
theorem dX4_joinedTo_18 : decode cX4_joinedTo 18 = .ok (.istore 6, 2) := by decide +kernel
theorem dX4_joinedTo_20 : decode cX4_joinedTo 20 = .ok (.iload 6, 2) := by decide +kernel
theorem dX4_joinedTo_22 : decode cX4_joinedTo 22 = .ok (.bipush 32, 2) := by decide +kernel
theorem dX4_joinedTo_24 : decode cX4_joinedTo 24 = .ok (.if_icmp .ge 31, 3) := by decide +kernel
theorem dX4_joinedTo_27 : decode cX4_joinedTo 27 = .ok (.iload_n 3, 1) := by decide +kernel
theorem dX4_joinedTo_28 : decode cX4_joinedTo 28 = .ok (.iload 6, 2) := by decide +kernel
theorem dX4_joinedTo_30 : decode cX4_joinedTo 30 = .ok (.ishr, 1) := by decide +kernel
theorem dX4_joinedTo_31 : decode cX4_joinedTo 31 = .ok (.iconst 1, 1) := by decide +kernel
theorem dX4_joinedTo_32 : decode cX4_joinedTo 32 = .ok (.iand, 1) := by decide +kernel
theorem dX4_joinedTo_33 : decode cX4_joinedTo 33 = .ok (.iconst 1, 1) := by decide +kernel
theorem dX4_joinedTo_34 : decode cX4_joinedTo 34 = .ok (.if_icmp .ne 15, 3) := by decide +kernel
theorem dX4_joinedTo_37 : decode cX4_joinedTo 37 = .ok (.iload_n 3, 1) := by decide +kernel
theorem dX4_joinedTo_38 : decode cX4_joinedTo 38 = .ok (.aload_n 0, 1) := by decide +kernel
theorem dX4_joinedTo_39 : decode cX4_joinedTo 39 = .ok (.getfield 18, 3) := by decide +kernel
theorem dX4_joinedTo_42 : decode cX4_joinedTo 42 = .ok (.iload 6, 2) := by decide +kernel
theorem dX4_joinedTo_44 : decode cX4_joinedTo 44 = .ok (.iaload, 1) := by decide +kernel
theorem dX4_joinedTo_45 : decode cX4_joinedTo 45 = .ok (.iload_n 2, 1) := by decide +kernel
theorem dX4_joinedTo_46 : decode cX4_joinedTo 46 = .ok (.iand, 1) := by decide +kernel
theorem dX4_joinedTo_47 : decode cX4_joinedTo 47 = .ok (.ior, 1) := by decide +kernel
theorem dX4_joinedTo_48 : decode cX4_joinedTo 48 = .ok (.istore_n 3, 1) := by decide +kernel
theorem dX4_joinedTo_49 : decode cX4_joinedTo 49 = .ok (.iinc 6 1, 3) := by decide +kernel
theorem dX4_joinedTo_52 : decode cX4_joinedTo 52 = .ok (.goto (-32), 3) := by decide +kernel
theorem dX4_joinedTo_55 : decode cX4_joinedTo 55 = .ok (.iload_n 3, 1) := by decide +kernel
theorem dX4_joinedTo_56 : decode cX4_joinedTo 56 = .ok (.iload 5, 2) := by decide +kernel
theorem dX4_joinedTo_58 : decode cX4_joinedTo 58 = .ok (.if_icmp .ne 5, 3) := by decide +kernel
theorem dX4_joinedTo_61 : decode cX4_joinedTo 61 = .ok (.iload_n 3, 1) := by decide +kernel
theorem dX4_joinedTo_62 : decode cX4_joinedTo 62 = .ok (.ireturn, 1) := by decide +kernel
theorem dX4_joinedTo_63 : decode cX4_joinedTo 63 = .ok (.iinc 4 1, 3) := by decide +kernel
theorem dX4_joinedTo_66 : decode cX4_joinedTo 66 = .ok (.goto (-59), 3) := by decide +kernel
theorem dX4_joinedTo_69 : decode cX4_joinedTo 69 = .ok (.iload_n 3, 1) := by decide +kernel
theorem dX4_joinedTo_70 : decode cX4_joinedTo 70 = .ok (.ireturn, 1) := by decide +kernel
set_option maxRecDepth 20000 in
theorem ggX4_addCase_X1_cite : GoodIn wsX4_addCase wsX1_cite := goodIn_r _ [11, 12, 33, 34, 35, 36] (by decide +kernel) (by decide +kernel)
set_option maxRecDepth 20000 in
theorem gX4_addCase_X1_cite : GoodIn wsX4_addCase (wsV RX4 106 RX1 yX1_cite wsX1_cite) := goodIn_app (goodIn_of _ (by decide +kernel)) ggX4_addCase_X1_cite
set_option maxRecDepth 20000 in
theorem ggX4_addCase_X0_first : GoodIn wsX4_addCase wsX0_first := goodIn_r _ [16] (by decide +kernel) (by decide +kernel)
set_option maxRecDepth 20000 in
theorem gX4_addCase_X0_first : GoodIn wsX4_addCase (va_wsS RX4 130 yX0_first wsX0_first) := goodIn_app (goodIn_of _ (by decide +kernel)) ggX4_addCase_X0_first
theorem dX4_addCase_0 : decode cX4_addCase 0 = .ok (.aload_n 0, 1) := by decide +kernel
theorem dX4_addCase_1 : decode cX4_addCase 1 = .ok (.getfield 47, 3) := by decide +kernel
theorem dX4_addCase_4 : decode cX4_addCase 4 = .ok (.bipush 32, 2) := by decide +kernel
theorem dX4_addCase_6 : decode cX4_addCase 6 = .ok (.if_icmp .lt 4, 3) := by decide +kernel
theorem dX4_addCase_9 : decode cX4_addCase 9 = .ok (.return_, 1) := by decide +kernel
theorem dX4_addCase_10 : decode cX4_addCase 10 = .ok (.aload_n 0, 1) := by decide +kernel
theorem dX4_addCase_11 : decode cX4_addCase 11 = .ok (.getfield 12, 3) := by decide +kernel
theorem dX4_addCase_14 : decode cX4_addCase 14 = .ok (.iload_n 1, 1) := by decide +kernel
theorem dX4_addCase_15 : decode cX4_addCase 15 = .ok (.invokevirtual 106, 3) := by decide +kernel
theorem dX4_addCase_18 : decode cX4_addCase 18 = .ok (.invokestatic 130, 3) := by decide +kernel
theorem dX4_addCase_21 : decode cX4_addCase 21 = .ok (.istore_n 3, 1) := by decide +kernel
theorem dX4_addCase_22 : decode cX4_addCase 22 = .ok (.iload_n 3, 1) := by decide +kernel
theorem dX4_addCase_23 : decode cX4_addCase 23 = .ok (.bipush 6, 2) := by decide +kernel
theorem dX4_addCase_25 : decode cX4_addCase 25 = .ok (.if_icmp .ge 18, 3) := by decide +kernel
theorem dX4_addCase_28 : decode cX4_addCase 28 = .ok (.aload_n 0, 1) := by decide +kernel
theorem dX4_addCase_29 : decode cX4_addCase 29 = .ok (.getfield 34, 3) := by decide +kernel
theorem dX4_addCase_32 : decode cX4_addCase 32 = .ok (.iload_n 3, 1) := by decide +kernel
theorem dX4_addCase_33 : decode cX4_addCase 33 = .ok (.dup2, 1) := by decide +kernel
theorem dX4_addCase_34 : decode cX4_addCase 34 = .ok (.iaload, 1) := by decide +kernel
theorem dX4_addCase_35 : decode cX4_addCase 35 = .ok (.iconst 1, 1) := by decide +kernel
theorem dX4_addCase_36 : decode cX4_addCase 36 = .ok (.aload_n 0, 1) := by decide +kernel
theorem dX4_addCase_37 : decode cX4_addCase 37 = .ok (.getfield 47, 3) := by decide +kernel
theorem dX4_addCase_40 : decode cX4_addCase 40 = .ok (.ishl, 1) := by decide +kernel
theorem dX4_addCase_41 : decode cX4_addCase 41 = .ok (.ior, 1) := by decide +kernel
theorem dX4_addCase_42 : decode cX4_addCase 42 = .ok (.iastore, 1) := by decide +kernel
theorem dX4_addCase_43 : decode cX4_addCase 43 = .ok (.aload_n 0, 1) := by decide +kernel
theorem dX4_addCase_44 : decode cX4_addCase 44 = .ok (.getfield 28, 3) := by decide +kernel
theorem dX4_addCase_47 : decode cX4_addCase 47 = .ok (.aload_n 0, 1) := by decide +kernel
theorem dX4_addCase_48 : decode cX4_addCase 48 = .ok (.getfield 47, 3) := by decide +kernel
theorem dX4_addCase_51 : decode cX4_addCase 51 = .ok (.iload_n 1, 1) := by decide +kernel
theorem dX4_addCase_52 : decode cX4_addCase 52 = .ok (.iastore, 1) := by decide +kernel
theorem dX4_addCase_53 : decode cX4_addCase 53 = .ok (.aload_n 0, 1) := by decide +kernel
theorem dX4_addCase_54 : decode cX4_addCase 54 = .ok (.getfield 31, 3) := by decide +kernel
theorem dX4_addCase_57 : decode cX4_addCase 57 = .ok (.aload_n 0, 1) := by decide +kernel
theorem dX4_addCase_58 : decode cX4_addCase 58 = .ok (.getfield 47, 3) := by decide +kernel
theorem dX4_addCase_61 : decode cX4_addCase 61 = .ok (.iload_n 2, 1) := by decide +kernel
theorem dX4_addCase_62 : decode cX4_addCase 62 = .ok (.iastore, 1) := by decide +kernel
theorem dX4_addCase_63 : decode cX4_addCase 63 = .ok (.iload_n 1, 1) := by decide +kernel
theorem dX4_addCase_64 : decode cX4_addCase 64 = .ok (.istore 4, 2) := by decide +kernel
theorem dX4_addCase_66 : decode cX4_addCase 66 = .ok (.iload 4, 2) := by decide +kernel
theorem dX4_addCase_68 : decode cX4_addCase 68 = .ok (.bipush 32, 2) := by decide +kernel
theorem dX4_addCase_70 : decode cX4_addCase 70 = .ok (.if_icmp .ge 30, 3) := by decide +kernel
theorem dX4_addCase_73 : decode cX4_addCase 73 = .ok (.iload_n 2, 1) := by decide +kernel
theorem dX4_addCase_74 : decode cX4_addCase 74 = .ok (.iload 4, 2) := by decide +kernel
theorem dX4_addCase_76 : decode cX4_addCase 76 = .ok (.ishr, 1) := by decide +kernel
theorem dX4_addCase_77 : decode cX4_addCase 77 = .ok (.iconst 1, 1) := by decide +kernel
theorem dX4_addCase_78 : decode cX4_addCase 78 = .ok (.iand, 1) := by decide +kernel
theorem dX4_addCase_79 : decode cX4_addCase 79 = .ok (.iconst 1, 1) := by decide +kernel
theorem dX4_addCase_80 : decode cX4_addCase 80 = .ok (.if_icmp .ne 14, 3) := by decide +kernel
theorem dX4_addCase_83 : decode cX4_addCase 83 = .ok (.aload_n 0, 1) := by decide +kernel
theorem dX4_addCase_84 : decode cX4_addCase 84 = .ok (.getfield 22, 3) := by decide +kernel
theorem dX4_addCase_87 : decode cX4_addCase 87 = .ok (.iload 4, 2) := by decide +kernel
theorem dX4_addCase_89 : decode cX4_addCase 89 = .ok (.aload_n 0, 1) := by decide +kernel
theorem dX4_addCase_90 : decode cX4_addCase 90 = .ok (.getfield 47, 3) := by decide +kernel
theorem dX4_addCase_93 : decode cX4_addCase 93 = .ok (.iastore, 1) := by decide +kernel
theorem dX4_addCase_94 : decode cX4_addCase 94 = .ok (.iinc 4 1, 3) := by decide +kernel
theorem dX4_addCase_97 : decode cX4_addCase 97 = .ok (.goto (-31), 3) := by decide +kernel
theorem dX4_addCase_100 : decode cX4_addCase 100 = .ok (.aload_n 0, 1) := by decide +kernel
theorem dX4_addCase_101 : decode cX4_addCase 101 = .ok (.dup, 1) := by decide +kernel
theorem dX4_addCase_102 : decode cX4_addCase 102 = .ok (.getfield 47, 3) := by decide +kernel
theorem dX4_addCase_105 : decode cX4_addCase 105 = .ok (.iconst 1, 1) := by decide +kernel
theorem dX4_addCase_106 : decode cX4_addCase 106 = .ok (.iadd, 1) := by decide +kernel
theorem dX4_addCase_107 : decode cX4_addCase 107 = .ok (.putfield 47, 3) := by decide +kernel
theorem dX4_addCase_110 : decode cX4_addCase 110 = .ok (.return_, 1) := by decide +kernel
set_option maxRecDepth 20000 in
theorem ggX4_resolve_X1_slotOf : GoodIn wsX4_resolve wsX1_slotOf := goodIn_r _ [6] (by decide +kernel) (by decide +kernel)
set_option maxRecDepth 20000 in
theorem gX4_resolve_X1_slotOf : GoodIn wsX4_resolve (va_wsS RX4 127 yX1_slotOf wsX1_slotOf) := goodIn_app (goodIn_of _ (by decide +kernel)) ggX4_resolve_X1_slotOf
set_option maxRecDepth 20000 in
theorem ggX4_resolve_X1_cite : GoodIn wsX4_resolve wsX1_cite := goodIn_r _ [10, 11, 87, 88, 89, 90] (by decide +kernel) (by decide +kernel)
set_option maxRecDepth 20000 in
theorem gX4_resolve_X1_cite : GoodIn wsX4_resolve (wsV RX4 106 RX1 yX1_cite wsX1_cite) := goodIn_app (goodIn_of _ (by decide +kernel)) ggX4_resolve_X1_cite
set_option maxRecDepth 20000 in
theorem ggX4_resolve_X0_number : GoodIn wsX4_resolve wsX0_number := goodIn_r _ [15] (by decide +kernel) (by decide +kernel)
set_option maxRecDepth 20000 in
theorem gX4_resolve_X0_number : GoodIn wsX4_resolve (va_wsS RX4 134 yX0_number wsX0_number) := goodIn_app (goodIn_of _ (by decide +kernel)) ggX4_resolve_X0_number
set_option maxRecDepth 20000 in
theorem ggX4_resolve_X0_first : GoodIn wsX4_resolve wsX0_first := goodIn_r _ [18] (by decide +kernel) (by decide +kernel)
set_option maxRecDepth 20000 in
theorem gX4_resolve_X0_first : GoodIn wsX4_resolve (va_wsS RX4 130 yX0_first wsX0_first) := goodIn_app (goodIn_of _ (by decide +kernel)) ggX4_resolve_X0_first
set_option maxRecDepth 20000 in
theorem ggX4_resolve_X4_namedWith : GoodIn wsX4_resolve wsX4_namedWith := goodIn_r _ [23, 24, 71, 72, 73, 74, 75, 76, 77, 78, 79, 80, 81, 82, 83, 84, 85, 86] (by decide +kernel) (by decide +kernel)
set_option maxRecDepth 20000 in
theorem gX4_resolve_X4_namedWith : GoodIn wsX4_resolve (wsV RX4 137 RX4 yX4_namedWith wsX4_namedWith) := goodIn_app (goodIn_of _ (by decide +kernel)) ggX4_resolve_X4_namedWith
set_option maxRecDepth 20000 in
theorem ggX4_resolve_X0_form : GoodIn wsX4_resolve wsX0_form := goodIn_r _ [27] (by decide +kernel) (by decide +kernel)
set_option maxRecDepth 20000 in
theorem gX4_resolve_X0_form : GoodIn wsX4_resolve (va_wsS RX4 140 yX0_form wsX0_form) := goodIn_app (goodIn_of _ (by decide +kernel)) ggX4_resolve_X0_form
set_option maxRecDepth 20000 in
theorem ggX4_resolve_X4_caseOf : GoodIn wsX4_resolve wsX4_caseOf := goodIn_r _ [31, 32, 71, 72, 73, 74, 75, 76, 77, 78, 79, 80, 81, 82, 83, 84, 85, 86] (by decide +kernel) (by decide +kernel)
set_option maxRecDepth 20000 in
theorem gX4_resolve_X4_caseOf : GoodIn wsX4_resolve (wsV RX4 143 RX4 yX4_caseOf wsX4_caseOf) := goodIn_app (goodIn_of _ (by decide +kernel)) ggX4_resolve_X4_caseOf
set_option maxRecDepth 20000 in
theorem ggX4_resolve_X4_settle : GoodIn wsX4_resolve wsX4_settle := goodIn_r _ [36, 32, 37, 38, 39, 40, 71, 72, 73, 74, 75, 76, 77, 78, 79, 80, 81, 82, 83, 84, 85, 86] (by decide +kernel) (by decide +kernel)
set_option maxRecDepth 20000 in
theorem gX4_resolve_X4_settle : GoodIn wsX4_resolve (wsV RX4 146 RX4 yX4_settle wsX4_settle) := goodIn_app (goodIn_of _ (by decide +kernel)) ggX4_resolve_X4_settle
set_option maxRecDepth 20000 in
theorem ggX4_resolve_X4_settleOnly : GoodIn wsX4_resolve wsX4_settleOnly := goodIn_r _ [44, 45, 46, 47, 48, 49, 50, 51, 33, 34, 35, 22, 36, 32, 37, 38, 39, 40, 71, 72, 73, 74, 75, 76, 77, 78, 79, 80, 81, 82, 83, 84, 85, 86] (by decide +kernel) (by decide +kernel)
set_option maxRecDepth 20000 in
theorem gX4_resolve_X4_settleOnly : GoodIn wsX4_resolve (wsV RX4 149 RX4 yX4_settleOnly wsX4_settleOnly) := goodIn_app (goodIn_of _ (by decide +kernel)) ggX4_resolve_X4_settleOnly
set_option maxRecDepth 20000 in
theorem ggX4_resolve_X4_pointedAt : GoodIn wsX4_resolve wsX4_pointedAt := goodIn_r _ [55, 1, 3, 4, 5, 6, 56, 57, 58, 59, 60, 61, 71, 72, 73, 74, 75, 76, 77, 78, 79, 80, 81, 82, 83, 84, 85, 86, 87, 88, 89, 90] (by decide +kernel) (by decide +kernel)
set_option maxRecDepth 20000 in
theorem gX4_resolve_X4_pointedAt : GoodIn wsX4_resolve (wsV RX4 152 RX4 yX4_pointedAt wsX4_pointedAt) := goodIn_app (goodIn_of _ (by decide +kernel)) ggX4_resolve_X4_pointedAt
set_option maxRecDepth 20000 in
theorem ggX4_resolve_X4_isPresent : GoodIn wsX4_resolve wsX4_isPresent := goodIn_r _ [65, 66, 71, 72, 73, 74, 75, 76, 77, 78, 79, 80, 81, 82, 83, 84, 85, 86] (by decide +kernel) (by decide +kernel)
set_option maxRecDepth 20000 in
theorem gX4_resolve_X4_isPresent : GoodIn wsX4_resolve (wsV RX4 85 RX4 yX4_isPresent wsX4_isPresent) := goodIn_app (goodIn_of _ (by decide +kernel)) ggX4_resolve_X4_isPresent
set_option maxRecDepth 20000 in
theorem ggX4_resolve_X4_foundByNote : GoodIn wsX4_resolve wsX4_foundByNote := goodIn_r _ [70, 40, 71, 72, 73, 74, 75, 76, 77, 78, 79, 80, 81, 82, 83, 84, 85, 86] (by decide +kernel) (by decide +kernel)
set_option maxRecDepth 20000 in
theorem gX4_resolve_X4_foundByNote : GoodIn wsX4_resolve (wsV RX4 156 RX4 yX4_foundByNote wsX4_foundByNote) := goodIn_app (goodIn_of _ (by decide +kernel)) ggX4_resolve_X4_foundByNote
theorem dX4_resolve_0 : decode cX4_resolve 0 = .ok (.iload_n 1, 1) := by decide +kernel
theorem dX4_resolve_1 : decode cX4_resolve 1 = .ok (.iload_n 2, 1) := by decide +kernel
theorem dX4_resolve_2 : decode cX4_resolve 2 = .ok (.invokestatic 127, 3) := by decide +kernel
theorem dX4_resolve_5 : decode cX4_resolve 5 = .ok (.istore 4, 2) := by decide +kernel
theorem dX4_resolve_7 : decode cX4_resolve 7 = .ok (.aload_n 0, 1) := by decide +kernel
theorem dX4_resolve_8 : decode cX4_resolve 8 = .ok (.getfield 12, 3) := by decide +kernel
theorem dX4_resolve_11 : decode cX4_resolve 11 = .ok (.iload 4, 2) := by decide +kernel
theorem dX4_resolve_13 : decode cX4_resolve 13 = .ok (.invokevirtual 106, 3) := by decide +kernel
theorem dX4_resolve_16 : decode cX4_resolve 16 = .ok (.lstore 5, 2) := by decide +kernel
theorem dX4_resolve_18 : decode cX4_resolve 18 = .ok (.lload 5, 2) := by decide +kernel
theorem dX4_resolve_20 : decode cX4_resolve 20 = .ok (.invokestatic 134, 3) := by decide +kernel
theorem dX4_resolve_23 : decode cX4_resolve 23 = .ok (.istore 7, 2) := by decide +kernel
theorem dX4_resolve_25 : decode cX4_resolve 25 = .ok (.aload_n 0, 1) := by decide +kernel
theorem dX4_resolve_26 : decode cX4_resolve 26 = .ok (.lload 5, 2) := by decide +kernel
theorem dX4_resolve_28 : decode cX4_resolve 28 = .ok (.invokestatic 130, 3) := by decide +kernel
theorem dX4_resolve_31 : decode cX4_resolve 31 = .ok (.invokevirtual 137, 3) := by decide +kernel
theorem dX4_resolve_34 : decode cX4_resolve 34 = .ok (.istore 8, 2) := by decide +kernel
theorem dX4_resolve_36 : decode cX4_resolve 36 = .ok (.lload 5, 2) := by decide +kernel
theorem dX4_resolve_38 : decode cX4_resolve 38 = .ok (.invokestatic 140, 3) := by decide +kernel
theorem dX4_resolve_41 : decode cX4_resolve 41 = .ok (.tableswitch 110 0 2 #[27, 60, 76], 27) := by decide +kernel
theorem dX4_resolve_68 : decode cX4_resolve 68 = .ok (.aload_n 0, 1) := by decide +kernel
theorem dX4_resolve_69 : decode cX4_resolve 69 = .ok (.iload 4, 2) := by decide +kernel
theorem dX4_resolve_71 : decode cX4_resolve 71 = .ok (.aload_n 0, 1) := by decide +kernel
theorem dX4_resolve_72 : decode cX4_resolve 72 = .ok (.iload 4, 2) := by decide +kernel
theorem dX4_resolve_74 : decode cX4_resolve 74 = .ok (.invokevirtual 143, 3) := by decide +kernel
theorem dX4_resolve_77 : decode cX4_resolve 77 = .ok (.iconst 0, 1) := by decide +kernel
theorem dX4_resolve_78 : decode cX4_resolve 78 = .ok (.invokevirtual 146, 3) := by decide +kernel
theorem dX4_resolve_81 : decode cX4_resolve 81 = .ok (.aload_n 0, 1) := by decide +kernel
theorem dX4_resolve_82 : decode cX4_resolve 82 = .ok (.dup, 1) := by decide +kernel
theorem dX4_resolve_83 : decode cX4_resolve 83 = .ok (.getfield 76, 3) := by decide +kernel
theorem dX4_resolve_86 : decode cX4_resolve 86 = .ok (.iconst 1, 1) := by decide +kernel
theorem dX4_resolve_87 : decode cX4_resolve 87 = .ok (.aload_n 0, 1) := by decide +kernel
theorem dX4_resolve_88 : decode cX4_resolve 88 = .ok (.iload 4, 2) := by decide +kernel
theorem dX4_resolve_90 : decode cX4_resolve 90 = .ok (.invokevirtual 143, 3) := by decide +kernel
theorem dX4_resolve_93 : decode cX4_resolve 93 = .ok (.ishl, 1) := by decide +kernel
theorem dX4_resolve_94 : decode cX4_resolve 94 = .ok (.ior, 1) := by decide +kernel
theorem dX4_resolve_95 : decode cX4_resolve 95 = .ok (.putfield 76, 3) := by decide +kernel
theorem dX4_resolve_98 : decode cX4_resolve 98 = .ok (.goto 94, 3) := by decide +kernel
theorem dX4_resolve_101 : decode cX4_resolve 101 = .ok (.aload_n 0, 1) := by decide +kernel
theorem dX4_resolve_102 : decode cX4_resolve 102 = .ok (.iload 4, 2) := by decide +kernel
theorem dX4_resolve_104 : decode cX4_resolve 104 = .ok (.iload 8, 2) := by decide +kernel
theorem dX4_resolve_106 : decode cX4_resolve 106 = .ok (.aload_n 0, 1) := by decide +kernel
theorem dX4_resolve_107 : decode cX4_resolve 107 = .ok (.getfield 76, 3) := by decide +kernel
theorem dX4_resolve_110 : decode cX4_resolve 110 = .ok (.iand, 1) := by decide +kernel
theorem dX4_resolve_111 : decode cX4_resolve 111 = .ok (.invokevirtual 149, 3) := by decide +kernel
theorem dX4_resolve_114 : decode cX4_resolve 114 = .ok (.goto 78, 3) := by decide +kernel
theorem dX4_resolve_117 : decode cX4_resolve 117 = .ok (.aload_n 0, 1) := by decide +kernel
theorem dX4_resolve_118 : decode cX4_resolve 118 = .ok (.iload_n 1, 1) := by decide +kernel
theorem dX4_resolve_119 : decode cX4_resolve 119 = .ok (.iload_n 2, 1) := by decide +kernel
theorem dX4_resolve_120 : decode cX4_resolve 120 = .ok (.iload_n 3, 1) := by decide +kernel
theorem dX4_resolve_121 : decode cX4_resolve 121 = .ok (.invokevirtual 152, 3) := by decide +kernel
theorem dX4_resolve_124 : decode cX4_resolve 124 = .ok (.istore 9, 2) := by decide +kernel
theorem dX4_resolve_126 : decode cX4_resolve 126 = .ok (.aload_n 0, 1) := by decide +kernel
theorem dX4_resolve_127 : decode cX4_resolve 127 = .ok (.iload 4, 2) := by decide +kernel
theorem dX4_resolve_129 : decode cX4_resolve 129 = .ok (.aload_n 0, 1) := by decide +kernel
theorem dX4_resolve_130 : decode cX4_resolve 130 = .ok (.iload 9, 2) := by decide +kernel
theorem dX4_resolve_132 : decode cX4_resolve 132 = .ok (.invokevirtual 143, 3) := by decide +kernel
theorem dX4_resolve_135 : decode cX4_resolve 135 = .ok (.iload 9, 2) := by decide +kernel
theorem dX4_resolve_137 : decode cX4_resolve 137 = .ok (.ifCond .ge 7, 3) := by decide +kernel
theorem dX4_resolve_140 : decode cX4_resolve 140 = .ok (.iconst 3, 1) := by decide +kernel
theorem dX4_resolve_141 : decode cX4_resolve 141 = .ok (.goto 4, 3) := by decide +kernel
theorem dX4_resolve_144 : decode cX4_resolve 144 = .ok (.iconst 4, 1) := by decide +kernel
theorem dX4_resolve_145 : decode cX4_resolve 145 = .ok (.invokevirtual 146, 3) := by decide +kernel
theorem dX4_resolve_148 : decode cX4_resolve 148 = .ok (.goto 44, 3) := by decide +kernel
theorem dX4_resolve_151 : decode cX4_resolve 151 = .ok (.iload 7, 2) := by decide +kernel
theorem dX4_resolve_153 : decode cX4_resolve 153 = .ok (.iload_n 1, 1) := by decide +kernel
theorem dX4_resolve_154 : decode cX4_resolve 154 = .ok (.if_icmp .ge 30, 3) := by decide +kernel
theorem dX4_resolve_157 : decode cX4_resolve 157 = .ok (.aload_n 0, 1) := by decide +kernel
theorem dX4_resolve_158 : decode cX4_resolve 158 = .ok (.iload 7, 2) := by decide +kernel
theorem dX4_resolve_160 : decode cX4_resolve 160 = .ok (.invokevirtual 85, 3) := by decide +kernel
theorem dX4_resolve_163 : decode cX4_resolve 163 = .ok (.ifCond .eq 21, 3) := by decide +kernel
theorem dX4_resolve_166 : decode cX4_resolve 166 = .ok (.aload_n 0, 1) := by decide +kernel
theorem dX4_resolve_167 : decode cX4_resolve 167 = .ok (.iload 4, 2) := by decide +kernel
theorem dX4_resolve_169 : decode cX4_resolve 169 = .ok (.iload 8, 2) := by decide +kernel
theorem dX4_resolve_171 : decode cX4_resolve 171 = .ok (.aload_n 0, 1) := by decide +kernel
theorem dX4_resolve_172 : decode cX4_resolve 172 = .ok (.iload 7, 2) := by decide +kernel
theorem dX4_resolve_174 : decode cX4_resolve 174 = .ok (.invokevirtual 156, 3) := by decide +kernel
theorem dX4_resolve_177 : decode cX4_resolve 177 = .ok (.iand, 1) := by decide +kernel
theorem dX4_resolve_178 : decode cX4_resolve 178 = .ok (.invokevirtual 149, 3) := by decide +kernel
theorem dX4_resolve_181 : decode cX4_resolve 181 = .ok (.goto 11, 3) := by decide +kernel
theorem dX4_resolve_184 : decode cX4_resolve 184 = .ok (.aload_n 0, 1) := by decide +kernel
theorem dX4_resolve_185 : decode cX4_resolve 185 = .ok (.iload 4, 2) := by decide +kernel
theorem dX4_resolve_187 : decode cX4_resolve 187 = .ok (.iconst (-1), 1) := by decide +kernel
theorem dX4_resolve_188 : decode cX4_resolve 188 = .ok (.iconst 5, 1) := by decide +kernel
theorem dX4_resolve_189 : decode cX4_resolve 189 = .ok (.invokevirtual 146, 3) := by decide +kernel
theorem dX4_resolve_192 : decode cX4_resolve 192 = .ok (.return_, 1) := by decide +kernel
theorem dX4_namedWith_0 : decode cX4_namedWith 0 = .ok (.iload_n 1, 1) := by decide +kernel
theorem dX4_namedWith_1 : decode cX4_namedWith 1 = .ok (.ifCond .lt 18, 3) := by decide +kernel
theorem dX4_namedWith_4 : decode cX4_namedWith 4 = .ok (.iload_n 1, 1) := by decide +kernel
theorem dX4_namedWith_5 : decode cX4_namedWith 5 = .ok (.bipush 6, 2) := by decide +kernel
theorem dX4_namedWith_7 : decode cX4_namedWith 7 = .ok (.if_icmp .ge 12, 3) := by decide +kernel
theorem dX4_namedWith_10 : decode cX4_namedWith 10 = .ok (.aload_n 0, 1) := by decide +kernel
theorem dX4_namedWith_11 : decode cX4_namedWith 11 = .ok (.getfield 34, 3) := by decide +kernel
theorem dX4_namedWith_14 : decode cX4_namedWith 14 = .ok (.iload_n 1, 1) := by decide +kernel
theorem dX4_namedWith_15 : decode cX4_namedWith 15 = .ok (.iaload, 1) := by decide +kernel
theorem dX4_namedWith_16 : decode cX4_namedWith 16 = .ok (.goto 4, 3) := by decide +kernel
theorem dX4_namedWith_19 : decode cX4_namedWith 19 = .ok (.iconst 0, 1) := by decide +kernel
theorem dX4_namedWith_20 : decode cX4_namedWith 20 = .ok (.ireturn, 1) := by decide +kernel
theorem dX4_foundByNote_0 : decode cX4_foundByNote 0 = .ok (.iload_n 1, 1) := by decide +kernel
theorem dX4_foundByNote_1 : decode cX4_foundByNote 1 = .ok (.ifCond .lt 18, 3) := by decide +kernel
theorem dX4_foundByNote_4 : decode cX4_foundByNote 4 = .ok (.iload_n 1, 1) := by decide +kernel
theorem dX4_foundByNote_5 : decode cX4_foundByNote 5 = .ok (.bipush 8, 2) := by decide +kernel
theorem dX4_foundByNote_7 : decode cX4_foundByNote 7 = .ok (.if_icmp .ge 12, 3) := by decide +kernel
theorem dX4_foundByNote_10 : decode cX4_foundByNote 10 = .ok (.aload_n 0, 1) := by decide +kernel
theorem dX4_foundByNote_11 : decode cX4_foundByNote 11 = .ok (.getfield 37, 3) := by decide +kernel
theorem dX4_foundByNote_14 : decode cX4_foundByNote 14 = .ok (.iload_n 1, 1) := by decide +kernel
theorem dX4_foundByNote_15 : decode cX4_foundByNote 15 = .ok (.iaload, 1) := by decide +kernel
theorem dX4_foundByNote_16 : decode cX4_foundByNote 16 = .ok (.goto 4, 3) := by decide +kernel
theorem dX4_foundByNote_19 : decode cX4_foundByNote 19 = .ok (.iconst 0, 1) := by decide +kernel
theorem dX4_foundByNote_20 : decode cX4_foundByNote 20 = .ok (.ireturn, 1) := by decide +kernel
set_option maxRecDepth 20000 in
theorem ggX4_pointedAt_X1_slotOf : GoodIn wsX4_pointedAt wsX1_slotOf := goodIn_r _ [5] (by decide +kernel) (by decide +kernel)
set_option maxRecDepth 20000 in
theorem gX4_pointedAt_X1_slotOf : GoodIn wsX4_pointedAt (va_wsS RX4 127 yX1_slotOf wsX1_slotOf) := goodIn_app (goodIn_of _ (by decide +kernel)) ggX4_pointedAt_X1_slotOf
set_option maxRecDepth 20000 in
theorem ggX4_pointedAt_X1_size : GoodIn wsX4_pointedAt wsX1_size := goodIn_r _ [9, 10, 11, 28, 29, 30, 31] (by decide +kernel) (by decide +kernel)
set_option maxRecDepth 20000 in
theorem gX4_pointedAt_X1_size : GoodIn wsX4_pointedAt (wsV RX4 89 RX1 yX1_size wsX1_size) := goodIn_app (goodIn_of _ (by decide +kernel)) ggX4_pointedAt_X1_size
theorem dX4_pointedAt_0 : decode cX4_pointedAt 0 = .ok (.iload_n 2, 1) := by decide +kernel
theorem dX4_pointedAt_1 : decode cX4_pointedAt 1 = .ok (.ifCond .le 11, 3) := by decide +kernel
theorem dX4_pointedAt_4 : decode cX4_pointedAt 4 = .ok (.iload_n 1, 1) := by decide +kernel
theorem dX4_pointedAt_5 : decode cX4_pointedAt 5 = .ok (.iload_n 2, 1) := by decide +kernel
theorem dX4_pointedAt_6 : decode cX4_pointedAt 6 = .ok (.iconst 1, 1) := by decide +kernel
theorem dX4_pointedAt_7 : decode cX4_pointedAt 7 = .ok (.isub, 1) := by decide +kernel
theorem dX4_pointedAt_8 : decode cX4_pointedAt 8 = .ok (.invokestatic 127, 3) := by decide +kernel
theorem dX4_pointedAt_11 : decode cX4_pointedAt 11 = .ok (.ireturn, 1) := by decide +kernel
theorem dX4_pointedAt_12 : decode cX4_pointedAt 12 = .ok (.iload_n 3, 1) := by decide +kernel
theorem dX4_pointedAt_13 : decode cX4_pointedAt 13 = .ok (.ifCond .lt 23, 3) := by decide +kernel
theorem dX4_pointedAt_16 : decode cX4_pointedAt 16 = .ok (.aload_n 0, 1) := by decide +kernel
theorem dX4_pointedAt_17 : decode cX4_pointedAt 17 = .ok (.getfield 12, 3) := by decide +kernel
theorem dX4_pointedAt_20 : decode cX4_pointedAt 20 = .ok (.iload_n 3, 1) := by decide +kernel
theorem dX4_pointedAt_21 : decode cX4_pointedAt 21 = .ok (.invokevirtual 89, 3) := by decide +kernel
theorem dX4_pointedAt_24 : decode cX4_pointedAt 24 = .ok (.iconst 1, 1) := by decide +kernel
theorem dX4_pointedAt_25 : decode cX4_pointedAt 25 = .ok (.if_icmp .ne 11, 3) := by decide +kernel
theorem dX4_pointedAt_28 : decode cX4_pointedAt 28 = .ok (.iload_n 3, 1) := by decide +kernel
theorem dX4_pointedAt_29 : decode cX4_pointedAt 29 = .ok (.iconst 0, 1) := by decide +kernel
theorem dX4_pointedAt_30 : decode cX4_pointedAt 30 = .ok (.invokestatic 127, 3) := by decide +kernel
theorem dX4_pointedAt_33 : decode cX4_pointedAt 33 = .ok (.goto 4, 3) := by decide +kernel
theorem dX4_pointedAt_36 : decode cX4_pointedAt 36 = .ok (.iconst (-1), 1) := by decide +kernel
theorem dX4_pointedAt_37 : decode cX4_pointedAt 37 = .ok (.ireturn, 1) := by decide +kernel
set_option maxRecDepth 20000 in
theorem ggX4_settleOnly_J6_bitCount_0f7a4 : GoodIn wsX4_settleOnly wsJ6_bitCount_0f7a4 := goodIn_r _ [4, 5, 6, 7] (by decide +kernel) (by decide +kernel)
set_option maxRecDepth 20000 in
theorem gX4_settleOnly_J6_bitCount_0f7a4 : GoodIn wsX4_settleOnly (va_wsS RX4 159 yJ6_bitCount_0f7a4 wsJ6_bitCount_0f7a4) := goodIn_app (goodIn_of _ (by decide +kernel)) ggX4_settleOnly_J6_bitCount_0f7a4
set_option maxRecDepth 20000 in
theorem ggX4_settleOnly_X4_settle : GoodIn wsX4_settleOnly wsX4_settle := goodIn_r _ [12, 13, 14, 15, 16, 17, 18, 19, 20, 21, 22, 23, 24, 25, 26, 27, 28, 29, 30, 31, 32, 33] (by decide +kernel) (by decide +kernel)
set_option maxRecDepth 20000 in
theorem gX4_settleOnly_X4_settle : GoodIn wsX4_settleOnly (wsV RX4 146 RX4 yX4_settle wsX4_settle) := goodIn_app (goodIn_of _ (by decide +kernel)) ggX4_settleOnly_X4_settle
theorem dX4_settleOnly_0 : decode cX4_settleOnly 0 = .ok (.iload_n 2, 1) := by decide +kernel
theorem dX4_settleOnly_1 : decode cX4_settleOnly 1 = .ok (.invokestatic 159, 3) := by decide +kernel
theorem dX4_settleOnly_4 : decode cX4_settleOnly 4 = .ok (.istore_n 3, 1) := by decide +kernel
theorem dX4_settleOnly_5 : decode cX4_settleOnly 5 = .ok (.iload_n 3, 1) := by decide +kernel
theorem dX4_settleOnly_6 : decode cX4_settleOnly 6 = .ok (.iconst 1, 1) := by decide +kernel
theorem dX4_settleOnly_7 : decode cX4_settleOnly 7 = .ok (.if_icmp .ne 12, 3) := by decide +kernel
theorem dX4_settleOnly_10 : decode cX4_settleOnly 10 = .ok (.iload_n 2, 1) := by decide +kernel
theorem dX4_settleOnly_11 : decode cX4_settleOnly 11 = .ok (.iconst 1, 1) := by decide +kernel
theorem dX4_settleOnly_12 : decode cX4_settleOnly 12 = .ok (.isub, 1) := by decide +kernel
theorem dX4_settleOnly_13 : decode cX4_settleOnly 13 = .ok (.invokestatic 159, 3) := by decide +kernel
theorem dX4_settleOnly_16 : decode cX4_settleOnly 16 = .ok (.goto 4, 3) := by decide +kernel
theorem dX4_settleOnly_19 : decode cX4_settleOnly 19 = .ok (.iconst (-1), 1) := by decide +kernel
theorem dX4_settleOnly_20 : decode cX4_settleOnly 20 = .ok (.istore 4, 2) := by decide +kernel
theorem dX4_settleOnly_22 : decode cX4_settleOnly 22 = .ok (.aload_n 0, 1) := by decide +kernel
theorem dX4_settleOnly_23 : decode cX4_settleOnly 23 = .ok (.iload_n 1, 1) := by decide +kernel
theorem dX4_settleOnly_24 : decode cX4_settleOnly 24 = .ok (.iload 4, 2) := by decide +kernel
theorem dX4_settleOnly_26 : decode cX4_settleOnly 26 = .ok (.iload_n 3, 1) := by decide +kernel
theorem dX4_settleOnly_27 : decode cX4_settleOnly 27 = .ok (.ifCond .ne 7, 3) := by decide +kernel
theorem dX4_settleOnly_30 : decode cX4_settleOnly 30 = .ok (.iconst 1, 1) := by decide +kernel
theorem dX4_settleOnly_31 : decode cX4_settleOnly 31 = .ok (.goto 4, 3) := by decide +kernel
theorem dX4_settleOnly_34 : decode cX4_settleOnly 34 = .ok (.iconst 2, 1) := by decide +kernel
theorem dX4_settleOnly_35 : decode cX4_settleOnly 35 = .ok (.invokevirtual 146, 3) := by decide +kernel
theorem dX4_settleOnly_38 : decode cX4_settleOnly 38 = .ok (.return_, 1) := by decide +kernel
theorem dX4_settle_0 : decode cX4_settle 0 = .ok (.iload_n 1, 1) := by decide +kernel
theorem dX4_settle_1 : decode cX4_settle 1 = .ok (.iconst 4, 1) := by decide +kernel
theorem dX4_settle_2 : decode cX4_settle 2 = .ok (.idiv, 1) := by decide +kernel
theorem dX4_settle_3 : decode cX4_settle 3 = .ok (.istore 4, 2) := by decide +kernel
theorem dX4_settle_5 : decode cX4_settle 5 = .ok (.iload_n 1, 1) := by decide +kernel
theorem dX4_settle_6 : decode cX4_settle 6 = .ok (.ifCond .lt 16, 3) := by decide +kernel
theorem dX4_settle_9 : decode cX4_settle 9 = .ok (.iload_n 1, 1) := by decide +kernel
theorem dX4_settle_10 : decode cX4_settle 10 = .ok (.bipush 32, 2) := by decide +kernel
theorem dX4_settle_12 : decode cX4_settle 12 = .ok (.if_icmp .ge 10, 3) := by decide +kernel
theorem dX4_settle_15 : decode cX4_settle 15 = .ok (.iload 4, 2) := by decide +kernel
theorem dX4_settle_17 : decode cX4_settle 17 = .ok (.bipush 8, 2) := by decide +kernel
theorem dX4_settle_19 : decode cX4_settle 19 = .ok (.if_icmp .lt 4, 3) := by decide +kernel
theorem dX4_settle_22 : decode cX4_settle 22 = .ok (.return_, 1) := by decide +kernel
theorem dX4_settle_23 : decode cX4_settle 23 = .ok (.aload_n 0, 1) := by decide +kernel
theorem dX4_settle_24 : decode cX4_settle 24 = .ok (.getfield 22, 3) := by decide +kernel
theorem dX4_settle_27 : decode cX4_settle 27 = .ok (.iload_n 1, 1) := by decide +kernel
theorem dX4_settle_28 : decode cX4_settle 28 = .ok (.iload_n 2, 1) := by decide +kernel
theorem dX4_settle_29 : decode cX4_settle 29 = .ok (.iastore, 1) := by decide +kernel
theorem dX4_settle_30 : decode cX4_settle 30 = .ok (.aload_n 0, 1) := by decide +kernel
theorem dX4_settle_31 : decode cX4_settle 31 = .ok (.getfield 25, 3) := by decide +kernel
theorem dX4_settle_34 : decode cX4_settle 34 = .ok (.iload_n 1, 1) := by decide +kernel
theorem dX4_settle_35 : decode cX4_settle 35 = .ok (.iload_n 2, 1) := by decide +kernel
theorem dX4_settle_36 : decode cX4_settle 36 = .ok (.ifCond .ge 7, 3) := by decide +kernel
theorem dX4_settle_39 : decode cX4_settle 39 = .ok (.iload_n 3, 1) := by decide +kernel
theorem dX4_settle_40 : decode cX4_settle 40 = .ok (.goto 4, 3) := by decide +kernel
theorem dX4_settle_43 : decode cX4_settle 43 = .ok (.iconst 0, 1) := by decide +kernel
theorem dX4_settle_44 : decode cX4_settle 44 = .ok (.iastore, 1) := by decide +kernel
theorem dX4_settle_45 : decode cX4_settle 45 = .ok (.iload_n 2, 1) := by decide +kernel
theorem dX4_settle_46 : decode cX4_settle 46 = .ok (.ifCond .ge 16, 3) := by decide +kernel
theorem dX4_settle_49 : decode cX4_settle 49 = .ok (.aload_n 0, 1) := by decide +kernel
theorem dX4_settle_50 : decode cX4_settle 50 = .ok (.dup, 1) := by decide +kernel
theorem dX4_settle_51 : decode cX4_settle 51 = .ok (.getfield 53, 3) := by decide +kernel
theorem dX4_settle_54 : decode cX4_settle 54 = .ok (.iconst 1, 1) := by decide +kernel
theorem dX4_settle_55 : decode cX4_settle 55 = .ok (.iadd, 1) := by decide +kernel
theorem dX4_settle_56 : decode cX4_settle 56 = .ok (.putfield 53, 3) := by decide +kernel
theorem dX4_settle_59 : decode cX4_settle 59 = .ok (.goto 26, 3) := by decide +kernel
theorem dX4_settle_62 : decode cX4_settle 62 = .ok (.aload_n 0, 1) := by decide +kernel
theorem dX4_settle_63 : decode cX4_settle 63 = .ok (.dup, 1) := by decide +kernel
theorem dX4_settle_64 : decode cX4_settle 64 = .ok (.getfield 50, 3) := by decide +kernel
theorem dX4_settle_67 : decode cX4_settle 67 = .ok (.iconst 1, 1) := by decide +kernel
theorem dX4_settle_68 : decode cX4_settle 68 = .ok (.iadd, 1) := by decide +kernel
theorem dX4_settle_69 : decode cX4_settle 69 = .ok (.putfield 50, 3) := by decide +kernel
theorem dX4_settle_72 : decode cX4_settle 72 = .ok (.aload_n 0, 1) := by decide +kernel
theorem dX4_settle_73 : decode cX4_settle 73 = .ok (.getfield 37, 3) := by decide +kernel
theorem dX4_settle_76 : decode cX4_settle 76 = .ok (.iload 4, 2) := by decide +kernel
theorem dX4_settle_78 : decode cX4_settle 78 = .ok (.dup2, 1) := by decide +kernel
theorem dX4_settle_79 : decode cX4_settle 79 = .ok (.iaload, 1) := by decide +kernel
theorem dX4_settle_80 : decode cX4_settle 80 = .ok (.iconst 1, 1) := by decide +kernel
theorem dX4_settle_81 : decode cX4_settle 81 = .ok (.iload_n 2, 1) := by decide +kernel
theorem dX4_settle_82 : decode cX4_settle 82 = .ok (.ishl, 1) := by decide +kernel
theorem dX4_settle_83 : decode cX4_settle 83 = .ok (.ior, 1) := by decide +kernel
theorem dX4_settle_84 : decode cX4_settle 84 = .ok (.iastore, 1) := by decide +kernel
theorem dX4_settle_85 : decode cX4_settle 85 = .ok (.return_, 1) := by decide +kernel
set_option maxRecDepth 20000 in
theorem ggX4_firstCite_X1_cite : GoodIn wsX4_firstCite wsX1_cite := goodIn_r _ [8, 9, 26, 27, 28, 29] (by decide +kernel) (by decide +kernel)
set_option maxRecDepth 20000 in
theorem gX4_firstCite_X1_cite : GoodIn wsX4_firstCite (wsV RX4 106 RX1 yX1_cite wsX1_cite) := goodIn_app (goodIn_of _ (by decide +kernel)) ggX4_firstCite_X1_cite
theorem dX4_firstCite_0 : decode cX4_firstCite 0 = .ok (.iload_n 1, 1) := by decide +kernel
theorem dX4_firstCite_1 : decode cX4_firstCite 1 = .ok (.ifCond .lt 33, 3) := by decide +kernel
theorem dX4_firstCite_4 : decode cX4_firstCite 4 = .ok (.iload_n 1, 1) := by decide +kernel
theorem dX4_firstCite_5 : decode cX4_firstCite 5 = .ok (.aload_n 0, 1) := by decide +kernel
theorem dX4_firstCite_6 : decode cX4_firstCite 6 = .ok (.getfield 47, 3) := by decide +kernel
theorem dX4_firstCite_9 : decode cX4_firstCite 9 = .ok (.if_icmp .ge 25, 3) := by decide +kernel
theorem dX4_firstCite_12 : decode cX4_firstCite 12 = .ok (.iload_n 1, 1) := by decide +kernel
theorem dX4_firstCite_13 : decode cX4_firstCite 13 = .ok (.bipush 32, 2) := by decide +kernel
theorem dX4_firstCite_15 : decode cX4_firstCite 15 = .ok (.if_icmp .ge 19, 3) := by decide +kernel
theorem dX4_firstCite_18 : decode cX4_firstCite 18 = .ok (.aload_n 0, 1) := by decide +kernel
theorem dX4_firstCite_19 : decode cX4_firstCite 19 = .ok (.getfield 12, 3) := by decide +kernel
theorem dX4_firstCite_22 : decode cX4_firstCite 22 = .ok (.aload_n 0, 1) := by decide +kernel
theorem dX4_firstCite_23 : decode cX4_firstCite 23 = .ok (.getfield 28, 3) := by decide +kernel
theorem dX4_firstCite_26 : decode cX4_firstCite 26 = .ok (.iload_n 1, 1) := by decide +kernel
theorem dX4_firstCite_27 : decode cX4_firstCite 27 = .ok (.iaload, 1) := by decide +kernel
theorem dX4_firstCite_28 : decode cX4_firstCite 28 = .ok (.invokevirtual 106, 3) := by decide +kernel
theorem dX4_firstCite_31 : decode cX4_firstCite 31 = .ok (.goto 4, 3) := by decide +kernel
theorem dX4_firstCite_34 : decode cX4_firstCite 34 = .ok (.lconst 0, 1) := by decide +kernel
theorem dX4_firstCite_35 : decode cX4_firstCite 35 = .ok (.lreturn, 1) := by decide +kernel
theorem dX4_membersOf_0 : decode cX4_membersOf 0 = .ok (.iload_n 1, 1) := by decide +kernel
theorem dX4_membersOf_1 : decode cX4_membersOf 1 = .ok (.ifCond .lt 26, 3) := by decide +kernel
theorem dX4_membersOf_4 : decode cX4_membersOf 4 = .ok (.iload_n 1, 1) := by decide +kernel
theorem dX4_membersOf_5 : decode cX4_membersOf 5 = .ok (.aload_n 0, 1) := by decide +kernel
theorem dX4_membersOf_6 : decode cX4_membersOf 6 = .ok (.getfield 47, 3) := by decide +kernel
theorem dX4_membersOf_9 : decode cX4_membersOf 9 = .ok (.if_icmp .ge 18, 3) := by decide +kernel
theorem dX4_membersOf_12 : decode cX4_membersOf 12 = .ok (.iload_n 1, 1) := by decide +kernel
theorem dX4_membersOf_13 : decode cX4_membersOf 13 = .ok (.bipush 32, 2) := by decide +kernel
theorem dX4_membersOf_15 : decode cX4_membersOf 15 = .ok (.if_icmp .ge 12, 3) := by decide +kernel
theorem dX4_membersOf_18 : decode cX4_membersOf 18 = .ok (.aload_n 0, 1) := by decide +kernel
theorem dX4_membersOf_19 : decode cX4_membersOf 19 = .ok (.getfield 31, 3) := by decide +kernel
theorem dX4_membersOf_22 : decode cX4_membersOf 22 = .ok (.iload_n 1, 1) := by decide +kernel
theorem dX4_membersOf_23 : decode cX4_membersOf 23 = .ok (.iaload, 1) := by decide +kernel
theorem dX4_membersOf_24 : decode cX4_membersOf 24 = .ok (.goto 4, 3) := by decide +kernel
theorem dX4_membersOf_27 : decode cX4_membersOf 27 = .ok (.iconst 0, 1) := by decide +kernel
theorem dX4_membersOf_28 : decode cX4_membersOf 28 = .ok (.ireturn, 1) := by decide +kernel
set_option maxRecDepth 20000 in
theorem ggX4_isMember_X4_membersOf : GoodIn wsX4_isMember wsX4_membersOf := goodIn_r _ [5, 6, 7, 8, 9, 10, 11, 12, 13, 14, 15, 16, 17, 18, 19, 20, 21, 22, 23] (by decide +kernel) (by decide +kernel)
set_option maxRecDepth 20000 in
theorem gX4_isMember_X4_membersOf : GoodIn wsX4_isMember (wsV RX4 164 RX4 yX4_membersOf wsX4_membersOf) := goodIn_app (goodIn_of _ (by decide +kernel)) ggX4_isMember_X4_membersOf
theorem dX4_isMember_0 : decode cX4_isMember 0 = .ok (.aload_n 0, 1) := by decide +kernel
theorem dX4_isMember_1 : decode cX4_isMember 1 = .ok (.iload_n 1, 1) := by decide +kernel
theorem dX4_isMember_2 : decode cX4_isMember 2 = .ok (.invokevirtual 164, 3) := by decide +kernel
theorem dX4_isMember_5 : decode cX4_isMember 5 = .ok (.iload_n 2, 1) := by decide +kernel
theorem dX4_isMember_6 : decode cX4_isMember 6 = .ok (.ishr, 1) := by decide +kernel
theorem dX4_isMember_7 : decode cX4_isMember 7 = .ok (.iconst 1, 1) := by decide +kernel
theorem dX4_isMember_8 : decode cX4_isMember 8 = .ok (.iand, 1) := by decide +kernel
theorem dX4_isMember_9 : decode cX4_isMember 9 = .ok (.iconst 1, 1) := by decide +kernel
theorem dX4_isMember_10 : decode cX4_isMember 10 = .ok (.if_icmp .ne 7, 3) := by decide +kernel
theorem dX4_isMember_13 : decode cX4_isMember 13 = .ok (.iconst 1, 1) := by decide +kernel
theorem dX4_isMember_14 : decode cX4_isMember 14 = .ok (.goto 4, 3) := by decide +kernel
theorem dX4_isMember_17 : decode cX4_isMember 17 = .ok (.iconst 0, 1) := by decide +kernel
theorem dX4_isMember_18 : decode cX4_isMember 18 = .ok (.ireturn, 1) := by decide +kernel
set_option maxRecDepth 20000 in
theorem ggX4_pinState_X4_caseOf : GoodIn wsX4_pinState wsX4_caseOf := goodIn_r _ [6, 7, 48, 49, 50, 51, 52, 53, 54, 55, 56, 57, 58, 59, 60, 61, 62, 63] (by decide +kernel) (by decide +kernel)
set_option maxRecDepth 20000 in
theorem gX4_pinState_X4_caseOf : GoodIn wsX4_pinState (wsV RX4 143 RX4 yX4_caseOf wsX4_caseOf) := goodIn_app (goodIn_of _ (by decide +kernel)) ggX4_pinState_X4_caseOf
set_option maxRecDepth 20000 in
theorem ggX4_pinState_X1_cite : GoodIn wsX4_pinState wsX1_cite := goodIn_r _ [12, 13, 64, 65, 66, 67] (by decide +kernel) (by decide +kernel)
set_option maxRecDepth 20000 in
theorem gX4_pinState_X1_cite : GoodIn wsX4_pinState (wsV RX4 106 RX1 yX1_cite wsX1_cite) := goodIn_app (goodIn_of _ (by decide +kernel)) ggX4_pinState_X1_cite
set_option maxRecDepth 20000 in
theorem ggX4_pinState_X0_pin : GoodIn wsX4_pinState wsX0_pin := goodIn_r _ [17] (by decide +kernel) (by decide +kernel)
set_option maxRecDepth 20000 in
theorem gX4_pinState_X0_pin : GoodIn wsX4_pinState (va_wsS RX4 167 yX0_pin wsX0_pin) := goodIn_app (goodIn_of _ (by decide +kernel)) ggX4_pinState_X0_pin
set_option maxRecDepth 20000 in
theorem ggX4_pinState_X4_firstCite : GoodIn wsX4_pinState wsX4_firstCite := goodIn_r _ [21, 22, 1, 23, 8, 9, 10, 11, 12, 13, 48, 49, 50, 51, 52, 53, 54, 55, 56, 57, 58, 59, 60, 61, 62, 63, 64, 65, 66, 67] (by decide +kernel) (by decide +kernel)
set_option maxRecDepth 20000 in
theorem gX4_pinState_X4_firstCite : GoodIn wsX4_pinState (wsV RX4 170 RX4 yX4_firstCite wsX4_firstCite) := goodIn_app (goodIn_of _ (by decide +kernel)) ggX4_pinState_X4_firstCite
set_option maxRecDepth 20000 in
theorem ggX4_pinState_X0_report : GoodIn wsX4_pinState wsX0_report := goodIn_r _ [26] (by decide +kernel) (by decide +kernel)
set_option maxRecDepth 20000 in
theorem gX4_pinState_X0_report : GoodIn wsX4_pinState (va_wsS RX4 173 yX0_report wsX0_report) := goodIn_app (goodIn_of _ (by decide +kernel)) ggX4_pinState_X0_report
set_option maxRecDepth 20000 in
theorem ggX4_pinState_X4_anotherCaseBegins : GoodIn wsX4_pinState wsX4_anotherCaseBegins := goodIn_r _ [30, 1, 31, 32, 33, 5, 34, 35, 36, 37, 38, 39, 40, 41, 42, 43, 22, 44, 8, 9, 10, 11, 12, 13, 24, 25, 16, 26, 45, 46, 47, 48, 49, 50, 51, 52, 53, 54, 55, 56, 57, 58, 59, 60, 61, 62, 63, 64, 65, 66, 67] (by decide +kernel) (by decide +kernel)
set_option maxRecDepth 20000 in
theorem gX4_pinState_X4_anotherCaseBegins : GoodIn wsX4_pinState (wsV RX4 176 RX4 yX4_anotherCaseBegins wsX4_anotherCaseBegins) := goodIn_app (goodIn_of _ (by decide +kernel)) ggX4_pinState_X4_anotherCaseBegins
theorem dX4_pinState_0 : decode cX4_pinState 0 = .ok (.aload_n 0, 1) := by decide +kernel
theorem dX4_pinState_1 : decode cX4_pinState 1 = .ok (.iload_n 1, 1) := by decide +kernel
theorem dX4_pinState_2 : decode cX4_pinState 2 = .ok (.invokevirtual 143, 3) := by decide +kernel
theorem dX4_pinState_5 : decode cX4_pinState 5 = .ok (.istore_n 2, 1) := by decide +kernel
theorem dX4_pinState_6 : decode cX4_pinState 6 = .ok (.aload_n 0, 1) := by decide +kernel
theorem dX4_pinState_7 : decode cX4_pinState 7 = .ok (.getfield 12, 3) := by decide +kernel
theorem dX4_pinState_10 : decode cX4_pinState 10 = .ok (.iload_n 1, 1) := by decide +kernel
theorem dX4_pinState_11 : decode cX4_pinState 11 = .ok (.invokevirtual 106, 3) := by decide +kernel
theorem dX4_pinState_14 : decode cX4_pinState 14 = .ok (.invokestatic 167, 3) := by decide +kernel
theorem dX4_pinState_17 : decode cX4_pinState 17 = .ok (.istore_n 3, 1) := by decide +kernel
theorem dX4_pinState_18 : decode cX4_pinState 18 = .ok (.iload_n 2, 1) := by decide +kernel
theorem dX4_pinState_19 : decode cX4_pinState 19 = .ok (.ifCond .ge 5, 3) := by decide +kernel
theorem dX4_pinState_22 : decode cX4_pinState 22 = .ok (.iconst 4, 1) := by decide +kernel
theorem dX4_pinState_23 : decode cX4_pinState 23 = .ok (.ireturn, 1) := by decide +kernel
theorem dX4_pinState_24 : decode cX4_pinState 24 = .ok (.iload_n 3, 1) := by decide +kernel
theorem dX4_pinState_25 : decode cX4_pinState 25 = .ok (.ifCond .ne 5, 3) := by decide +kernel
theorem dX4_pinState_28 : decode cX4_pinState 28 = .ok (.iconst 1, 1) := by decide +kernel
theorem dX4_pinState_29 : decode cX4_pinState 29 = .ok (.ireturn, 1) := by decide +kernel
theorem dX4_pinState_30 : decode cX4_pinState 30 = .ok (.aload_n 0, 1) := by decide +kernel
theorem dX4_pinState_31 : decode cX4_pinState 31 = .ok (.iload_n 2, 1) := by decide +kernel
theorem dX4_pinState_32 : decode cX4_pinState 32 = .ok (.invokevirtual 170, 3) := by decide +kernel
theorem dX4_pinState_35 : decode cX4_pinState 35 = .ok (.invokestatic 173, 3) := by decide +kernel
theorem dX4_pinState_38 : decode cX4_pinState 38 = .ok (.istore 4, 2) := by decide +kernel
theorem dX4_pinState_40 : decode cX4_pinState 40 = .ok (.iload_n 3, 1) := by decide +kernel
theorem dX4_pinState_41 : decode cX4_pinState 41 = .ok (.iload 4, 2) := by decide +kernel
theorem dX4_pinState_43 : decode cX4_pinState 43 = .ok (.bipush 100, 2) := by decide +kernel
theorem dX4_pinState_45 : decode cX4_pinState 45 = .ok (.irem, 1) := by decide +kernel
theorem dX4_pinState_46 : decode cX4_pinState 46 = .ok (.if_icmp .ge 5, 3) := by decide +kernel
theorem dX4_pinState_49 : decode cX4_pinState 49 = .ok (.iconst 2, 1) := by decide +kernel
theorem dX4_pinState_50 : decode cX4_pinState 50 = .ok (.ireturn, 1) := by decide +kernel
theorem dX4_pinState_51 : decode cX4_pinState 51 = .ok (.aload_n 0, 1) := by decide +kernel
theorem dX4_pinState_52 : decode cX4_pinState 52 = .ok (.iload_n 2, 1) := by decide +kernel
theorem dX4_pinState_53 : decode cX4_pinState 53 = .ok (.iload 4, 2) := by decide +kernel
theorem dX4_pinState_55 : decode cX4_pinState 55 = .ok (.iload 4, 2) := by decide +kernel
theorem dX4_pinState_57 : decode cX4_pinState 57 = .ok (.iload 4, 2) := by decide +kernel
theorem dX4_pinState_59 : decode cX4_pinState 59 = .ok (.bipush 100, 2) := by decide +kernel
theorem dX4_pinState_61 : decode cX4_pinState 61 = .ok (.irem, 1) := by decide +kernel
theorem dX4_pinState_62 : decode cX4_pinState 62 = .ok (.isub, 1) := by decide +kernel
theorem dX4_pinState_63 : decode cX4_pinState 63 = .ok (.iload_n 3, 1) := by decide +kernel
theorem dX4_pinState_64 : decode cX4_pinState 64 = .ok (.iadd, 1) := by decide +kernel
theorem dX4_pinState_65 : decode cX4_pinState 65 = .ok (.invokevirtual 176, 3) := by decide +kernel
theorem dX4_pinState_68 : decode cX4_pinState 68 = .ok (.ifCond .eq 7, 3) := by decide +kernel
theorem dX4_pinState_71 : decode cX4_pinState 71 = .ok (.iconst 3, 1) := by decide +kernel
theorem dX4_pinState_72 : decode cX4_pinState 72 = .ok (.goto 4, 3) := by decide +kernel
theorem dX4_pinState_75 : decode cX4_pinState 75 = .ok (.iconst 0, 1) := by decide +kernel
theorem dX4_pinState_76 : decode cX4_pinState 76 = .ok (.ireturn, 1) := by decide +kernel
set_option maxRecDepth 20000 in
theorem ggX4_anotherCaseBegins_X4_isFull : GoodIn wsX4_anotherCaseBegins wsX4_isFull := goodIn_r _ [6, 7, 31, 32, 33, 34, 35, 36, 37, 38, 39, 40, 41, 42, 43, 44, 45, 46] (by decide +kernel) (by decide +kernel)
set_option maxRecDepth 20000 in
theorem gX4_anotherCaseBegins_X4_isFull : GoodIn wsX4_anotherCaseBegins (wsV RX4 103 RX4 yX4_isFull wsX4_isFull) := goodIn_app (goodIn_of _ (by decide +kernel)) ggX4_anotherCaseBegins_X4_isFull
set_option maxRecDepth 20000 in
theorem ggX4_anotherCaseBegins_X4_isMember : GoodIn wsX4_anotherCaseBegins wsX4_isMember := goodIn_r _ [11, 12, 13, 14, 5, 15, 16, 17, 31, 32, 33, 34, 35, 36, 37, 38, 39, 40, 41, 42, 43, 44, 45, 46] (by decide +kernel) (by decide +kernel)
set_option maxRecDepth 20000 in
theorem gX4_anotherCaseBegins_X4_isMember : GoodIn wsX4_anotherCaseBegins (wsV RX4 180 RX4 yX4_isMember wsX4_isMember) := goodIn_app (goodIn_of _ (by decide +kernel)) ggX4_anotherCaseBegins_X4_isMember
set_option maxRecDepth 20000 in
theorem ggX4_anotherCaseBegins_X1_cite : GoodIn wsX4_anotherCaseBegins wsX1_cite := goodIn_r _ [22, 23, 47, 48, 49, 50] (by decide +kernel) (by decide +kernel)
set_option maxRecDepth 20000 in
theorem gX4_anotherCaseBegins_X1_cite : GoodIn wsX4_anotherCaseBegins (wsV RX4 106 RX1 yX1_cite wsX1_cite) := goodIn_app (goodIn_of _ (by decide +kernel)) ggX4_anotherCaseBegins_X1_cite
set_option maxRecDepth 20000 in
theorem ggX4_anotherCaseBegins_X0_report : GoodIn wsX4_anotherCaseBegins wsX0_report := goodIn_r _ [27] (by decide +kernel) (by decide +kernel)
set_option maxRecDepth 20000 in
theorem gX4_anotherCaseBegins_X0_report : GoodIn wsX4_anotherCaseBegins (va_wsS RX4 173 yX0_report wsX0_report) := goodIn_app (goodIn_of _ (by decide +kernel)) ggX4_anotherCaseBegins_X0_report
set_option maxRecDepth 20000 in
theorem ggX4_anotherCaseBegins_X0_other : GoodIn wsX4_anotherCaseBegins wsX0_other := goodIn_r _ [30] (by decide +kernel) (by decide +kernel)
set_option maxRecDepth 20000 in
theorem gX4_anotherCaseBegins_X0_other : GoodIn wsX4_anotherCaseBegins (va_wsS RX4 184 yX0_other wsX0_other) := goodIn_app (goodIn_of _ (by decide +kernel)) ggX4_anotherCaseBegins_X0_other
theorem dX4_anotherCaseBegins_0 : decode cX4_anotherCaseBegins 0 = .ok (.iconst 0, 1) := by decide +kernel
theorem dX4_anotherCaseBegins_1 : decode cX4_anotherCaseBegins 1 = .ok (.istore 4, 2) := by decide +kernel
theorem dX4_anotherCaseBegins_3 : decode cX4_anotherCaseBegins 3 = .ok (.iload 4, 2) := by decide +kernel
theorem dX4_anotherCaseBegins_5 : decode cX4_anotherCaseBegins 5 = .ok (.bipush 32, 2) := by decide +kernel
theorem dX4_anotherCaseBegins_7 : decode cX4_anotherCaseBegins 7 = .ok (.if_icmp .ge 85, 3) := by decide +kernel
theorem dX4_anotherCaseBegins_10 : decode cX4_anotherCaseBegins 10 = .ok (.aload_n 0, 1) := by decide +kernel
theorem dX4_anotherCaseBegins_11 : decode cX4_anotherCaseBegins 11 = .ok (.iload 4, 2) := by decide +kernel
theorem dX4_anotherCaseBegins_13 : decode cX4_anotherCaseBegins 13 = .ok (.invokevirtual 103, 3) := by decide +kernel
theorem dX4_anotherCaseBegins_16 : decode cX4_anotherCaseBegins 16 = .ok (.ifCond .eq 70, 3) := by decide +kernel
theorem dX4_anotherCaseBegins_19 : decode cX4_anotherCaseBegins 19 = .ok (.aload_n 0, 1) := by decide +kernel
theorem dX4_anotherCaseBegins_20 : decode cX4_anotherCaseBegins 20 = .ok (.iload_n 1, 1) := by decide +kernel
theorem dX4_anotherCaseBegins_21 : decode cX4_anotherCaseBegins 21 = .ok (.iload 4, 2) := by decide +kernel
theorem dX4_anotherCaseBegins_23 : decode cX4_anotherCaseBegins 23 = .ok (.invokevirtual 180, 3) := by decide +kernel
theorem dX4_anotherCaseBegins_26 : decode cX4_anotherCaseBegins 26 = .ok (.ifCond .eq 6, 3) := by decide +kernel
theorem dX4_anotherCaseBegins_29 : decode cX4_anotherCaseBegins 29 = .ok (.goto 57, 3) := by decide +kernel
theorem dX4_anotherCaseBegins_32 : decode cX4_anotherCaseBegins 32 = .ok (.aload_n 0, 1) := by decide +kernel
theorem dX4_anotherCaseBegins_33 : decode cX4_anotherCaseBegins 33 = .ok (.getfield 12, 3) := by decide +kernel
theorem dX4_anotherCaseBegins_36 : decode cX4_anotherCaseBegins 36 = .ok (.iload 4, 2) := by decide +kernel
theorem dX4_anotherCaseBegins_38 : decode cX4_anotherCaseBegins 38 = .ok (.invokevirtual 106, 3) := by decide +kernel
theorem dX4_anotherCaseBegins_41 : decode cX4_anotherCaseBegins 41 = .ok (.invokestatic 173, 3) := by decide +kernel
theorem dX4_anotherCaseBegins_44 : decode cX4_anotherCaseBegins 44 = .ok (.istore 5, 2) := by decide +kernel
theorem dX4_anotherCaseBegins_46 : decode cX4_anotherCaseBegins 46 = .ok (.aload_n 0, 1) := by decide +kernel
theorem dX4_anotherCaseBegins_47 : decode cX4_anotherCaseBegins 47 = .ok (.getfield 12, 3) := by decide +kernel
theorem dX4_anotherCaseBegins_50 : decode cX4_anotherCaseBegins 50 = .ok (.iload 4, 2) := by decide +kernel
theorem dX4_anotherCaseBegins_52 : decode cX4_anotherCaseBegins 52 = .ok (.invokevirtual 106, 3) := by decide +kernel
theorem dX4_anotherCaseBegins_55 : decode cX4_anotherCaseBegins 55 = .ok (.invokestatic 184, 3) := by decide +kernel
theorem dX4_anotherCaseBegins_58 : decode cX4_anotherCaseBegins 58 = .ok (.istore 6, 2) := by decide +kernel
theorem dX4_anotherCaseBegins_60 : decode cX4_anotherCaseBegins 60 = .ok (.iload 5, 2) := by decide +kernel
theorem dX4_anotherCaseBegins_62 : decode cX4_anotherCaseBegins 62 = .ok (.iload_n 2, 1) := by decide +kernel
theorem dX4_anotherCaseBegins_63 : decode cX4_anotherCaseBegins 63 = .ok (.if_icmp .le 9, 3) := by decide +kernel
theorem dX4_anotherCaseBegins_66 : decode cX4_anotherCaseBegins 66 = .ok (.iload 5, 2) := by decide +kernel
theorem dX4_anotherCaseBegins_68 : decode cX4_anotherCaseBegins 68 = .ok (.iload_n 3, 1) := by decide +kernel
theorem dX4_anotherCaseBegins_69 : decode cX4_anotherCaseBegins 69 = .ok (.if_icmp .le 15, 3) := by decide +kernel
theorem dX4_anotherCaseBegins_72 : decode cX4_anotherCaseBegins 72 = .ok (.iload 6, 2) := by decide +kernel
theorem dX4_anotherCaseBegins_74 : decode cX4_anotherCaseBegins 74 = .ok (.iload_n 2, 1) := by decide +kernel
theorem dX4_anotherCaseBegins_75 : decode cX4_anotherCaseBegins 75 = .ok (.if_icmp .le 11, 3) := by decide +kernel
theorem dX4_anotherCaseBegins_78 : decode cX4_anotherCaseBegins 78 = .ok (.iload 6, 2) := by decide +kernel
theorem dX4_anotherCaseBegins_80 : decode cX4_anotherCaseBegins 80 = .ok (.iload_n 3, 1) := by decide +kernel
theorem dX4_anotherCaseBegins_81 : decode cX4_anotherCaseBegins 81 = .ok (.if_icmp .gt 5, 3) := by decide +kernel
theorem dX4_anotherCaseBegins_84 : decode cX4_anotherCaseBegins 84 = .ok (.iconst 1, 1) := by decide +kernel
theorem dX4_anotherCaseBegins_85 : decode cX4_anotherCaseBegins 85 = .ok (.ireturn, 1) := by decide +kernel
theorem dX4_anotherCaseBegins_86 : decode cX4_anotherCaseBegins 86 = .ok (.iinc 4 1, 3) := by decide +kernel
theorem dX4_anotherCaseBegins_89 : decode cX4_anotherCaseBegins 89 = .ok (.goto (-86), 3) := by decide +kernel
theorem dX4_anotherCaseBegins_92 : decode cX4_anotherCaseBegins 92 = .ok (.iconst 0, 1) := by decide +kernel
theorem dX4_anotherCaseBegins_93 : decode cX4_anotherCaseBegins 93 = .ok (.ireturn, 1) := by decide +kernel
set_option maxRecDepth 20000 in
theorem ggX4_reportsOf_X4_isMember : GoodIn wsX4_reportsOf wsX4_isMember := goodIn_r _ [6, 7, 8, 9, 5, 10, 11, 12, 35, 36, 37, 38, 39, 40, 41, 42, 43, 44, 45, 46, 47, 48, 49, 50] (by decide +kernel) (by decide +kernel)
set_option maxRecDepth 20000 in
theorem gX4_reportsOf_X4_isMember : GoodIn wsX4_reportsOf (wsV RX4 180 RX4 yX4_isMember wsX4_isMember) := goodIn_app (goodIn_of _ (by decide +kernel)) ggX4_reportsOf_X4_isMember
set_option maxRecDepth 20000 in
theorem ggX4_reportsOf_X1_cite : GoodIn wsX4_reportsOf wsX1_cite := goodIn_r _ [17, 18, 51, 52, 53, 54] (by decide +kernel) (by decide +kernel)
set_option maxRecDepth 20000 in
theorem gX4_reportsOf_X1_cite : GoodIn wsX4_reportsOf (wsV RX4 106 RX1 yX1_cite wsX1_cite) := goodIn_app (goodIn_of _ (by decide +kernel)) ggX4_reportsOf_X1_cite
set_option maxRecDepth 20000 in
theorem ggX4_reportsOf_X0_report : GoodIn wsX4_reportsOf wsX0_report := goodIn_r _ [22] (by decide +kernel) (by decide +kernel)
set_option maxRecDepth 20000 in
theorem gX4_reportsOf_X0_report : GoodIn wsX4_reportsOf (va_wsS RX4 173 yX0_report wsX0_report) := goodIn_app (goodIn_of _ (by decide +kernel)) ggX4_reportsOf_X0_report
set_option maxRecDepth 20000 in
theorem ggX4_reportsOf_X4_isFirstWith : GoodIn wsX4_reportsOf wsX4_isFirstWith := goodIn_r _ [26, 1, 2, 3, 4, 5, 6, 7, 8, 9, 10, 11, 12, 13, 14, 15, 16, 17, 18, 27, 28, 21, 29, 30, 20, 22, 31, 32, 33, 35, 36, 37, 38, 39, 40, 41, 42, 43, 44, 45, 46, 47, 48, 49, 50, 51, 52, 53, 54] (by decide +kernel) (by decide +kernel)
set_option maxRecDepth 20000 in
theorem gX4_reportsOf_X4_isFirstWith : GoodIn wsX4_reportsOf (wsV RX4 187 RX4 yX4_isFirstWith wsX4_isFirstWith) := goodIn_app (goodIn_of _ (by decide +kernel)) ggX4_reportsOf_X4_isFirstWith
set_option maxRecDepth 20000 in
theorem ggX4_reportsOf_X0_other : GoodIn wsX4_reportsOf wsX0_other := goodIn_r _ [33] (by decide +kernel) (by decide +kernel)
set_option maxRecDepth 20000 in
theorem gX4_reportsOf_X0_other : GoodIn wsX4_reportsOf (va_wsS RX4 184 yX0_other wsX0_other) := goodIn_app (goodIn_of _ (by decide +kernel)) ggX4_reportsOf_X0_other
theorem dX4_reportsOf_0 : decode cX4_reportsOf 0 = .ok (.iconst 0, 1) := by decide +kernel
theorem dX4_reportsOf_1 : decode cX4_reportsOf 1 = .ok (.istore_n 2, 1) := by decide +kernel
theorem dX4_reportsOf_2 : decode cX4_reportsOf 2 = .ok (.iconst 0, 1) := by decide +kernel
theorem dX4_reportsOf_3 : decode cX4_reportsOf 3 = .ok (.istore_n 3, 1) := by decide +kernel
theorem dX4_reportsOf_4 : decode cX4_reportsOf 4 = .ok (.iload_n 3, 1) := by decide +kernel
theorem dX4_reportsOf_5 : decode cX4_reportsOf 5 = .ok (.bipush 32, 2) := by decide +kernel
theorem dX4_reportsOf_7 : decode cX4_reportsOf 7 = .ok (.if_icmp .ge 73, 3) := by decide +kernel
theorem dX4_reportsOf_10 : decode cX4_reportsOf 10 = .ok (.aload_n 0, 1) := by decide +kernel
theorem dX4_reportsOf_11 : decode cX4_reportsOf 11 = .ok (.iload_n 1, 1) := by decide +kernel
theorem dX4_reportsOf_12 : decode cX4_reportsOf 12 = .ok (.iload_n 3, 1) := by decide +kernel
theorem dX4_reportsOf_13 : decode cX4_reportsOf 13 = .ok (.invokevirtual 180, 3) := by decide +kernel
theorem dX4_reportsOf_16 : decode cX4_reportsOf 16 = .ok (.ifCond .ne 6, 3) := by decide +kernel
theorem dX4_reportsOf_19 : decode cX4_reportsOf 19 = .ok (.goto 55, 3) := by decide +kernel
theorem dX4_reportsOf_22 : decode cX4_reportsOf 22 = .ok (.aload_n 0, 1) := by decide +kernel
theorem dX4_reportsOf_23 : decode cX4_reportsOf 23 = .ok (.getfield 12, 3) := by decide +kernel
theorem dX4_reportsOf_26 : decode cX4_reportsOf 26 = .ok (.iload_n 3, 1) := by decide +kernel
theorem dX4_reportsOf_27 : decode cX4_reportsOf 27 = .ok (.invokevirtual 106, 3) := by decide +kernel
theorem dX4_reportsOf_30 : decode cX4_reportsOf 30 = .ok (.lstore 4, 2) := by decide +kernel
theorem dX4_reportsOf_32 : decode cX4_reportsOf 32 = .ok (.aload_n 0, 1) := by decide +kernel
theorem dX4_reportsOf_33 : decode cX4_reportsOf 33 = .ok (.iload_n 1, 1) := by decide +kernel
theorem dX4_reportsOf_34 : decode cX4_reportsOf 34 = .ok (.iload_n 3, 1) := by decide +kernel
theorem dX4_reportsOf_35 : decode cX4_reportsOf 35 = .ok (.lload 4, 2) := by decide +kernel
theorem dX4_reportsOf_37 : decode cX4_reportsOf 37 = .ok (.invokestatic 173, 3) := by decide +kernel
theorem dX4_reportsOf_40 : decode cX4_reportsOf 40 = .ok (.invokevirtual 187, 3) := by decide +kernel
theorem dX4_reportsOf_43 : decode cX4_reportsOf 43 = .ok (.ifCond .eq 6, 3) := by decide +kernel
theorem dX4_reportsOf_46 : decode cX4_reportsOf 46 = .ok (.iinc 2 1, 3) := by decide +kernel
theorem dX4_reportsOf_49 : decode cX4_reportsOf 49 = .ok (.lload 4, 2) := by decide +kernel
theorem dX4_reportsOf_51 : decode cX4_reportsOf 51 = .ok (.invokestatic 184, 3) := by decide +kernel
theorem dX4_reportsOf_54 : decode cX4_reportsOf 54 = .ok (.ifCond .eq 20, 3) := by decide +kernel
theorem dX4_reportsOf_57 : decode cX4_reportsOf 57 = .ok (.aload_n 0, 1) := by decide +kernel
theorem dX4_reportsOf_58 : decode cX4_reportsOf 58 = .ok (.iload_n 1, 1) := by decide +kernel
theorem dX4_reportsOf_59 : decode cX4_reportsOf 59 = .ok (.iload_n 3, 1) := by decide +kernel
theorem dX4_reportsOf_60 : decode cX4_reportsOf 60 = .ok (.lload 4, 2) := by decide +kernel
theorem dX4_reportsOf_62 : decode cX4_reportsOf 62 = .ok (.invokestatic 184, 3) := by decide +kernel
theorem dX4_reportsOf_65 : decode cX4_reportsOf 65 = .ok (.invokevirtual 187, 3) := by decide +kernel
theorem dX4_reportsOf_68 : decode cX4_reportsOf 68 = .ok (.ifCond .eq 6, 3) := by decide +kernel
theorem dX4_reportsOf_71 : decode cX4_reportsOf 71 = .ok (.iinc 2 1, 3) := by decide +kernel
theorem dX4_reportsOf_74 : decode cX4_reportsOf 74 = .ok (.iinc 3 1, 3) := by decide +kernel
theorem dX4_reportsOf_77 : decode cX4_reportsOf 77 = .ok (.goto (-73), 3) := by decide +kernel
theorem dX4_reportsOf_80 : decode cX4_reportsOf 80 = .ok (.iload_n 2, 1) := by decide +kernel
theorem dX4_reportsOf_81 : decode cX4_reportsOf 81 = .ok (.ireturn, 1) := by decide +kernel
set_option maxRecDepth 20000 in
theorem ggX4_isFirstWith_X4_isMember : GoodIn wsX4_isFirstWith wsX4_isMember := goodIn_r _ [6, 7, 8, 9, 5, 10, 11, 12, 29, 30, 31, 32, 33, 34, 35, 36, 37, 38, 39, 40, 41, 42, 43, 44] (by decide +kernel) (by decide +kernel)
set_option maxRecDepth 20000 in
theorem gX4_isFirstWith_X4_isMember : GoodIn wsX4_isFirstWith (wsV RX4 180 RX4 yX4_isMember wsX4_isMember) := goodIn_app (goodIn_of _ (by decide +kernel)) ggX4_isFirstWith_X4_isMember
set_option maxRecDepth 20000 in
theorem ggX4_isFirstWith_X1_cite : GoodIn wsX4_isFirstWith wsX1_cite := goodIn_r _ [17, 18, 45, 46, 47, 48] (by decide +kernel) (by decide +kernel)
set_option maxRecDepth 20000 in
theorem gX4_isFirstWith_X1_cite : GoodIn wsX4_isFirstWith (wsV RX4 106 RX1 yX1_cite wsX1_cite) := goodIn_app (goodIn_of _ (by decide +kernel)) ggX4_isFirstWith_X1_cite
set_option maxRecDepth 20000 in
theorem ggX4_isFirstWith_X0_has : GoodIn wsX4_isFirstWith wsX0_has := goodIn_r _ [22, 23, 24, 21, 25, 26, 27, 28] (by decide +kernel) (by decide +kernel)
set_option maxRecDepth 20000 in
theorem gX4_isFirstWith_X0_has : GoodIn wsX4_isFirstWith (va_wsS RX4 190 yX0_has wsX0_has) := goodIn_app (goodIn_of _ (by decide +kernel)) ggX4_isFirstWith_X0_has
theorem dX4_isFirstWith_0 : decode cX4_isFirstWith 0 = .ok (.iconst 0, 1) := by decide +kernel
theorem dX4_isFirstWith_1 : decode cX4_isFirstWith 1 = .ok (.istore 4, 2) := by decide +kernel
theorem dX4_isFirstWith_3 : decode cX4_isFirstWith 3 = .ok (.iload 4, 2) := by decide +kernel
theorem dX4_isFirstWith_5 : decode cX4_isFirstWith 5 = .ok (.iload_n 2, 1) := by decide +kernel
theorem dX4_isFirstWith_6 : decode cX4_isFirstWith 6 = .ok (.if_icmp .ge 37, 3) := by decide +kernel
theorem dX4_isFirstWith_9 : decode cX4_isFirstWith 9 = .ok (.aload_n 0, 1) := by decide +kernel
theorem dX4_isFirstWith_10 : decode cX4_isFirstWith 10 = .ok (.iload_n 1, 1) := by decide +kernel
theorem dX4_isFirstWith_11 : decode cX4_isFirstWith 11 = .ok (.iload 4, 2) := by decide +kernel
theorem dX4_isFirstWith_13 : decode cX4_isFirstWith 13 = .ok (.invokevirtual 180, 3) := by decide +kernel
theorem dX4_isFirstWith_16 : decode cX4_isFirstWith 16 = .ok (.ifCond .eq 21, 3) := by decide +kernel
theorem dX4_isFirstWith_19 : decode cX4_isFirstWith 19 = .ok (.aload_n 0, 1) := by decide +kernel
theorem dX4_isFirstWith_20 : decode cX4_isFirstWith 20 = .ok (.getfield 12, 3) := by decide +kernel
theorem dX4_isFirstWith_23 : decode cX4_isFirstWith 23 = .ok (.iload 4, 2) := by decide +kernel
theorem dX4_isFirstWith_25 : decode cX4_isFirstWith 25 = .ok (.invokevirtual 106, 3) := by decide +kernel
theorem dX4_isFirstWith_28 : decode cX4_isFirstWith 28 = .ok (.iload_n 3, 1) := by decide +kernel
theorem dX4_isFirstWith_29 : decode cX4_isFirstWith 29 = .ok (.invokestatic 190, 3) := by decide +kernel
theorem dX4_isFirstWith_32 : decode cX4_isFirstWith 32 = .ok (.ifCond .eq 5, 3) := by decide +kernel
theorem dX4_isFirstWith_35 : decode cX4_isFirstWith 35 = .ok (.iconst 0, 1) := by decide +kernel
theorem dX4_isFirstWith_36 : decode cX4_isFirstWith 36 = .ok (.ireturn, 1) := by decide +kernel
theorem dX4_isFirstWith_37 : decode cX4_isFirstWith 37 = .ok (.iinc 4 1, 3) := by decide +kernel
theorem dX4_isFirstWith_40 : decode cX4_isFirstWith 40 = .ok (.goto (-37), 3) := by decide +kernel
theorem dX4_isFirstWith_43 : decode cX4_isFirstWith 43 = .ok (.iconst 1, 1) := by decide +kernel
theorem dX4_isFirstWith_44 : decode cX4_isFirstWith 44 = .ok (.ireturn, 1) := by decide +kernel
set_option maxRecDepth 20000 in
theorem ggX4_clashes_X4_isMember : GoodIn wsX4_clashes wsX4_isMember := goodIn_r _ [6, 7, 8, 9, 5, 10, 11, 12, 34, 35, 36, 37, 38, 39, 40, 41, 42, 43, 44, 45, 46, 47, 48, 49] (by decide +kernel) (by decide +kernel)
set_option maxRecDepth 20000 in
theorem gX4_clashes_X4_isMember : GoodIn wsX4_clashes (wsV RX4 180 RX4 yX4_isMember wsX4_isMember) := goodIn_app (goodIn_of _ (by decide +kernel)) ggX4_clashes_X4_isMember
set_option maxRecDepth 20000 in
theorem ggX4_clashes_X1_cite : GoodIn wsX4_clashes wsX1_cite := goodIn_r _ [17, 18, 50, 51, 52, 53] (by decide +kernel) (by decide +kernel)
set_option maxRecDepth 20000 in
theorem gX4_clashes_X1_cite : GoodIn wsX4_clashes (wsV RX4 106 RX1 yX1_cite wsX1_cite) := goodIn_app (goodIn_of _ (by decide +kernel)) ggX4_clashes_X1_cite
set_option maxRecDepth 20000 in
theorem ggX4_clashes_X4_firstCite : GoodIn wsX4_clashes wsX4_firstCite := goodIn_r _ [22, 11, 1, 23, 13, 14, 15, 16, 17, 18, 34, 35, 36, 37, 38, 39, 40, 41, 42, 43, 44, 45, 46, 47, 48, 49, 50, 51, 52, 53] (by decide +kernel) (by decide +kernel)
set_option maxRecDepth 20000 in
theorem gX4_clashes_X4_firstCite : GoodIn wsX4_clashes (wsV RX4 170 RX4 yX4_firstCite wsX4_firstCite) := goodIn_app (goodIn_of _ (by decide +kernel)) ggX4_clashes_X4_firstCite
set_option maxRecDepth 20000 in
theorem ggX4_clashes_X0_haveSameName : GoodIn wsX4_clashes wsX0_haveSameName := goodIn_r _ [27, 28, 29, 26, 30, 31, 32, 33] (by decide +kernel) (by decide +kernel)
set_option maxRecDepth 20000 in
theorem gX4_clashes_X0_haveSameName : GoodIn wsX4_clashes (va_wsS RX4 194 yX0_haveSameName wsX0_haveSameName) := goodIn_app (goodIn_of _ (by decide +kernel)) ggX4_clashes_X0_haveSameName
theorem dX4_clashes_0 : decode cX4_clashes 0 = .ok (.iconst 0, 1) := by decide +kernel
theorem dX4_clashes_1 : decode cX4_clashes 1 = .ok (.istore_n 2, 1) := by decide +kernel
theorem dX4_clashes_2 : decode cX4_clashes 2 = .ok (.iload_n 2, 1) := by decide +kernel
theorem dX4_clashes_3 : decode cX4_clashes 3 = .ok (.bipush 32, 2) := by decide +kernel
theorem dX4_clashes_5 : decode cX4_clashes 5 = .ok (.if_icmp .ge 42, 3) := by decide +kernel
theorem dX4_clashes_8 : decode cX4_clashes 8 = .ok (.aload_n 0, 1) := by decide +kernel
theorem dX4_clashes_9 : decode cX4_clashes 9 = .ok (.iload_n 1, 1) := by decide +kernel
theorem dX4_clashes_10 : decode cX4_clashes 10 = .ok (.iload_n 2, 1) := by decide +kernel
theorem dX4_clashes_11 : decode cX4_clashes 11 = .ok (.invokevirtual 180, 3) := by decide +kernel
theorem dX4_clashes_14 : decode cX4_clashes 14 = .ok (.ifCond .ne 6, 3) := by decide +kernel
theorem dX4_clashes_17 : decode cX4_clashes 17 = .ok (.goto 24, 3) := by decide +kernel
theorem dX4_clashes_20 : decode cX4_clashes 20 = .ok (.aload_n 0, 1) := by decide +kernel
theorem dX4_clashes_21 : decode cX4_clashes 21 = .ok (.getfield 12, 3) := by decide +kernel
theorem dX4_clashes_24 : decode cX4_clashes 24 = .ok (.iload_n 2, 1) := by decide +kernel
theorem dX4_clashes_25 : decode cX4_clashes 25 = .ok (.invokevirtual 106, 3) := by decide +kernel
theorem dX4_clashes_28 : decode cX4_clashes 28 = .ok (.aload_n 0, 1) := by decide +kernel
theorem dX4_clashes_29 : decode cX4_clashes 29 = .ok (.iload_n 1, 1) := by decide +kernel
theorem dX4_clashes_30 : decode cX4_clashes 30 = .ok (.invokevirtual 170, 3) := by decide +kernel
theorem dX4_clashes_33 : decode cX4_clashes 33 = .ok (.invokestatic 194, 3) := by decide +kernel
theorem dX4_clashes_36 : decode cX4_clashes 36 = .ok (.ifCond .ne 5, 3) := by decide +kernel
theorem dX4_clashes_39 : decode cX4_clashes 39 = .ok (.iconst 1, 1) := by decide +kernel
theorem dX4_clashes_40 : decode cX4_clashes 40 = .ok (.ireturn, 1) := by decide +kernel
theorem dX4_clashes_41 : decode cX4_clashes 41 = .ok (.iinc 2 1, 3) := by decide +kernel
theorem dX4_clashes_44 : decode cX4_clashes 44 = .ok (.goto (-42), 3) := by decide +kernel
theorem dX4_clashes_47 : decode cX4_clashes 47 = .ok (.iconst 0, 1) := by decide +kernel
theorem dX4_clashes_48 : decode cX4_clashes 48 = .ok (.ireturn, 1) := by decide +kernel
set_option maxRecDepth 20000 in
theorem ggX4_clashing_X4_clashes : GoodIn wsX4_clashing wsX4_clashes := goodIn_r _ [6, 7, 8, 9, 10, 5, 11, 12, 13, 14, 15, 1, 16, 17, 18, 19, 20, 21, 22, 23, 24, 25, 26, 27, 28, 29, 30, 31, 32, 33, 34, 35, 36, 37, 38, 39, 40, 41, 42, 43, 44, 45, 46, 47, 48, 49, 50, 51, 52, 53, 54, 55, 56, 57] (by decide +kernel) (by decide +kernel)
set_option maxRecDepth 20000 in
theorem gX4_clashing_X4_clashes : GoodIn wsX4_clashing (wsV RX4 197 RX4 yX4_clashes wsX4_clashes) := goodIn_app (goodIn_of _ (by decide +kernel)) ggX4_clashing_X4_clashes
theorem dX4_clashing_0 : decode cX4_clashing 0 = .ok (.iconst 0, 1) := by decide +kernel
theorem dX4_clashing_1 : decode cX4_clashing 1 = .ok (.istore_n 1, 1) := by decide +kernel
theorem dX4_clashing_2 : decode cX4_clashing 2 = .ok (.iconst 0, 1) := by decide +kernel
theorem dX4_clashing_3 : decode cX4_clashing 3 = .ok (.istore_n 2, 1) := by decide +kernel
theorem dX4_clashing_4 : decode cX4_clashing 4 = .ok (.iload_n 2, 1) := by decide +kernel
theorem dX4_clashing_5 : decode cX4_clashing 5 = .ok (.aload_n 0, 1) := by decide +kernel
theorem dX4_clashing_6 : decode cX4_clashing 6 = .ok (.getfield 47, 3) := by decide +kernel
theorem dX4_clashing_9 : decode cX4_clashing 9 = .ok (.if_icmp .ge 20, 3) := by decide +kernel
theorem dX4_clashing_12 : decode cX4_clashing 12 = .ok (.aload_n 0, 1) := by decide +kernel
theorem dX4_clashing_13 : decode cX4_clashing 13 = .ok (.iload_n 2, 1) := by decide +kernel
theorem dX4_clashing_14 : decode cX4_clashing 14 = .ok (.invokevirtual 197, 3) := by decide +kernel
theorem dX4_clashing_17 : decode cX4_clashing 17 = .ok (.ifCond .eq 6, 3) := by decide +kernel
theorem dX4_clashing_20 : decode cX4_clashing 20 = .ok (.iinc 1 1, 3) := by decide +kernel
theorem dX4_clashing_23 : decode cX4_clashing 23 = .ok (.iinc 2 1, 3) := by decide +kernel
theorem dX4_clashing_26 : decode cX4_clashing 26 = .ok (.goto (-22), 3) := by decide +kernel
theorem dX4_clashing_29 : decode cX4_clashing 29 = .ok (.iload_n 1, 1) := by decide +kernel
theorem dX4_clashing_30 : decode cX4_clashing 30 = .ok (.ireturn, 1) := by decide +kernel
set_option maxRecDepth 20000 in
theorem ggX4_notesFinding_X4_isFoundByNote : GoodIn wsX4_notesFinding wsX4_isFoundByNote := goodIn_r _ [5, 6, 7, 8, 4, 9, 10, 11, 12, 13, 14, 15, 16, 17, 18, 19, 20, 21, 22, 23, 24, 25, 26] (by decide +kernel) (by decide +kernel)
set_option maxRecDepth 20000 in
theorem gX4_notesFinding_X4_isFoundByNote : GoodIn wsX4_notesFinding (wsV RX4 200 RX4 yX4_isFoundByNote wsX4_isFoundByNote) := goodIn_app (goodIn_of _ (by decide +kernel)) ggX4_notesFinding_X4_isFoundByNote
theorem dX4_notesFinding_0 : decode cX4_notesFinding 0 = .ok (.iconst 0, 1) := by decide +kernel
theorem dX4_notesFinding_1 : decode cX4_notesFinding 1 = .ok (.istore_n 2, 1) := by decide +kernel
theorem dX4_notesFinding_2 : decode cX4_notesFinding 2 = .ok (.iconst 0, 1) := by decide +kernel
theorem dX4_notesFinding_3 : decode cX4_notesFinding 3 = .ok (.istore_n 3, 1) := by decide +kernel
theorem dX4_notesFinding_4 : decode cX4_notesFinding 4 = .ok (.iload_n 3, 1) := by decide +kernel
theorem dX4_notesFinding_5 : decode cX4_notesFinding 5 = .ok (.bipush 8, 2) := by decide +kernel
theorem dX4_notesFinding_7 : decode cX4_notesFinding 7 = .ok (.if_icmp .ge 24, 3) := by decide +kernel
theorem dX4_notesFinding_10 : decode cX4_notesFinding 10 = .ok (.aload_n 0, 1) := by decide +kernel
theorem dX4_notesFinding_11 : decode cX4_notesFinding 11 = .ok (.iload_n 1, 1) := by decide +kernel
theorem dX4_notesFinding_12 : decode cX4_notesFinding 12 = .ok (.iload_n 3, 1) := by decide +kernel
theorem dX4_notesFinding_13 : decode cX4_notesFinding 13 = .ok (.invokevirtual 200, 3) := by decide +kernel
theorem dX4_notesFinding_16 : decode cX4_notesFinding 16 = .ok (.ifCond .eq 9, 3) := by decide +kernel
theorem dX4_notesFinding_19 : decode cX4_notesFinding 19 = .ok (.iload_n 2, 1) := by decide +kernel
theorem dX4_notesFinding_20 : decode cX4_notesFinding 20 = .ok (.iconst 1, 1) := by decide +kernel
theorem dX4_notesFinding_21 : decode cX4_notesFinding 21 = .ok (.iload_n 3, 1) := by decide +kernel
theorem dX4_notesFinding_22 : decode cX4_notesFinding 22 = .ok (.ishl, 1) := by decide +kernel
theorem dX4_notesFinding_23 : decode cX4_notesFinding 23 = .ok (.ior, 1) := by decide +kernel
theorem dX4_notesFinding_24 : decode cX4_notesFinding 24 = .ok (.istore_n 2, 1) := by decide +kernel
theorem dX4_notesFinding_25 : decode cX4_notesFinding 25 = .ok (.iinc 3 1, 3) := by decide +kernel
theorem dX4_notesFinding_28 : decode cX4_notesFinding 28 = .ok (.goto (-24), 3) := by decide +kernel
theorem dX4_notesFinding_31 : decode cX4_notesFinding 31 = .ok (.iload_n 2, 1) := by decide +kernel
theorem dX4_notesFinding_32 : decode cX4_notesFinding 32 = .ok (.ireturn, 1) := by decide +kernel
set_option maxRecDepth 20000 in
theorem ggX4_isFoundByNote_X4_foundByNote : GoodIn wsX4_isFoundByNote wsX4_foundByNote := goodIn_r _ [5, 6, 7, 8, 9, 10, 11, 12, 13, 14, 15, 16, 17, 18, 19, 20, 21, 22] (by decide +kernel) (by decide +kernel)
set_option maxRecDepth 20000 in
theorem gX4_isFoundByNote_X4_foundByNote : GoodIn wsX4_isFoundByNote (wsV RX4 156 RX4 yX4_foundByNote wsX4_foundByNote) := goodIn_app (goodIn_of _ (by decide +kernel)) ggX4_isFoundByNote_X4_foundByNote
theorem dX4_isFoundByNote_0 : decode cX4_isFoundByNote 0 = .ok (.aload_n 0, 1) := by decide +kernel
theorem dX4_isFoundByNote_1 : decode cX4_isFoundByNote 1 = .ok (.iload_n 2, 1) := by decide +kernel
theorem dX4_isFoundByNote_2 : decode cX4_isFoundByNote 2 = .ok (.invokevirtual 156, 3) := by decide +kernel
theorem dX4_isFoundByNote_5 : decode cX4_isFoundByNote 5 = .ok (.iload_n 1, 1) := by decide +kernel
theorem dX4_isFoundByNote_6 : decode cX4_isFoundByNote 6 = .ok (.ishr, 1) := by decide +kernel
theorem dX4_isFoundByNote_7 : decode cX4_isFoundByNote 7 = .ok (.iconst 1, 1) := by decide +kernel
theorem dX4_isFoundByNote_8 : decode cX4_isFoundByNote 8 = .ok (.iand, 1) := by decide +kernel
theorem dX4_isFoundByNote_9 : decode cX4_isFoundByNote 9 = .ok (.iconst 1, 1) := by decide +kernel
theorem dX4_isFoundByNote_10 : decode cX4_isFoundByNote 10 = .ok (.if_icmp .ne 7, 3) := by decide +kernel
theorem dX4_isFoundByNote_13 : decode cX4_isFoundByNote 13 = .ok (.iconst 1, 1) := by decide +kernel
theorem dX4_isFoundByNote_14 : decode cX4_isFoundByNote 14 = .ok (.goto 4, 3) := by decide +kernel
theorem dX4_isFoundByNote_17 : decode cX4_isFoundByNote 17 = .ok (.iconst 0, 1) := by decide +kernel
theorem dX4_isFoundByNote_18 : decode cX4_isFoundByNote 18 = .ok (.ireturn, 1) := by decide +kernel
set_option maxRecDepth 20000 in
theorem ggX4_referencesFinding_X1_hasSlot : GoodIn wsX4_referencesFinding wsX1_hasSlot := goodIn_r _ [6, 7, 8, 9, 5, 10, 11, 12, 35, 36, 37, 38] (by decide +kernel) (by decide +kernel)
set_option maxRecDepth 20000 in
theorem gX4_referencesFinding_X1_hasSlot : GoodIn wsX4_referencesFinding (wsV RX4 203 RX1 yX1_hasSlot wsX1_hasSlot) := goodIn_app (goodIn_of _ (by decide +kernel)) ggX4_referencesFinding_X1_hasSlot
set_option maxRecDepth 20000 in
theorem ggX4_referencesFinding_X4_caseOf : GoodIn wsX4_referencesFinding wsX4_caseOf := goodIn_r _ [17, 18, 19, 20, 21, 22, 23, 24, 25, 26, 27, 28, 29, 30, 31, 32, 33, 34] (by decide +kernel) (by decide +kernel)
set_option maxRecDepth 20000 in
theorem gX4_referencesFinding_X4_caseOf : GoodIn wsX4_referencesFinding (wsV RX4 143 RX4 yX4_caseOf wsX4_caseOf) := goodIn_app (goodIn_of _ (by decide +kernel)) ggX4_referencesFinding_X4_caseOf
theorem dX4_referencesFinding_0 : decode cX4_referencesFinding 0 = .ok (.iconst 0, 1) := by decide +kernel
theorem dX4_referencesFinding_1 : decode cX4_referencesFinding 1 = .ok (.istore_n 2, 1) := by decide +kernel
theorem dX4_referencesFinding_2 : decode cX4_referencesFinding 2 = .ok (.iconst 0, 1) := by decide +kernel
theorem dX4_referencesFinding_3 : decode cX4_referencesFinding 3 = .ok (.istore_n 3, 1) := by decide +kernel
theorem dX4_referencesFinding_4 : decode cX4_referencesFinding 4 = .ok (.iload_n 3, 1) := by decide +kernel
theorem dX4_referencesFinding_5 : decode cX4_referencesFinding 5 = .ok (.bipush 32, 2) := by decide +kernel
theorem dX4_referencesFinding_7 : decode cX4_referencesFinding 7 = .ok (.if_icmp .ge 32, 3) := by decide +kernel
theorem dX4_referencesFinding_10 : decode cX4_referencesFinding 10 = .ok (.aload_n 0, 1) := by decide +kernel
theorem dX4_referencesFinding_11 : decode cX4_referencesFinding 11 = .ok (.getfield 12, 3) := by decide +kernel
theorem dX4_referencesFinding_14 : decode cX4_referencesFinding 14 = .ok (.iload_n 3, 1) := by decide +kernel
theorem dX4_referencesFinding_15 : decode cX4_referencesFinding 15 = .ok (.invokevirtual 203, 3) := by decide +kernel
theorem dX4_referencesFinding_18 : decode cX4_referencesFinding 18 = .ok (.ifCond .eq 15, 3) := by decide +kernel
theorem dX4_referencesFinding_21 : decode cX4_referencesFinding 21 = .ok (.aload_n 0, 1) := by decide +kernel
theorem dX4_referencesFinding_22 : decode cX4_referencesFinding 22 = .ok (.iload_n 3, 1) := by decide +kernel
theorem dX4_referencesFinding_23 : decode cX4_referencesFinding 23 = .ok (.invokevirtual 143, 3) := by decide +kernel
theorem dX4_referencesFinding_26 : decode cX4_referencesFinding 26 = .ok (.iload_n 1, 1) := by decide +kernel
theorem dX4_referencesFinding_27 : decode cX4_referencesFinding 27 = .ok (.if_icmp .ne 6, 3) := by decide +kernel
theorem dX4_referencesFinding_30 : decode cX4_referencesFinding 30 = .ok (.iinc 2 1, 3) := by decide +kernel
theorem dX4_referencesFinding_33 : decode cX4_referencesFinding 33 = .ok (.iinc 3 1, 3) := by decide +kernel
theorem dX4_referencesFinding_36 : decode cX4_referencesFinding 36 = .ok (.goto (-32), 3) := by decide +kernel
theorem dX4_referencesFinding_39 : decode cX4_referencesFinding 39 = .ok (.iload_n 2, 1) := by decide +kernel
theorem dX4_referencesFinding_40 : decode cX4_referencesFinding 40 = .ok (.ireturn, 1) := by decide +kernel
set_option maxRecDepth 20000 in
theorem ggX4_rankOf_X4_sortKey : GoodIn wsX4_rankOf wsX4_sortKey := goodIn_r _ [6, 7, 8, 9, 5, 10, 1, 11, 12, 13, 14, 15, 16, 17, 18, 19, 20, 21, 22, 23, 24, 25, 26, 27, 28, 29, 30, 31, 32, 33, 34, 35, 36, 37, 38, 39, 40, 41, 42, 43, 44, 45, 46, 47, 48, 49, 50, 51] (by decide +kernel) (by decide +kernel)
set_option maxRecDepth 20000 in
theorem gX4_rankOf_X4_sortKey : GoodIn wsX4_rankOf (wsV RX4 206 RX4 yX4_sortKey wsX4_sortKey) := goodIn_app (goodIn_of _ (by decide +kernel)) ggX4_rankOf_X4_sortKey
theorem dX4_rankOf_0 : decode cX4_rankOf 0 = .ok (.iconst 0, 1) := by decide +kernel
theorem dX4_rankOf_1 : decode cX4_rankOf 1 = .ok (.istore_n 2, 1) := by decide +kernel
theorem dX4_rankOf_2 : decode cX4_rankOf 2 = .ok (.iconst 0, 1) := by decide +kernel
theorem dX4_rankOf_3 : decode cX4_rankOf 3 = .ok (.istore_n 3, 1) := by decide +kernel
theorem dX4_rankOf_4 : decode cX4_rankOf 4 = .ok (.iload_n 3, 1) := by decide +kernel
theorem dX4_rankOf_5 : decode cX4_rankOf 5 = .ok (.aload_n 0, 1) := by decide +kernel
theorem dX4_rankOf_6 : decode cX4_rankOf 6 = .ok (.getfield 47, 3) := by decide +kernel
theorem dX4_rankOf_9 : decode cX4_rankOf 9 = .ok (.if_icmp .ge 25, 3) := by decide +kernel
theorem dX4_rankOf_12 : decode cX4_rankOf 12 = .ok (.aload_n 0, 1) := by decide +kernel
theorem dX4_rankOf_13 : decode cX4_rankOf 13 = .ok (.iload_n 3, 1) := by decide +kernel
theorem dX4_rankOf_14 : decode cX4_rankOf 14 = .ok (.invokevirtual 206, 3) := by decide +kernel
theorem dX4_rankOf_17 : decode cX4_rankOf 17 = .ok (.aload_n 0, 1) := by decide +kernel
theorem dX4_rankOf_18 : decode cX4_rankOf 18 = .ok (.iload_n 1, 1) := by decide +kernel
theorem dX4_rankOf_19 : decode cX4_rankOf 19 = .ok (.invokevirtual 206, 3) := by decide +kernel
theorem dX4_rankOf_22 : decode cX4_rankOf 22 = .ok (.if_icmp .ge 6, 3) := by decide +kernel
theorem dX4_rankOf_25 : decode cX4_rankOf 25 = .ok (.iinc 2 1, 3) := by decide +kernel
theorem dX4_rankOf_28 : decode cX4_rankOf 28 = .ok (.iinc 3 1, 3) := by decide +kernel
theorem dX4_rankOf_31 : decode cX4_rankOf 31 = .ok (.goto (-27), 3) := by decide +kernel
theorem dX4_rankOf_34 : decode cX4_rankOf 34 = .ok (.iload_n 2, 1) := by decide +kernel
theorem dX4_rankOf_35 : decode cX4_rankOf 35 = .ok (.ireturn, 1) := by decide +kernel
set_option maxRecDepth 20000 in
theorem ggX4_sortKey_X4_firstCite : GoodIn wsX4_sortKey wsX4_firstCite := goodIn_r _ [5, 6, 7, 8, 9, 10, 11, 12, 13, 14, 28, 29, 30, 31, 32, 33, 34, 35, 36, 37, 38, 39, 40, 41, 42, 43, 44, 45, 46, 47] (by decide +kernel) (by decide +kernel)
set_option maxRecDepth 20000 in
theorem gX4_sortKey_X4_firstCite : GoodIn wsX4_sortKey (wsV RX4 170 RX4 yX4_firstCite wsX4_firstCite) := goodIn_app (goodIn_of _ (by decide +kernel)) ggX4_sortKey_X4_firstCite
set_option maxRecDepth 20000 in
theorem ggX4_sortKey_X0_report : GoodIn wsX4_sortKey wsX0_report := goodIn_r _ [18] (by decide +kernel) (by decide +kernel)
set_option maxRecDepth 20000 in
theorem gX4_sortKey_X0_report : GoodIn wsX4_sortKey (va_wsS RX4 173 yX0_report wsX0_report) := goodIn_app (goodIn_of _ (by decide +kernel)) ggX4_sortKey_X0_report
set_option maxRecDepth 20000 in
theorem ggX4_sortKey_X6_isOfSeries : GoodIn wsX4_sortKey wsX6_isOfSeries := goodIn_r _ [21] (by decide +kernel) (by decide +kernel)
set_option maxRecDepth 20000 in
theorem gX4_sortKey_X6_isOfSeries_n209 : GoodIn wsX4_sortKey (wsX6_isOfSeries) := ggX4_sortKey_X6_isOfSeries
set_option maxRecDepth 20000 in
theorem ggX4_sortKey_X0_first : GoodIn wsX4_sortKey wsX0_first := goodIn_r _ [24] (by decide +kernel) (by decide +kernel)
set_option maxRecDepth 20000 in
theorem gX4_sortKey_X0_first : GoodIn wsX4_sortKey (va_wsS RX4 130 yX0_first wsX0_first) := goodIn_app (goodIn_of _ (by decide +kernel)) ggX4_sortKey_X0_first
set_option maxRecDepth 20000 in
theorem ggX4_sortKey_X0_second : GoodIn wsX4_sortKey wsX0_second := goodIn_r _ [27] (by decide +kernel) (by decide +kernel)
set_option maxRecDepth 20000 in
theorem gX4_sortKey_X0_second : GoodIn wsX4_sortKey (va_wsS RX4 212 yX0_second wsX0_second) := goodIn_app (goodIn_of _ (by decide +kernel)) ggX4_sortKey_X0_second
theorem dX4_sortKey_0 : decode cX4_sortKey 0 = .ok (.aload_n 0, 1) := by decide +kernel
theorem dX4_sortKey_1 : decode cX4_sortKey 1 = .ok (.iload_n 1, 1) := by decide +kernel
theorem dX4_sortKey_2 : decode cX4_sortKey 2 = .ok (.invokevirtual 170, 3) := by decide +kernel
theorem dX4_sortKey_5 : decode cX4_sortKey 5 = .ok (.lstore_n 2, 1) := by decide +kernel
theorem dX4_sortKey_6 : decode cX4_sortKey 6 = .ok (.lload_n 2, 1) := by decide +kernel
theorem dX4_sortKey_7 : decode cX4_sortKey 7 = .ok (.invokestatic 173, 3) := by decide +kernel
theorem dX4_sortKey_10 : decode cX4_sortKey 10 = .ok (.istore 4, 2) := by decide +kernel
theorem dX4_sortKey_12 : decode cX4_sortKey 12 = .ok (.iload 4, 2) := by decide +kernel
theorem dX4_sortKey_14 : decode cX4_sortKey 14 = .ok (.iconst 0, 1) := by decide +kernel
theorem dX4_sortKey_15 : decode cX4_sortKey 15 = .ok (.invokestatic 209, 3) := by decide +kernel
theorem dX4_sortKey_18 : decode cX4_sortKey 18 = .ok (.ifCond .eq 7, 3) := by decide +kernel
theorem dX4_sortKey_21 : decode cX4_sortKey 21 = .ok (.iconst 0, 1) := by decide +kernel
theorem dX4_sortKey_22 : decode cX4_sortKey 22 = .ok (.goto 4, 3) := by decide +kernel
theorem dX4_sortKey_25 : decode cX4_sortKey 25 = .ok (.iconst 1, 1) := by decide +kernel
theorem dX4_sortKey_26 : decode cX4_sortKey 26 = .ok (.istore 5, 2) := by decide +kernel
theorem dX4_sortKey_28 : decode cX4_sortKey 28 = .ok (.bipush 6, 2) := by decide +kernel
theorem dX4_sortKey_30 : decode cX4_sortKey 30 = .ok (.lload_n 2, 1) := by decide +kernel
theorem dX4_sortKey_31 : decode cX4_sortKey 31 = .ok (.invokestatic 130, 3) := by decide +kernel
theorem dX4_sortKey_34 : decode cX4_sortKey 34 = .ok (.imul, 1) := by decide +kernel
theorem dX4_sortKey_35 : decode cX4_sortKey 35 = .ok (.lload_n 2, 1) := by decide +kernel
theorem dX4_sortKey_36 : decode cX4_sortKey 36 = .ok (.invokestatic 212, 3) := by decide +kernel
theorem dX4_sortKey_39 : decode cX4_sortKey 39 = .ok (.iadd, 1) := by decide +kernel
theorem dX4_sortKey_40 : decode cX4_sortKey 40 = .ok (.istore 6, 2) := by decide +kernel
theorem dX4_sortKey_42 : decode cX4_sortKey 42 = .ok (.sipush 10000, 3) := by decide +kernel
theorem dX4_sortKey_45 : decode cX4_sortKey 45 = .ok (.iconst 2, 1) := by decide +kernel
theorem dX4_sortKey_46 : decode cX4_sortKey 46 = .ok (.iload 6, 2) := by decide +kernel
theorem dX4_sortKey_48 : decode cX4_sortKey 48 = .ok (.imul, 1) := by decide +kernel
theorem dX4_sortKey_49 : decode cX4_sortKey 49 = .ok (.iload 5, 2) := by decide +kernel
theorem dX4_sortKey_51 : decode cX4_sortKey 51 = .ok (.iadd, 1) := by decide +kernel
theorem dX4_sortKey_52 : decode cX4_sortKey 52 = .ok (.imul, 1) := by decide +kernel
theorem dX4_sortKey_53 : decode cX4_sortKey 53 = .ok (.iload 4, 2) := by decide +kernel
theorem dX4_sortKey_55 : decode cX4_sortKey 55 = .ok (.iadd, 1) := by decide +kernel
theorem dX4_sortKey_56 : decode cX4_sortKey 56 = .ok (.bipush 100, 2) := by decide +kernel
theorem dX4_sortKey_58 : decode cX4_sortKey 58 = .ok (.iload 5, 2) := by decide +kernel
theorem dX4_sortKey_60 : decode cX4_sortKey 60 = .ok (.imul, 1) := by decide +kernel
theorem dX4_sortKey_61 : decode cX4_sortKey 61 = .ok (.isub, 1) := by decide +kernel
theorem dX4_sortKey_62 : decode cX4_sortKey 62 = .ok (.ireturn, 1) := by decide +kernel
set_option maxRecDepth 20000 in
theorem ggX4_isTrueOf_X4_firstCite : GoodIn wsX4_isTrueOf wsX4_firstCite := goodIn_r _ [5, 6, 7, 8, 9, 10, 11, 12, 13, 14, 55, 56, 57, 58, 59, 60, 61, 62, 63, 64, 65, 66, 67, 68, 69, 70, 71, 72, 73, 74] (by decide +kernel) (by decide +kernel)
set_option maxRecDepth 20000 in
theorem gX4_isTrueOf_X4_firstCite : GoodIn wsX4_isTrueOf (wsV RX4 170 RX4 yX4_firstCite wsX4_firstCite) := goodIn_app (goodIn_of _ (by decide +kernel)) ggX4_isTrueOf_X4_firstCite
set_option maxRecDepth 20000 in
theorem ggX4_isTrueOf_X0_first : GoodIn wsX4_isTrueOf wsX0_first := goodIn_r _ [18] (by decide +kernel) (by decide +kernel)
set_option maxRecDepth 20000 in
theorem gX4_isTrueOf_X0_first : GoodIn wsX4_isTrueOf (va_wsS RX4 130 yX0_first wsX0_first) := goodIn_app (goodIn_of _ (by decide +kernel)) ggX4_isTrueOf_X0_first
set_option maxRecDepth 20000 in
theorem ggX4_isTrueOf_X0_second : GoodIn wsX4_isTrueOf wsX0_second := goodIn_r _ [21] (by decide +kernel) (by decide +kernel)
set_option maxRecDepth 20000 in
theorem gX4_isTrueOf_X0_second : GoodIn wsX4_isTrueOf (va_wsS RX4 212 yX0_second wsX0_second) := goodIn_app (goodIn_of _ (by decide +kernel)) ggX4_isTrueOf_X0_second
set_option maxRecDepth 20000 in
theorem ggX4_isTrueOf_X4_isFoundByNote : GoodIn wsX4_isTrueOf wsX4_isFoundByNote := goodIn_r _ [25, 26, 27, 28, 4, 29, 30, 55, 56, 57, 58, 59, 60, 61, 62, 63, 64, 65, 66, 67, 68, 69, 70] (by decide +kernel) (by decide +kernel)
set_option maxRecDepth 20000 in
theorem gX4_isTrueOf_X4_isFoundByNote : GoodIn wsX4_isTrueOf (wsV RX4 200 RX4 yX4_isFoundByNote wsX4_isFoundByNote) := goodIn_app (goodIn_of _ (by decide +kernel)) ggX4_isTrueOf_X4_isFoundByNote
set_option maxRecDepth 20000 in
theorem ggX4_isTrueOf_X4_hasReportOf : GoodIn wsX4_isTrueOf wsX4_hasReportOf := goodIn_r _ [34, 7, 35, 36, 37, 4, 38, 39, 40, 41, 42, 6, 43, 9, 10, 11, 12, 13, 14, 44, 45, 17, 46, 47, 48, 49, 50, 51, 52, 53, 54, 55, 56, 57, 58, 59, 60, 61, 62, 63, 64, 65, 66, 67, 68, 69, 70, 71, 72, 73, 74] (by decide +kernel) (by decide +kernel)
set_option maxRecDepth 20000 in
theorem gX4_isTrueOf_X4_hasReportOf : GoodIn wsX4_isTrueOf (wsV RX4 215 RX4 yX4_hasReportOf wsX4_hasReportOf) := goodIn_app (goodIn_of _ (by decide +kernel)) ggX4_isTrueOf_X4_hasReportOf
theorem dX4_isTrueOf_0 : decode cX4_isTrueOf 0 = .ok (.iload_n 2, 1) := by decide +kernel
theorem dX4_isTrueOf_1 : decode cX4_isTrueOf 1 = .ok (.tableswitch 70 0 2 #[27, 45, 63], 27) := by decide +kernel
theorem dX4_isTrueOf_28 : decode cX4_isTrueOf 28 = .ok (.aload_n 0, 1) := by decide +kernel
theorem dX4_isTrueOf_29 : decode cX4_isTrueOf 29 = .ok (.iload_n 1, 1) := by decide +kernel
theorem dX4_isTrueOf_30 : decode cX4_isTrueOf 30 = .ok (.invokevirtual 170, 3) := by decide +kernel
theorem dX4_isTrueOf_33 : decode cX4_isTrueOf 33 = .ok (.invokestatic 130, 3) := by decide +kernel
theorem dX4_isTrueOf_36 : decode cX4_isTrueOf 36 = .ok (.iload_n 3, 1) := by decide +kernel
theorem dX4_isTrueOf_37 : decode cX4_isTrueOf 37 = .ok (.if_icmp .ne 7, 3) := by decide +kernel
theorem dX4_isTrueOf_40 : decode cX4_isTrueOf 40 = .ok (.iconst 1, 1) := by decide +kernel
theorem dX4_isTrueOf_41 : decode cX4_isTrueOf 41 = .ok (.goto 4, 3) := by decide +kernel
theorem dX4_isTrueOf_44 : decode cX4_isTrueOf 44 = .ok (.iconst 0, 1) := by decide +kernel
theorem dX4_isTrueOf_45 : decode cX4_isTrueOf 45 = .ok (.ireturn, 1) := by decide +kernel
theorem dX4_isTrueOf_46 : decode cX4_isTrueOf 46 = .ok (.aload_n 0, 1) := by decide +kernel
theorem dX4_isTrueOf_47 : decode cX4_isTrueOf 47 = .ok (.iload_n 1, 1) := by decide +kernel
theorem dX4_isTrueOf_48 : decode cX4_isTrueOf 48 = .ok (.invokevirtual 170, 3) := by decide +kernel
theorem dX4_isTrueOf_51 : decode cX4_isTrueOf 51 = .ok (.invokestatic 212, 3) := by decide +kernel
theorem dX4_isTrueOf_54 : decode cX4_isTrueOf 54 = .ok (.iload_n 3, 1) := by decide +kernel
theorem dX4_isTrueOf_55 : decode cX4_isTrueOf 55 = .ok (.if_icmp .ne 7, 3) := by decide +kernel
theorem dX4_isTrueOf_58 : decode cX4_isTrueOf 58 = .ok (.iconst 1, 1) := by decide +kernel
theorem dX4_isTrueOf_59 : decode cX4_isTrueOf 59 = .ok (.goto 4, 3) := by decide +kernel
theorem dX4_isTrueOf_62 : decode cX4_isTrueOf 62 = .ok (.iconst 0, 1) := by decide +kernel
theorem dX4_isTrueOf_63 : decode cX4_isTrueOf 63 = .ok (.ireturn, 1) := by decide +kernel
theorem dX4_isTrueOf_64 : decode cX4_isTrueOf 64 = .ok (.aload_n 0, 1) := by decide +kernel
theorem dX4_isTrueOf_65 : decode cX4_isTrueOf 65 = .ok (.iload_n 1, 1) := by decide +kernel
theorem dX4_isTrueOf_66 : decode cX4_isTrueOf 66 = .ok (.iload_n 3, 1) := by decide +kernel
theorem dX4_isTrueOf_67 : decode cX4_isTrueOf 67 = .ok (.invokevirtual 200, 3) := by decide +kernel
theorem dX4_isTrueOf_70 : decode cX4_isTrueOf 70 = .ok (.ireturn, 1) := by decide +kernel
theorem dX4_isTrueOf_71 : decode cX4_isTrueOf 71 = .ok (.aload_n 0, 1) := by decide +kernel
theorem dX4_isTrueOf_72 : decode cX4_isTrueOf 72 = .ok (.iload_n 1, 1) := by decide +kernel
theorem dX4_isTrueOf_73 : decode cX4_isTrueOf 73 = .ok (.iload_n 2, 1) := by decide +kernel
theorem dX4_isTrueOf_74 : decode cX4_isTrueOf 74 = .ok (.iload_n 3, 1) := by decide +kernel
theorem dX4_isTrueOf_75 : decode cX4_isTrueOf 75 = .ok (.invokevirtual 215, 3) := by decide +kernel
theorem dX4_isTrueOf_78 : decode cX4_isTrueOf 78 = .ok (.ireturn, 1) := by decide +kernel
set_option maxRecDepth 20000 in
theorem ggX4_hasReportOf_X4_isMember : GoodIn wsX4_hasReportOf wsX4_isMember := goodIn_r _ [6, 7, 8, 9, 5, 10, 11, 12, 31, 32, 33, 34, 35, 36, 37, 38, 39, 40, 41, 42, 43, 44, 45, 46] (by decide +kernel) (by decide +kernel)
set_option maxRecDepth 20000 in
theorem gX4_hasReportOf_X4_isMember : GoodIn wsX4_hasReportOf (wsV RX4 180 RX4 yX4_isMember wsX4_isMember) := goodIn_app (goodIn_of _ (by decide +kernel)) ggX4_hasReportOf_X4_isMember
set_option maxRecDepth 20000 in
theorem ggX4_hasReportOf_X1_cite : GoodIn wsX4_hasReportOf wsX1_cite := goodIn_r _ [17, 18, 47, 48, 49, 50] (by decide +kernel) (by decide +kernel)
set_option maxRecDepth 20000 in
theorem gX4_hasReportOf_X1_cite : GoodIn wsX4_hasReportOf (wsV RX4 106 RX1 yX1_cite wsX1_cite) := goodIn_app (goodIn_of _ (by decide +kernel)) ggX4_hasReportOf_X1_cite
set_option maxRecDepth 20000 in
theorem ggX4_hasReportOf_X0_report : GoodIn wsX4_hasReportOf wsX0_report := goodIn_r _ [22] (by decide +kernel) (by decide +kernel)
set_option maxRecDepth 20000 in
theorem gX4_hasReportOf_X0_report : GoodIn wsX4_hasReportOf (va_wsS RX4 173 yX0_report wsX0_report) := goodIn_app (goodIn_of _ (by decide +kernel)) ggX4_hasReportOf_X0_report
set_option maxRecDepth 20000 in
theorem ggX4_hasReportOf_X6_isOfVolume : GoodIn wsX4_hasReportOf wsX6_isOfVolume := goodIn_r _ [25] (by decide +kernel) (by decide +kernel)
set_option maxRecDepth 20000 in
theorem gX4_hasReportOf_X6_isOfVolume_n218 : GoodIn wsX4_hasReportOf (wsX6_isOfVolume) := ggX4_hasReportOf_X6_isOfVolume
set_option maxRecDepth 20000 in
theorem ggX4_hasReportOf_X0_other : GoodIn wsX4_hasReportOf wsX0_other := goodIn_r _ [28] (by decide +kernel) (by decide +kernel)
set_option maxRecDepth 20000 in
theorem gX4_hasReportOf_X0_other : GoodIn wsX4_hasReportOf (va_wsS RX4 184 yX0_other wsX0_other) := goodIn_app (goodIn_of _ (by decide +kernel)) ggX4_hasReportOf_X0_other
set_option maxRecDepth 20000 in
theorem ggX4_hasReportOf_X6_isOfSeries : GoodIn wsX4_hasReportOf wsX6_isOfSeries := goodIn_r _ [30] (by decide +kernel) (by decide +kernel)
set_option maxRecDepth 20000 in
theorem gX4_hasReportOf_X6_isOfSeries_n209 : GoodIn wsX4_hasReportOf (wsX6_isOfSeries) := ggX4_hasReportOf_X6_isOfSeries
theorem dX4_hasReportOf_0 : decode cX4_hasReportOf 0 = .ok (.iconst 0, 1) := by decide +kernel
theorem dX4_hasReportOf_1 : decode cX4_hasReportOf 1 = .ok (.istore 4, 2) := by decide +kernel
theorem dX4_hasReportOf_3 : decode cX4_hasReportOf 3 = .ok (.iload 4, 2) := by decide +kernel
theorem dX4_hasReportOf_5 : decode cX4_hasReportOf 5 = .ok (.bipush 32, 2) := by decide +kernel
theorem dX4_hasReportOf_7 : decode cX4_hasReportOf 7 = .ok (.if_icmp .ge 95, 3) := by decide +kernel
theorem dX4_hasReportOf_10 : decode cX4_hasReportOf 10 = .ok (.aload_n 0, 1) := by decide +kernel
theorem dX4_hasReportOf_11 : decode cX4_hasReportOf 11 = .ok (.iload_n 1, 1) := by decide +kernel
theorem dX4_hasReportOf_12 : decode cX4_hasReportOf 12 = .ok (.iload 4, 2) := by decide +kernel
theorem dX4_hasReportOf_14 : decode cX4_hasReportOf 14 = .ok (.invokevirtual 180, 3) := by decide +kernel
theorem dX4_hasReportOf_17 : decode cX4_hasReportOf 17 = .ok (.ifCond .ne 6, 3) := by decide +kernel
theorem dX4_hasReportOf_20 : decode cX4_hasReportOf 20 = .ok (.goto 76, 3) := by decide +kernel
theorem dX4_hasReportOf_23 : decode cX4_hasReportOf 23 = .ok (.aload_n 0, 1) := by decide +kernel
theorem dX4_hasReportOf_24 : decode cX4_hasReportOf 24 = .ok (.getfield 12, 3) := by decide +kernel
theorem dX4_hasReportOf_27 : decode cX4_hasReportOf 27 = .ok (.iload 4, 2) := by decide +kernel
theorem dX4_hasReportOf_29 : decode cX4_hasReportOf 29 = .ok (.invokevirtual 106, 3) := by decide +kernel
theorem dX4_hasReportOf_32 : decode cX4_hasReportOf 32 = .ok (.lstore 5, 2) := by decide +kernel
theorem dX4_hasReportOf_34 : decode cX4_hasReportOf 34 = .ok (.iload_n 2, 1) := by decide +kernel
theorem dX4_hasReportOf_35 : decode cX4_hasReportOf 35 = .ok (.iconst 3, 1) := by decide +kernel
theorem dX4_hasReportOf_36 : decode cX4_hasReportOf 36 = .ok (.if_icmp .ne 29, 3) := by decide +kernel
theorem dX4_hasReportOf_39 : decode cX4_hasReportOf 39 = .ok (.lload 5, 2) := by decide +kernel
theorem dX4_hasReportOf_41 : decode cX4_hasReportOf 41 = .ok (.invokestatic 173, 3) := by decide +kernel
theorem dX4_hasReportOf_44 : decode cX4_hasReportOf 44 = .ok (.iload_n 3, 1) := by decide +kernel
theorem dX4_hasReportOf_45 : decode cX4_hasReportOf 45 = .ok (.invokestatic 218, 3) := by decide +kernel
theorem dX4_hasReportOf_48 : decode cX4_hasReportOf 48 = .ok (.ifCond .ne 15, 3) := by decide +kernel
theorem dX4_hasReportOf_51 : decode cX4_hasReportOf 51 = .ok (.lload 5, 2) := by decide +kernel
theorem dX4_hasReportOf_53 : decode cX4_hasReportOf 53 = .ok (.invokestatic 184, 3) := by decide +kernel
theorem dX4_hasReportOf_56 : decode cX4_hasReportOf 56 = .ok (.iload_n 3, 1) := by decide +kernel
theorem dX4_hasReportOf_57 : decode cX4_hasReportOf 57 = .ok (.invokestatic 218, 3) := by decide +kernel
theorem dX4_hasReportOf_60 : decode cX4_hasReportOf 60 = .ok (.ifCond .eq 5, 3) := by decide +kernel
theorem dX4_hasReportOf_63 : decode cX4_hasReportOf 63 = .ok (.iconst 1, 1) := by decide +kernel
theorem dX4_hasReportOf_64 : decode cX4_hasReportOf 64 = .ok (.ireturn, 1) := by decide +kernel
theorem dX4_hasReportOf_65 : decode cX4_hasReportOf 65 = .ok (.iload_n 2, 1) := by decide +kernel
theorem dX4_hasReportOf_66 : decode cX4_hasReportOf 66 = .ok (.iconst 4, 1) := by decide +kernel
theorem dX4_hasReportOf_67 : decode cX4_hasReportOf 67 = .ok (.if_icmp .ne 29, 3) := by decide +kernel
theorem dX4_hasReportOf_70 : decode cX4_hasReportOf 70 = .ok (.lload 5, 2) := by decide +kernel
theorem dX4_hasReportOf_72 : decode cX4_hasReportOf 72 = .ok (.invokestatic 173, 3) := by decide +kernel
theorem dX4_hasReportOf_75 : decode cX4_hasReportOf 75 = .ok (.iload_n 3, 1) := by decide +kernel
theorem dX4_hasReportOf_76 : decode cX4_hasReportOf 76 = .ok (.invokestatic 209, 3) := by decide +kernel
theorem dX4_hasReportOf_79 : decode cX4_hasReportOf 79 = .ok (.ifCond .ne 15, 3) := by decide +kernel
theorem dX4_hasReportOf_82 : decode cX4_hasReportOf 82 = .ok (.lload 5, 2) := by decide +kernel
theorem dX4_hasReportOf_84 : decode cX4_hasReportOf 84 = .ok (.invokestatic 184, 3) := by decide +kernel
theorem dX4_hasReportOf_87 : decode cX4_hasReportOf 87 = .ok (.iload_n 3, 1) := by decide +kernel
theorem dX4_hasReportOf_88 : decode cX4_hasReportOf 88 = .ok (.invokestatic 209, 3) := by decide +kernel
theorem dX4_hasReportOf_91 : decode cX4_hasReportOf 91 = .ok (.ifCond .eq 5, 3) := by decide +kernel
theorem dX4_hasReportOf_94 : decode cX4_hasReportOf 94 = .ok (.iconst 1, 1) := by decide +kernel
theorem dX4_hasReportOf_95 : decode cX4_hasReportOf 95 = .ok (.ireturn, 1) := by decide +kernel
theorem dX4_hasReportOf_96 : decode cX4_hasReportOf 96 = .ok (.iinc 4 1, 3) := by decide +kernel
theorem dX4_hasReportOf_99 : decode cX4_hasReportOf 99 = .ok (.goto (-96), 3) := by decide +kernel
theorem dX4_hasReportOf_102 : decode cX4_hasReportOf 102 = .ok (.iconst 0, 1) := by decide +kernel
theorem dX4_hasReportOf_103 : decode cX4_hasReportOf 103 = .ok (.ireturn, 1) := by decide +kernel
set_option maxRecDepth 20000 in
theorem ggX4_lengthened_X4_caseOf : GoodIn wsX4_lengthened wsX4_caseOf := goodIn_r _ [6, 7, 28, 29, 30, 31, 32, 33, 34, 35, 36, 37, 38, 39, 40, 41, 42, 43] (by decide +kernel) (by decide +kernel)
set_option maxRecDepth 20000 in
theorem gX4_lengthened_X4_caseOf : GoodIn wsX4_lengthened (wsV RX4 143 RX4 yX4_caseOf wsX4_caseOf) := goodIn_app (goodIn_of _ (by decide +kernel)) ggX4_lengthened_X4_caseOf
set_option maxRecDepth 20000 in
theorem ggX4_lengthened_X4_firstCite : GoodIn wsX4_lengthened wsX4_firstCite := goodIn_r _ [11, 12, 1, 13, 14, 15, 16, 17, 18, 19, 28, 29, 30, 31, 32, 33, 34, 35, 36, 37, 38, 39, 40, 41, 42, 43, 44, 45, 46, 47] (by decide +kernel) (by decide +kernel)
set_option maxRecDepth 20000 in
theorem gX4_lengthened_X4_firstCite : GoodIn wsX4_lengthened (wsV RX4 170 RX4 yX4_firstCite wsX4_firstCite) := goodIn_app (goodIn_of _ (by decide +kernel)) ggX4_lengthened_X4_firstCite
set_option maxRecDepth 20000 in
theorem ggX4_lengthened_X1_cite : GoodIn wsX4_lengthened wsX1_cite := goodIn_r _ [18, 19, 44, 45, 46, 47] (by decide +kernel) (by decide +kernel)
set_option maxRecDepth 20000 in
theorem gX4_lengthened_X1_cite : GoodIn wsX4_lengthened (wsV RX4 106 RX1 yX1_cite wsX1_cite) := goodIn_app (goodIn_of _ (by decide +kernel)) ggX4_lengthened_X1_cite
set_option maxRecDepth 20000 in
theorem ggX4_lengthened_X0_pin : GoodIn wsX4_lengthened wsX0_pin := goodIn_r _ [23] (by decide +kernel) (by decide +kernel)
set_option maxRecDepth 20000 in
theorem gX4_lengthened_X0_pin : GoodIn wsX4_lengthened (va_wsS RX4 167 yX0_pin wsX0_pin) := goodIn_app (goodIn_of _ (by decide +kernel)) ggX4_lengthened_X0_pin
set_option maxRecDepth 20000 in
theorem ggX4_lengthened_X0_withPin : GoodIn wsX4_lengthened wsX0_withPin := goodIn_r _ [26, 27] (by decide +kernel) (by decide +kernel)
set_option maxRecDepth 20000 in
theorem gX4_lengthened_X0_withPin : GoodIn wsX4_lengthened (va_wsS RX4 221 yX0_withPin wsX0_withPin) := goodIn_app (goodIn_of _ (by decide +kernel)) ggX4_lengthened_X0_withPin
theorem dX4_lengthened_0 : decode cX4_lengthened 0 = .ok (.aload_n 0, 1) := by decide +kernel
theorem dX4_lengthened_1 : decode cX4_lengthened 1 = .ok (.aload_n 0, 1) := by decide +kernel
theorem dX4_lengthened_2 : decode cX4_lengthened 2 = .ok (.iload_n 1, 1) := by decide +kernel
theorem dX4_lengthened_3 : decode cX4_lengthened 3 = .ok (.invokevirtual 143, 3) := by decide +kernel
theorem dX4_lengthened_6 : decode cX4_lengthened 6 = .ok (.invokevirtual 170, 3) := by decide +kernel
theorem dX4_lengthened_9 : decode cX4_lengthened 9 = .ok (.aload_n 0, 1) := by decide +kernel
theorem dX4_lengthened_10 : decode cX4_lengthened 10 = .ok (.getfield 12, 3) := by decide +kernel
theorem dX4_lengthened_13 : decode cX4_lengthened 13 = .ok (.iload_n 1, 1) := by decide +kernel
theorem dX4_lengthened_14 : decode cX4_lengthened 14 = .ok (.invokevirtual 106, 3) := by decide +kernel
theorem dX4_lengthened_17 : decode cX4_lengthened 17 = .ok (.invokestatic 167, 3) := by decide +kernel
theorem dX4_lengthened_20 : decode cX4_lengthened 20 = .ok (.invokestatic 221, 3) := by decide +kernel
theorem dX4_lengthened_23 : decode cX4_lengthened 23 = .ok (.lreturn, 1) := by decide +kernel
set_option maxRecDepth 20000 in
theorem ggX4_shortened_X1_cite : GoodIn wsX4_shortened wsX1_cite := goodIn_r _ [6, 7, 107, 108, 109, 110] (by decide +kernel) (by decide +kernel)
set_option maxRecDepth 20000 in
theorem gX4_shortened_X1_cite : GoodIn wsX4_shortened (wsV RX4 106 RX1 yX1_cite wsX1_cite) := goodIn_app (goodIn_of _ (by decide +kernel)) ggX4_shortened_X1_cite
set_option maxRecDepth 20000 in
theorem ggX4_shortened_X4_caseOf : GoodIn wsX4_shortened wsX4_caseOf := goodIn_r _ [12, 13, 91, 92, 93, 94, 95, 96, 97, 98, 99, 100, 101, 102, 103, 104, 105, 106] (by decide +kernel) (by decide +kernel)
set_option maxRecDepth 20000 in
theorem gX4_shortened_X4_caseOf : GoodIn wsX4_shortened (wsV RX4 143 RX4 yX4_caseOf wsX4_caseOf) := goodIn_app (goodIn_of _ (by decide +kernel)) ggX4_shortened_X4_caseOf
set_option maxRecDepth 20000 in
theorem ggX4_shortened_X4_isFull : GoodIn wsX4_shortened wsX4_isFull := goodIn_r _ [17, 18, 91, 92, 93, 94, 95, 96, 97, 98, 99, 100, 101, 102, 103, 104, 105, 106] (by decide +kernel) (by decide +kernel)
set_option maxRecDepth 20000 in
theorem gX4_shortened_X4_isFull : GoodIn wsX4_shortened (wsV RX4 103 RX4 yX4_isFull wsX4_isFull) := goodIn_app (goodIn_of _ (by decide +kernel)) ggX4_shortened_X4_isFull
set_option maxRecDepth 20000 in
theorem ggX4_shortened_X4_isCoveredBefore : GoodIn wsX4_shortened wsX4_isCoveredBefore := goodIn_r _ [22, 1, 14, 15, 16, 11, 17, 18, 2, 3, 4, 5, 6, 7, 23, 24, 25, 26, 27, 28, 29, 30, 31, 32, 91, 92, 93, 94, 95, 96, 97, 98, 99, 100, 101, 102, 103, 104, 105, 106, 107, 108, 109, 110] (by decide +kernel) (by decide +kernel)
set_option maxRecDepth 20000 in
theorem gX4_shortened_X4_isCoveredBefore : GoodIn wsX4_shortened (wsV RX4 225 RX4 yX4_isCoveredBefore wsX4_isCoveredBefore) := goodIn_app (goodIn_of _ (by decide +kernel)) ggX4_shortened_X4_isCoveredBefore
set_option maxRecDepth 20000 in
theorem ggX4_shortened_X4_shortestSpelling : GoodIn wsX4_shortened wsX4_shortestSpelling := goodIn_r _ [36, 8, 9, 10, 11, 12, 13, 37, 38, 39, 40, 1, 41, 42, 5, 43, 44, 45, 46, 47, 48, 49, 50, 51, 25, 52, 53, 54, 55, 56, 57, 58, 59, 2, 3, 4, 6, 7, 60, 61, 62, 63, 64, 65, 66, 67, 68, 69, 70, 71, 72, 73, 74, 75, 76, 77, 78, 79, 80, 81, 82, 83, 91, 92, 93, 94, 95, 96, 97, 98, 99, 100, 101, 102, 103, 104, 105, 106, 107, 108, 109, 110] (by decide +kernel) (by decide +kernel)
set_option maxRecDepth 20000 in
theorem gX4_shortened_X4_shortestSpelling : GoodIn wsX4_shortened (wsV RX4 228 RX4 yX4_shortestSpelling wsX4_shortestSpelling) := goodIn_app (goodIn_of _ (by decide +kernel)) ggX4_shortened_X4_shortestSpelling
set_option maxRecDepth 20000 in
theorem ggX4_shortened_X0_pin : GoodIn wsX4_shortened wsX0_pin := goodIn_r _ [86] (by decide +kernel) (by decide +kernel)
set_option maxRecDepth 20000 in
theorem gX4_shortened_X0_pin : GoodIn wsX4_shortened (va_wsS RX4 167 yX0_pin wsX0_pin) := goodIn_app (goodIn_of _ (by decide +kernel)) ggX4_shortened_X0_pin
set_option maxRecDepth 20000 in
theorem ggX4_shortened_X0_withPin : GoodIn wsX4_shortened wsX0_withPin := goodIn_r _ [89, 90] (by decide +kernel) (by decide +kernel)
set_option maxRecDepth 20000 in
theorem gX4_shortened_X0_withPin : GoodIn wsX4_shortened (va_wsS RX4 221 yX0_withPin wsX0_withPin) := goodIn_app (goodIn_of _ (by decide +kernel)) ggX4_shortened_X0_withPin
theorem dX4_shortened_0 : decode cX4_shortened 0 = .ok (.aload_n 0, 1) := by decide +kernel
theorem dX4_shortened_1 : decode cX4_shortened 1 = .ok (.getfield 12, 3) := by decide +kernel
theorem dX4_shortened_4 : decode cX4_shortened 4 = .ok (.iload_n 1, 1) := by decide +kernel
theorem dX4_shortened_5 : decode cX4_shortened 5 = .ok (.invokevirtual 106, 3) := by decide +kernel
theorem dX4_shortened_8 : decode cX4_shortened 8 = .ok (.lstore_n 2, 1) := by decide +kernel
theorem dX4_shortened_9 : decode cX4_shortened 9 = .ok (.aload_n 0, 1) := by decide +kernel
theorem dX4_shortened_10 : decode cX4_shortened 10 = .ok (.iload_n 1, 1) := by decide +kernel
theorem dX4_shortened_11 : decode cX4_shortened 11 = .ok (.invokevirtual 143, 3) := by decide +kernel
theorem dX4_shortened_14 : decode cX4_shortened 14 = .ok (.ifCond .ge 5, 3) := by decide +kernel
theorem dX4_shortened_17 : decode cX4_shortened 17 = .ok (.lload_n 2, 1) := by decide +kernel
theorem dX4_shortened_18 : decode cX4_shortened 18 = .ok (.lreturn, 1) := by decide +kernel
theorem dX4_shortened_19 : decode cX4_shortened 19 = .ok (.aload_n 0, 1) := by decide +kernel
theorem dX4_shortened_20 : decode cX4_shortened 20 = .ok (.iload_n 1, 1) := by decide +kernel
theorem dX4_shortened_21 : decode cX4_shortened 21 = .ok (.invokevirtual 103, 3) := by decide +kernel
theorem dX4_shortened_24 : decode cX4_shortened 24 = .ok (.ifCond .eq 13, 3) := by decide +kernel
theorem dX4_shortened_27 : decode cX4_shortened 27 = .ok (.aload_n 0, 1) := by decide +kernel
theorem dX4_shortened_28 : decode cX4_shortened 28 = .ok (.iload_n 1, 1) := by decide +kernel
theorem dX4_shortened_29 : decode cX4_shortened 29 = .ok (.invokevirtual 225, 3) := by decide +kernel
theorem dX4_shortened_32 : decode cX4_shortened 32 = .ok (.ifCond .ne 5, 3) := by decide +kernel
theorem dX4_shortened_35 : decode cX4_shortened 35 = .ok (.lload_n 2, 1) := by decide +kernel
theorem dX4_shortened_36 : decode cX4_shortened 36 = .ok (.lreturn, 1) := by decide +kernel
theorem dX4_shortened_37 : decode cX4_shortened 37 = .ok (.aload_n 0, 1) := by decide +kernel
theorem dX4_shortened_38 : decode cX4_shortened 38 = .ok (.iload_n 1, 1) := by decide +kernel
theorem dX4_shortened_39 : decode cX4_shortened 39 = .ok (.invokevirtual 228, 3) := by decide +kernel
theorem dX4_shortened_42 : decode cX4_shortened 42 = .ok (.lload_n 2, 1) := by decide +kernel
theorem dX4_shortened_43 : decode cX4_shortened 43 = .ok (.invokestatic 167, 3) := by decide +kernel
theorem dX4_shortened_46 : decode cX4_shortened 46 = .ok (.invokestatic 221, 3) := by decide +kernel
theorem dX4_shortened_49 : decode cX4_shortened 49 = .ok (.lreturn, 1) := by decide +kernel
set_option maxRecDepth 20000 in
theorem ggX4_isCoveredBefore_X4_isFull : GoodIn wsX4_isCoveredBefore wsX4_isFull := goodIn_r _ [6, 7, 24, 25, 26, 27, 28, 29, 30, 31, 32, 33, 34, 35, 36, 37, 38, 39] (by decide +kernel) (by decide +kernel)
set_option maxRecDepth 20000 in
theorem gX4_isCoveredBefore_X4_isFull : GoodIn wsX4_isCoveredBefore (wsV RX4 103 RX4 yX4_isFull wsX4_isFull) := goodIn_app (goodIn_of _ (by decide +kernel)) ggX4_isCoveredBefore_X4_isFull
set_option maxRecDepth 20000 in
theorem ggX4_isCoveredBefore_X1_cite : GoodIn wsX4_isCoveredBefore wsX1_cite := goodIn_r _ [12, 13, 40, 41, 42, 43] (by decide +kernel) (by decide +kernel)
set_option maxRecDepth 20000 in
theorem gX4_isCoveredBefore_X1_cite : GoodIn wsX4_isCoveredBefore (wsV RX4 106 RX1 yX1_cite wsX1_cite) := goodIn_app (goodIn_of _ (by decide +kernel)) ggX4_isCoveredBefore_X1_cite
set_option maxRecDepth 20000 in
theorem ggX4_isCoveredBefore_X0_hasAllOf : GoodIn wsX4_isCoveredBefore wsX0_hasAllOf := goodIn_r _ [17, 18, 19, 16, 20, 21, 22, 23] (by decide +kernel) (by decide +kernel)
set_option maxRecDepth 20000 in
theorem gX4_isCoveredBefore_X0_hasAllOf : GoodIn wsX4_isCoveredBefore (va_wsS RX4 231 yX0_hasAllOf wsX0_hasAllOf) := goodIn_app (goodIn_of _ (by decide +kernel)) ggX4_isCoveredBefore_X0_hasAllOf
theorem dX4_isCoveredBefore_0 : decode cX4_isCoveredBefore 0 = .ok (.iconst 0, 1) := by decide +kernel
theorem dX4_isCoveredBefore_1 : decode cX4_isCoveredBefore 1 = .ok (.istore_n 2, 1) := by decide +kernel
theorem dX4_isCoveredBefore_2 : decode cX4_isCoveredBefore 2 = .ok (.iload_n 2, 1) := by decide +kernel
theorem dX4_isCoveredBefore_3 : decode cX4_isCoveredBefore 3 = .ok (.iload_n 1, 1) := by decide +kernel
theorem dX4_isCoveredBefore_4 : decode cX4_isCoveredBefore 4 = .ok (.if_icmp .ge 41, 3) := by decide +kernel
theorem dX4_isCoveredBefore_7 : decode cX4_isCoveredBefore 7 = .ok (.aload_n 0, 1) := by decide +kernel
theorem dX4_isCoveredBefore_8 : decode cX4_isCoveredBefore 8 = .ok (.iload_n 2, 1) := by decide +kernel
theorem dX4_isCoveredBefore_9 : decode cX4_isCoveredBefore 9 = .ok (.invokevirtual 103, 3) := by decide +kernel
theorem dX4_isCoveredBefore_12 : decode cX4_isCoveredBefore 12 = .ok (.ifCond .eq 27, 3) := by decide +kernel
theorem dX4_isCoveredBefore_15 : decode cX4_isCoveredBefore 15 = .ok (.aload_n 0, 1) := by decide +kernel
theorem dX4_isCoveredBefore_16 : decode cX4_isCoveredBefore 16 = .ok (.getfield 12, 3) := by decide +kernel
theorem dX4_isCoveredBefore_19 : decode cX4_isCoveredBefore 19 = .ok (.iload_n 2, 1) := by decide +kernel
theorem dX4_isCoveredBefore_20 : decode cX4_isCoveredBefore 20 = .ok (.invokevirtual 106, 3) := by decide +kernel
theorem dX4_isCoveredBefore_23 : decode cX4_isCoveredBefore 23 = .ok (.aload_n 0, 1) := by decide +kernel
theorem dX4_isCoveredBefore_24 : decode cX4_isCoveredBefore 24 = .ok (.getfield 12, 3) := by decide +kernel
theorem dX4_isCoveredBefore_27 : decode cX4_isCoveredBefore 27 = .ok (.iload_n 1, 1) := by decide +kernel
theorem dX4_isCoveredBefore_28 : decode cX4_isCoveredBefore 28 = .ok (.invokevirtual 106, 3) := by decide +kernel
theorem dX4_isCoveredBefore_31 : decode cX4_isCoveredBefore 31 = .ok (.invokestatic 231, 3) := by decide +kernel
theorem dX4_isCoveredBefore_34 : decode cX4_isCoveredBefore 34 = .ok (.ifCond .eq 5, 3) := by decide +kernel
theorem dX4_isCoveredBefore_37 : decode cX4_isCoveredBefore 37 = .ok (.iconst 1, 1) := by decide +kernel
theorem dX4_isCoveredBefore_38 : decode cX4_isCoveredBefore 38 = .ok (.ireturn, 1) := by decide +kernel
theorem dX4_isCoveredBefore_39 : decode cX4_isCoveredBefore 39 = .ok (.iinc 2 1, 3) := by decide +kernel
theorem dX4_isCoveredBefore_42 : decode cX4_isCoveredBefore 42 = .ok (.goto (-40), 3) := by decide +kernel
theorem dX4_isCoveredBefore_45 : decode cX4_isCoveredBefore 45 = .ok (.iconst 0, 1) := by decide +kernel
theorem dX4_isCoveredBefore_46 : decode cX4_isCoveredBefore 46 = .ok (.ireturn, 1) := by decide +kernel
set_option maxRecDepth 20000 in
theorem ggX4_shortestSpelling_X4_caseOf : GoodIn wsX4_shortestSpelling wsX4_caseOf := goodIn_r _ [5, 6, 62, 63, 64, 65, 66, 67, 68, 69, 70, 71, 72, 73, 74, 75, 76, 77] (by decide +kernel) (by decide +kernel)
set_option maxRecDepth 20000 in
theorem gX4_shortestSpelling_X4_caseOf : GoodIn wsX4_shortestSpelling (wsV RX4 143 RX4 yX4_caseOf wsX4_caseOf) := goodIn_app (goodIn_of _ (by decide +kernel)) ggX4_shortestSpelling_X4_caseOf
set_option maxRecDepth 20000 in
theorem ggX4_shortestSpelling_X4_pointedAt : GoodIn wsX4_shortestSpelling wsX4_pointedAt := goodIn_r _ [10, 11, 12, 13, 14, 15, 16, 17, 18, 19, 20, 21, 62, 63, 64, 65, 66, 67, 68, 69, 70, 71, 72, 73, 74, 75, 76, 77, 78, 79, 80, 81] (by decide +kernel) (by decide +kernel)
set_option maxRecDepth 20000 in
theorem gX4_shortestSpelling_X4_pointedAt : GoodIn wsX4_shortestSpelling (wsV RX4 152 RX4 yX4_pointedAt wsX4_pointedAt) := goodIn_app (goodIn_of _ (by decide +kernel)) ggX4_shortestSpelling_X4_pointedAt
set_option maxRecDepth 20000 in
theorem ggX4_shortestSpelling_X0_makeSame : GoodIn wsX4_shortestSpelling wsX0_makeSame := goodIn_r _ [25, 26] (by decide +kernel) (by decide +kernel)
set_option maxRecDepth 20000 in
theorem gX4_shortestSpelling_X0_makeSame : GoodIn wsX4_shortestSpelling (va_wsS RX4 234 yX0_makeSame wsX0_makeSame) := goodIn_app (goodIn_of _ (by decide +kernel)) ggX4_shortestSpelling_X0_makeSame
set_option maxRecDepth 20000 in
theorem ggX4_shortestSpelling_X4_firstCite : GoodIn wsX4_shortestSpelling wsX4_firstCite := goodIn_r _ [30, 31, 11, 32, 33, 34, 35, 14, 36, 37, 62, 63, 64, 65, 66, 67, 68, 69, 70, 71, 72, 73, 74, 75, 76, 77, 78, 79, 80, 81] (by decide +kernel) (by decide +kernel)
set_option maxRecDepth 20000 in
theorem gX4_shortestSpelling_X4_firstCite : GoodIn wsX4_shortestSpelling (wsV RX4 170 RX4 yX4_firstCite wsX4_firstCite) := goodIn_app (goodIn_of _ (by decide +kernel)) ggX4_shortestSpelling_X4_firstCite
set_option maxRecDepth 20000 in
theorem ggX4_shortestSpelling_X0_first : GoodIn wsX4_shortestSpelling wsX0_first := goodIn_r _ [40] (by decide +kernel) (by decide +kernel)
set_option maxRecDepth 20000 in
theorem gX4_shortestSpelling_X0_first : GoodIn wsX4_shortestSpelling (va_wsS RX4 130 yX0_first wsX0_first) := goodIn_app (goodIn_of _ (by decide +kernel)) ggX4_shortestSpelling_X0_first
set_option maxRecDepth 20000 in
theorem ggX4_shortestSpelling_X4_namedWith : GoodIn wsX4_shortestSpelling wsX4_namedWith := goodIn_r _ [44, 45, 62, 63, 64, 65, 66, 67, 68, 69, 70, 71, 72, 73, 74, 75, 76, 77] (by decide +kernel) (by decide +kernel)
set_option maxRecDepth 20000 in
theorem gX4_shortestSpelling_X4_namedWith : GoodIn wsX4_shortestSpelling (wsV RX4 137 RX4 yX4_namedWith wsX4_namedWith) := goodIn_app (goodIn_of _ (by decide +kernel)) ggX4_shortestSpelling_X4_namedWith
set_option maxRecDepth 20000 in
theorem ggX4_shortestSpelling_X4_citedBefore : GoodIn wsX4_shortestSpelling wsX4_citedBefore := goodIn_r _ [49, 31, 32, 62, 63, 64, 65, 66, 67, 68, 69, 70, 71, 72, 73, 74, 75, 76, 77] (by decide +kernel) (by decide +kernel)
set_option maxRecDepth 20000 in
theorem gX4_shortestSpelling_X4_citedBefore : GoodIn wsX4_shortestSpelling (wsV RX4 238 RX4 yX4_citedBefore wsX4_citedBefore) := goodIn_app (goodIn_of _ (by decide +kernel)) ggX4_shortestSpelling_X4_citedBefore
set_option maxRecDepth 20000 in
theorem ggX4_shortestSpelling_X0_makeShort : GoodIn wsX4_shortestSpelling wsX0_makeShort := goodIn_r _ [52] (by decide +kernel) (by decide +kernel)
set_option maxRecDepth 20000 in
theorem gX4_shortestSpelling_X0_makeShort : GoodIn wsX4_shortestSpelling (va_wsS RX4 241 yX0_makeShort wsX0_makeShort) := goodIn_app (goodIn_of _ (by decide +kernel)) ggX4_shortestSpelling_X0_makeShort
set_option maxRecDepth 20000 in
theorem ggX4_shortestSpelling_X4_foundByNote : GoodIn wsX4_shortestSpelling wsX4_foundByNote := goodIn_r _ [56, 57, 62, 63, 64, 65, 66, 67, 68, 69, 70, 71, 72, 73, 74, 75, 76, 77] (by decide +kernel) (by decide +kernel)
set_option maxRecDepth 20000 in
theorem gX4_shortestSpelling_X4_foundByNote : GoodIn wsX4_shortestSpelling (wsV RX4 156 RX4 yX4_foundByNote wsX4_foundByNote) := goodIn_app (goodIn_of _ (by decide +kernel)) ggX4_shortestSpelling_X4_foundByNote
set_option maxRecDepth 20000 in
theorem ggX4_shortestSpelling_X0_makeAbove : GoodIn wsX4_shortestSpelling wsX0_makeAbove := goodIn_r _ [60, 61] (by decide +kernel) (by decide +kernel)
set_option maxRecDepth 20000 in
theorem gX4_shortestSpelling_X0_makeAbove : GoodIn wsX4_shortestSpelling (va_wsS RX4 244 yX0_makeAbove wsX0_makeAbove) := goodIn_app (goodIn_of _ (by decide +kernel)) ggX4_shortestSpelling_X0_makeAbove
theorem dX4_shortestSpelling_0 : decode cX4_shortestSpelling 0 = .ok (.aload_n 0, 1) := by decide +kernel
theorem dX4_shortestSpelling_1 : decode cX4_shortestSpelling 1 = .ok (.iload_n 1, 1) := by decide +kernel
theorem dX4_shortestSpelling_2 : decode cX4_shortestSpelling 2 = .ok (.invokevirtual 143, 3) := by decide +kernel
theorem dX4_shortestSpelling_5 : decode cX4_shortestSpelling 5 = .ok (.istore_n 2, 1) := by decide +kernel
theorem dX4_shortestSpelling_6 : decode cX4_shortestSpelling 6 = .ok (.iload_n 1, 1) := by decide +kernel
theorem dX4_shortestSpelling_7 : decode cX4_shortestSpelling 7 = .ok (.iconst 4, 1) := by decide +kernel
theorem dX4_shortestSpelling_8 : decode cX4_shortestSpelling 8 = .ok (.idiv, 1) := by decide +kernel
theorem dX4_shortestSpelling_9 : decode cX4_shortestSpelling 9 = .ok (.istore_n 3, 1) := by decide +kernel
theorem dX4_shortestSpelling_10 : decode cX4_shortestSpelling 10 = .ok (.aload_n 0, 1) := by decide +kernel
theorem dX4_shortestSpelling_11 : decode cX4_shortestSpelling 11 = .ok (.iload_n 3, 1) := by decide +kernel
theorem dX4_shortestSpelling_12 : decode cX4_shortestSpelling 12 = .ok (.iload_n 1, 1) := by decide +kernel
theorem dX4_shortestSpelling_13 : decode cX4_shortestSpelling 13 = .ok (.iconst 4, 1) := by decide +kernel
theorem dX4_shortestSpelling_14 : decode cX4_shortestSpelling 14 = .ok (.irem, 1) := by decide +kernel
theorem dX4_shortestSpelling_15 : decode cX4_shortestSpelling 15 = .ok (.iload_n 3, 1) := by decide +kernel
theorem dX4_shortestSpelling_16 : decode cX4_shortestSpelling 16 = .ok (.iconst 1, 1) := by decide +kernel
theorem dX4_shortestSpelling_17 : decode cX4_shortestSpelling 17 = .ok (.isub, 1) := by decide +kernel
theorem dX4_shortestSpelling_18 : decode cX4_shortestSpelling 18 = .ok (.invokevirtual 152, 3) := by decide +kernel
theorem dX4_shortestSpelling_21 : decode cX4_shortestSpelling 21 = .ok (.istore 4, 2) := by decide +kernel
theorem dX4_shortestSpelling_23 : decode cX4_shortestSpelling 23 = .ok (.iload 4, 2) := by decide +kernel
theorem dX4_shortestSpelling_25 : decode cX4_shortestSpelling 25 = .ok (.ifCond .lt 17, 3) := by decide +kernel
theorem dX4_shortestSpelling_28 : decode cX4_shortestSpelling 28 = .ok (.aload_n 0, 1) := by decide +kernel
theorem dX4_shortestSpelling_29 : decode cX4_shortestSpelling 29 = .ok (.iload 4, 2) := by decide +kernel
theorem dX4_shortestSpelling_31 : decode cX4_shortestSpelling 31 = .ok (.invokevirtual 143, 3) := by decide +kernel
theorem dX4_shortestSpelling_34 : decode cX4_shortestSpelling 34 = .ok (.iload_n 2, 1) := by decide +kernel
theorem dX4_shortestSpelling_35 : decode cX4_shortestSpelling 35 = .ok (.if_icmp .ne 7, 3) := by decide +kernel
theorem dX4_shortestSpelling_38 : decode cX4_shortestSpelling 38 = .ok (.invokestatic 234, 3) := by decide +kernel
theorem dX4_shortestSpelling_41 : decode cX4_shortestSpelling 41 = .ok (.lreturn, 1) := by decide +kernel
theorem dX4_shortestSpelling_42 : decode cX4_shortestSpelling 42 = .ok (.aload_n 0, 1) := by decide +kernel
theorem dX4_shortestSpelling_43 : decode cX4_shortestSpelling 43 = .ok (.iload_n 2, 1) := by decide +kernel
theorem dX4_shortestSpelling_44 : decode cX4_shortestSpelling 44 = .ok (.invokevirtual 170, 3) := by decide +kernel
theorem dX4_shortestSpelling_47 : decode cX4_shortestSpelling 47 = .ok (.invokestatic 130, 3) := by decide +kernel
theorem dX4_shortestSpelling_50 : decode cX4_shortestSpelling 50 = .ok (.istore 5, 2) := by decide +kernel
theorem dX4_shortestSpelling_52 : decode cX4_shortestSpelling 52 = .ok (.iconst 1, 1) := by decide +kernel
theorem dX4_shortestSpelling_53 : decode cX4_shortestSpelling 53 = .ok (.iload_n 2, 1) := by decide +kernel
theorem dX4_shortestSpelling_54 : decode cX4_shortestSpelling 54 = .ok (.ishl, 1) := by decide +kernel
theorem dX4_shortestSpelling_55 : decode cX4_shortestSpelling 55 = .ok (.istore 6, 2) := by decide +kernel
theorem dX4_shortestSpelling_57 : decode cX4_shortestSpelling 57 = .ok (.aload_n 0, 1) := by decide +kernel
theorem dX4_shortestSpelling_58 : decode cX4_shortestSpelling 58 = .ok (.iload 5, 2) := by decide +kernel
theorem dX4_shortestSpelling_60 : decode cX4_shortestSpelling 60 = .ok (.invokevirtual 137, 3) := by decide +kernel
theorem dX4_shortestSpelling_63 : decode cX4_shortestSpelling 63 = .ok (.aload_n 0, 1) := by decide +kernel
theorem dX4_shortestSpelling_64 : decode cX4_shortestSpelling 64 = .ok (.iload_n 1, 1) := by decide +kernel
theorem dX4_shortestSpelling_65 : decode cX4_shortestSpelling 65 = .ok (.invokevirtual 238, 3) := by decide +kernel
theorem dX4_shortestSpelling_68 : decode cX4_shortestSpelling 68 = .ok (.iand, 1) := by decide +kernel
theorem dX4_shortestSpelling_69 : decode cX4_shortestSpelling 69 = .ok (.iload 6, 2) := by decide +kernel
theorem dX4_shortestSpelling_71 : decode cX4_shortestSpelling 71 = .ok (.if_icmp .ne 9, 3) := by decide +kernel
theorem dX4_shortestSpelling_74 : decode cX4_shortestSpelling 74 = .ok (.iload 5, 2) := by decide +kernel
theorem dX4_shortestSpelling_76 : decode cX4_shortestSpelling 76 = .ok (.invokestatic 241, 3) := by decide +kernel
theorem dX4_shortestSpelling_79 : decode cX4_shortestSpelling 79 = .ok (.lreturn, 1) := by decide +kernel
theorem dX4_shortestSpelling_80 : decode cX4_shortestSpelling 80 = .ok (.iconst 0, 1) := by decide +kernel
theorem dX4_shortestSpelling_81 : decode cX4_shortestSpelling 81 = .ok (.istore 7, 2) := by decide +kernel
theorem dX4_shortestSpelling_83 : decode cX4_shortestSpelling 83 = .ok (.iload 7, 2) := by decide +kernel
theorem dX4_shortestSpelling_85 : decode cX4_shortestSpelling 85 = .ok (.iload_n 3, 1) := by decide +kernel
theorem dX4_shortestSpelling_86 : decode cX4_shortestSpelling 86 = .ok (.if_icmp .ge 35, 3) := by decide +kernel
theorem dX4_shortestSpelling_89 : decode cX4_shortestSpelling 89 = .ok (.aload_n 0, 1) := by decide +kernel
theorem dX4_shortestSpelling_90 : decode cX4_shortestSpelling 90 = .ok (.iload 7, 2) := by decide +kernel
theorem dX4_shortestSpelling_92 : decode cX4_shortestSpelling 92 = .ok (.invokevirtual 156, 3) := by decide +kernel
theorem dX4_shortestSpelling_95 : decode cX4_shortestSpelling 95 = .ok (.aload_n 0, 1) := by decide +kernel
theorem dX4_shortestSpelling_96 : decode cX4_shortestSpelling 96 = .ok (.iload 5, 2) := by decide +kernel
theorem dX4_shortestSpelling_98 : decode cX4_shortestSpelling 98 = .ok (.invokevirtual 137, 3) := by decide +kernel
theorem dX4_shortestSpelling_101 : decode cX4_shortestSpelling 101 = .ok (.iand, 1) := by decide +kernel
theorem dX4_shortestSpelling_102 : decode cX4_shortestSpelling 102 = .ok (.iload 6, 2) := by decide +kernel
theorem dX4_shortestSpelling_104 : decode cX4_shortestSpelling 104 = .ok (.if_icmp .ne 11, 3) := by decide +kernel
theorem dX4_shortestSpelling_107 : decode cX4_shortestSpelling 107 = .ok (.iload 7, 2) := by decide +kernel
theorem dX4_shortestSpelling_109 : decode cX4_shortestSpelling 109 = .ok (.iload 5, 2) := by decide +kernel
theorem dX4_shortestSpelling_111 : decode cX4_shortestSpelling 111 = .ok (.invokestatic 244, 3) := by decide +kernel
theorem dX4_shortestSpelling_114 : decode cX4_shortestSpelling 114 = .ok (.lreturn, 1) := by decide +kernel
theorem dX4_shortestSpelling_115 : decode cX4_shortestSpelling 115 = .ok (.iinc 7 1, 3) := by decide +kernel
theorem dX4_shortestSpelling_118 : decode cX4_shortestSpelling 118 = .ok (.goto (-35), 3) := by decide +kernel
theorem dX4_shortestSpelling_121 : decode cX4_shortestSpelling 121 = .ok (.aload_n 0, 1) := by decide +kernel
theorem dX4_shortestSpelling_122 : decode cX4_shortestSpelling 122 = .ok (.iload_n 2, 1) := by decide +kernel
theorem dX4_shortestSpelling_123 : decode cX4_shortestSpelling 123 = .ok (.invokevirtual 170, 3) := by decide +kernel
theorem dX4_shortestSpelling_126 : decode cX4_shortestSpelling 126 = .ok (.lreturn, 1) := by decide +kernel
theorem dX4_citedBefore_0 : decode cX4_citedBefore 0 = .ok (.iconst 0, 1) := by decide +kernel
theorem dX4_citedBefore_1 : decode cX4_citedBefore 1 = .ok (.istore_n 2, 1) := by decide +kernel
theorem dX4_citedBefore_2 : decode cX4_citedBefore 2 = .ok (.iconst 0, 1) := by decide +kernel
theorem dX4_citedBefore_3 : decode cX4_citedBefore 3 = .ok (.istore_n 3, 1) := by decide +kernel
theorem dX4_citedBefore_4 : decode cX4_citedBefore 4 = .ok (.iload_n 3, 1) := by decide +kernel
theorem dX4_citedBefore_5 : decode cX4_citedBefore 5 = .ok (.aload_n 0, 1) := by decide +kernel
theorem dX4_citedBefore_6 : decode cX4_citedBefore 6 = .ok (.getfield 47, 3) := by decide +kernel
theorem dX4_citedBefore_9 : decode cX4_citedBefore 9 = .ok (.if_icmp .ge 31, 3) := by decide +kernel
theorem dX4_citedBefore_12 : decode cX4_citedBefore 12 = .ok (.iload_n 3, 1) := by decide +kernel
theorem dX4_citedBefore_13 : decode cX4_citedBefore 13 = .ok (.bipush 32, 2) := by decide +kernel
theorem dX4_citedBefore_15 : decode cX4_citedBefore 15 = .ok (.if_icmp .ge 25, 3) := by decide +kernel
theorem dX4_citedBefore_18 : decode cX4_citedBefore 18 = .ok (.aload_n 0, 1) := by decide +kernel
theorem dX4_citedBefore_19 : decode cX4_citedBefore 19 = .ok (.getfield 28, 3) := by decide +kernel
theorem dX4_citedBefore_22 : decode cX4_citedBefore 22 = .ok (.iload_n 3, 1) := by decide +kernel
theorem dX4_citedBefore_23 : decode cX4_citedBefore 23 = .ok (.iaload, 1) := by decide +kernel
theorem dX4_citedBefore_24 : decode cX4_citedBefore 24 = .ok (.iload_n 1, 1) := by decide +kernel
theorem dX4_citedBefore_25 : decode cX4_citedBefore 25 = .ok (.if_icmp .ge 9, 3) := by decide +kernel
theorem dX4_citedBefore_28 : decode cX4_citedBefore 28 = .ok (.iload_n 2, 1) := by decide +kernel
theorem dX4_citedBefore_29 : decode cX4_citedBefore 29 = .ok (.iconst 1, 1) := by decide +kernel
theorem dX4_citedBefore_30 : decode cX4_citedBefore 30 = .ok (.iload_n 3, 1) := by decide +kernel
theorem dX4_citedBefore_31 : decode cX4_citedBefore 31 = .ok (.ishl, 1) := by decide +kernel
theorem dX4_citedBefore_32 : decode cX4_citedBefore 32 = .ok (.ior, 1) := by decide +kernel
theorem dX4_citedBefore_33 : decode cX4_citedBefore 33 = .ok (.istore_n 2, 1) := by decide +kernel
theorem dX4_citedBefore_34 : decode cX4_citedBefore 34 = .ok (.iinc 3 1, 3) := by decide +kernel
theorem dX4_citedBefore_37 : decode cX4_citedBefore 37 = .ok (.goto (-33), 3) := by decide +kernel
theorem dX4_citedBefore_40 : decode cX4_citedBefore 40 = .ok (.iload_n 2, 1) := by decide +kernel
theorem dX4_citedBefore_41 : decode cX4_citedBefore 41 = .ok (.ireturn, 1) := by decide +kernel
set_option maxRecDepth 20000 in
theorem ggX4_perform_X4_study : GoodIn wsX4_perform wsX4_study := goodIn_r _ [7, 8, 1, 9, 10, 11, 12, 13, 14, 15, 16, 17, 6, 18, 19, 20, 2, 21, 22, 23, 24, 25, 26, 27, 28, 29, 30, 31, 32, 33, 34, 35, 36, 37, 38, 39, 40, 41, 42, 43, 44, 45, 46, 47, 48, 49, 50, 51, 52, 53, 54, 55, 56, 57, 58, 59, 60, 61, 62, 63, 64, 65, 66, 67, 68, 69, 70, 71, 72, 73, 74, 75, 76, 77, 78, 79, 80, 81, 82, 83, 84, 85, 86, 87, 88, 89, 90, 91, 92, 93, 94, 95, 96, 97, 98, 99, 100, 101, 102, 103, 104, 105, 106, 107, 108, 109, 110, 111, 112, 113, 114, 115, 116, 117, 118, 119, 120, 121, 122, 123, 124, 125, 126, 127, 128, 129, 130, 131, 132, 133, 134, 135, 136, 137, 138, 139, 140, 141, 142, 143, 246, 247, 248, 249, 250, 251, 252, 253, 254, 255, 256, 257, 258, 259, 260, 261, 262, 263, 264, 265] (by decide +kernel) (by decide +kernel)
set_option maxRecDepth 20000 in
theorem gX4_perform_X4_study : GoodIn wsX4_perform (wsV RX4 248 RX4 yX4_study wsX4_study) := goodIn_app (goodIn_of _ (by decide +kernel)) ggX4_perform_X4_study
set_option maxRecDepth 20000 in
theorem ggX4_perform_X4_performMove : GoodIn wsX4_perform wsX4_performMove := goodIn_r _ [147, 1, 148, 149, 150, 12, 151, 34, 152, 153, 154, 155, 156, 157, 158, 14, 159, 160, 161, 162, 163, 47, 164, 165, 166, 167, 35, 36, 37, 38, 39, 48, 49, 50, 51, 168, 109, 110, 169, 170, 171, 172, 173, 174, 175, 176, 177, 178, 179, 180, 40, 41, 42, 246, 247, 248, 249, 250, 251, 252, 253, 254, 255, 256, 257, 258, 259, 260, 261, 262, 263, 264, 265] (by decide +kernel) (by decide +kernel)
set_option maxRecDepth 20000 in
theorem gX4_perform_X4_performMove : GoodIn wsX4_perform (wsV RX4 251 RX4 yX4_performMove wsX4_performMove) := goodIn_app (goodIn_of _ (by decide +kernel)) ggX4_perform_X4_performMove
set_option maxRecDepth 20000 in
theorem ggX4_perform_X4_performCut : GoodIn wsX4_perform wsX4_performCut := goodIn_r _ [184, 1, 148, 149, 150, 12, 151, 34, 152, 153, 154, 185, 186, 187, 188, 14, 159, 160, 161, 162, 163, 47, 164, 165, 166, 167, 35, 36, 37, 38, 39, 48, 49, 50, 51, 168, 109, 110, 169, 170, 171, 172, 173, 174, 175, 176, 177, 178, 179, 180, 40, 41, 42, 246, 247, 248, 249, 250, 251, 252, 253, 254, 255, 256, 257, 258, 259, 260, 261, 262, 263, 264, 265] (by decide +kernel) (by decide +kernel)
set_option maxRecDepth 20000 in
theorem gX4_perform_X4_performCut : GoodIn wsX4_perform (wsV RX4 254 RX4 yX4_performCut wsX4_performCut) := goodIn_app (goodIn_of _ (by decide +kernel)) ggX4_perform_X4_performCut
set_option maxRecDepth 20000 in
theorem ggX4_perform_X1_hasReference : GoodIn wsX4_perform wsX1_hasReference := goodIn_r _ [192, 35, 36, 37, 12, 38, 34, 39, 262, 263, 264, 265] (by decide +kernel) (by decide +kernel)
set_option maxRecDepth 20000 in
theorem gX4_perform_X1_hasReference : GoodIn wsX4_perform (wsV RX4 257 RX1 yX1_hasReference wsX1_hasReference) := goodIn_app (goodIn_of _ (by decide +kernel)) ggX4_perform_X1_hasReference
set_option maxRecDepth 20000 in
theorem ggX4_perform_X1_slotOf : GoodIn wsX4_perform wsX1_slotOf := goodIn_r _ [42] (by decide +kernel) (by decide +kernel)
set_option maxRecDepth 20000 in
theorem gX4_perform_X1_slotOf : GoodIn wsX4_perform (va_wsS RX4 127 yX1_slotOf wsX1_slotOf) := goodIn_app (goodIn_of _ (by decide +kernel)) ggX4_perform_X1_slotOf
set_option maxRecDepth 20000 in
theorem ggX4_perform_X4_caseOf : GoodIn wsX4_perform wsX4_caseOf := goodIn_r _ [119, 99, 246, 247, 248, 249, 250, 251, 252, 253, 254, 255, 256, 257, 258, 259, 260, 261] (by decide +kernel) (by decide +kernel)
set_option maxRecDepth 20000 in
theorem gX4_perform_X4_caseOf : GoodIn wsX4_perform (wsV RX4 143 RX4 yX4_caseOf wsX4_caseOf) := goodIn_app (goodIn_of _ (by decide +kernel)) ggX4_perform_X4_caseOf
set_option maxRecDepth 20000 in
theorem ggX4_perform_X4_reasonOf : GoodIn wsX4_perform wsX4_reasonOf := goodIn_r _ [196, 124, 246, 247, 248, 249, 250, 251, 252, 253, 254, 255, 256, 257, 258, 259, 260, 261] (by decide +kernel) (by decide +kernel)
set_option maxRecDepth 20000 in
theorem gX4_perform_X4_reasonOf : GoodIn wsX4_perform (wsV RX4 260 RX4 yX4_reasonOf wsX4_reasonOf) := goodIn_app (goodIn_of _ (by decide +kernel)) ggX4_perform_X4_reasonOf
set_option maxRecDepth 20000 in
theorem ggX4_perform_X4_performShortening : GoodIn wsX4_perform wsX4_performShortening := goodIn_r _ [200, 1, 88, 41, 12, 42, 189, 190, 191, 192, 35, 36, 37, 38, 34, 39, 116, 117, 118, 6, 119, 99, 201, 202, 203, 204, 56, 44, 45, 46, 47, 52, 53, 54, 55, 28, 205, 206, 207, 208, 209, 210, 50, 211, 63, 64, 65, 60, 61, 62, 212, 213, 214, 215, 136, 137, 138, 139, 103, 216, 217, 218, 219, 220, 221, 222, 223, 74, 97, 100, 101, 102, 111, 112, 113, 114, 75, 224, 225, 226, 227, 228, 229, 230, 140, 141, 142, 143, 23, 231, 232, 233, 234, 235, 236, 237, 238, 239, 240, 241, 242, 243, 244, 245, 14, 246, 247, 248, 249, 250, 251, 252, 253, 254, 255, 256, 257, 258, 259, 260, 261, 262, 263, 264, 265] (by decide +kernel) (by decide +kernel)
set_option maxRecDepth 20000 in
theorem gX4_perform_X4_performShortening : GoodIn wsX4_perform (wsV RX4 263 RX4 yX4_performShortening wsX4_performShortening) := goodIn_app (goodIn_of _ (by decide +kernel)) ggX4_perform_X4_performShortening
theorem dX4_perform_0 : decode cX4_perform 0 = .ok (.aload_n 0, 1) := by decide +kernel
theorem dX4_perform_1 : decode cX4_perform 1 = .ok (.invokevirtual 248, 3) := by decide +kernel
theorem dX4_perform_4 : decode cX4_perform 4 = .ok (.iload_n 1, 1) := by decide +kernel
theorem dX4_perform_5 : decode cX4_perform 5 = .ok (.bipush 100, 2) := by decide +kernel
theorem dX4_perform_7 : decode cX4_perform 7 = .ok (.idiv, 1) := by decide +kernel
theorem dX4_perform_8 : decode cX4_perform 8 = .ok (.bipush 10, 2) := by decide +kernel
theorem dX4_perform_10 : decode cX4_perform 10 = .ok (.irem, 1) := by decide +kernel
theorem dX4_perform_11 : decode cX4_perform 11 = .ok (.istore_n 2, 1) := by decide +kernel
theorem dX4_perform_12 : decode cX4_perform 12 = .ok (.iload_n 1, 1) := by decide +kernel
theorem dX4_perform_13 : decode cX4_perform 13 = .ok (.bipush 10, 2) := by decide +kernel
theorem dX4_perform_15 : decode cX4_perform 15 = .ok (.idiv, 1) := by decide +kernel
theorem dX4_perform_16 : decode cX4_perform 16 = .ok (.bipush 10, 2) := by decide +kernel
theorem dX4_perform_18 : decode cX4_perform 18 = .ok (.irem, 1) := by decide +kernel
theorem dX4_perform_19 : decode cX4_perform 19 = .ok (.istore_n 3, 1) := by decide +kernel
theorem dX4_perform_20 : decode cX4_perform 20 = .ok (.iload_n 1, 1) := by decide +kernel
theorem dX4_perform_21 : decode cX4_perform 21 = .ok (.bipush 10, 2) := by decide +kernel
theorem dX4_perform_23 : decode cX4_perform 23 = .ok (.irem, 1) := by decide +kernel
theorem dX4_perform_24 : decode cX4_perform 24 = .ok (.istore 4, 2) := by decide +kernel
theorem dX4_perform_26 : decode cX4_perform 26 = .ok (.iload_n 1, 1) := by decide +kernel
theorem dX4_perform_27 : decode cX4_perform 27 = .ok (.sipush 1000, 3) := by decide +kernel
theorem dX4_perform_30 : decode cX4_perform 30 = .ok (.idiv, 1) := by decide +kernel
theorem dX4_perform_31 : decode cX4_perform 31 = .ok (.tableswitch 174 1 6 #[37, 46, 55, 98, 130, 154], 37) := by decide +kernel
theorem dX4_perform_68 : decode cX4_perform 68 = .ok (.aload_n 0, 1) := by decide +kernel
theorem dX4_perform_69 : decode cX4_perform 69 = .ok (.iload_n 2, 1) := by decide +kernel
theorem dX4_perform_70 : decode cX4_perform 70 = .ok (.iload_n 3, 1) := by decide +kernel
theorem dX4_perform_71 : decode cX4_perform 71 = .ok (.iload 4, 2) := by decide +kernel
theorem dX4_perform_73 : decode cX4_perform 73 = .ok (.invokevirtual 251, 3) := by decide +kernel
theorem dX4_perform_76 : decode cX4_perform 76 = .ok (.ireturn, 1) := by decide +kernel
theorem dX4_perform_77 : decode cX4_perform 77 = .ok (.aload_n 0, 1) := by decide +kernel
theorem dX4_perform_78 : decode cX4_perform 78 = .ok (.iload_n 2, 1) := by decide +kernel
theorem dX4_perform_79 : decode cX4_perform 79 = .ok (.iload_n 3, 1) := by decide +kernel
theorem dX4_perform_80 : decode cX4_perform 80 = .ok (.iload 4, 2) := by decide +kernel
theorem dX4_perform_82 : decode cX4_perform 82 = .ok (.invokevirtual 254, 3) := by decide +kernel
theorem dX4_perform_85 : decode cX4_perform 85 = .ok (.ireturn, 1) := by decide +kernel
theorem dX4_perform_86 : decode cX4_perform 86 = .ok (.aload_n 0, 1) := by decide +kernel
theorem dX4_perform_87 : decode cX4_perform 87 = .ok (.getfield 12, 3) := by decide +kernel
theorem dX4_perform_90 : decode cX4_perform 90 = .ok (.iload_n 2, 1) := by decide +kernel
theorem dX4_perform_91 : decode cX4_perform 91 = .ok (.iload_n 3, 1) := by decide +kernel
theorem dX4_perform_92 : decode cX4_perform 92 = .ok (.invokevirtual 257, 3) := by decide +kernel
theorem dX4_perform_95 : decode cX4_perform 95 = .ok (.ifCond .eq 32, 3) := by decide +kernel
theorem dX4_perform_98 : decode cX4_perform 98 = .ok (.aload_n 0, 1) := by decide +kernel
theorem dX4_perform_99 : decode cX4_perform 99 = .ok (.iload_n 2, 1) := by decide +kernel
theorem dX4_perform_100 : decode cX4_perform 100 = .ok (.iload_n 3, 1) := by decide +kernel
theorem dX4_perform_101 : decode cX4_perform 101 = .ok (.invokestatic 127, 3) := by decide +kernel
theorem dX4_perform_104 : decode cX4_perform 104 = .ok (.invokevirtual 143, 3) := by decide +kernel
theorem dX4_perform_107 : decode cX4_perform 107 = .ok (.iload 4, 2) := by decide +kernel
theorem dX4_perform_109 : decode cX4_perform 109 = .ok (.bipush 9, 2) := by decide +kernel
theorem dX4_perform_111 : decode cX4_perform 111 = .ok (.if_icmp .ne 7, 3) := by decide +kernel
theorem dX4_perform_114 : decode cX4_perform 114 = .ok (.iconst (-1), 1) := by decide +kernel
theorem dX4_perform_115 : decode cX4_perform 115 = .ok (.goto 5, 3) := by decide +kernel
theorem dX4_perform_118 : decode cX4_perform 118 = .ok (.iload 4, 2) := by decide +kernel
theorem dX4_perform_120 : decode cX4_perform 120 = .ok (.if_icmp .ne 7, 3) := by decide +kernel
theorem dX4_perform_123 : decode cX4_perform 123 = .ok (.iconst 1, 1) := by decide +kernel
theorem dX4_perform_124 : decode cX4_perform 124 = .ok (.goto 4, 3) := by decide +kernel
theorem dX4_perform_127 : decode cX4_perform 127 = .ok (.iconst 0, 1) := by decide +kernel
theorem dX4_perform_128 : decode cX4_perform 128 = .ok (.ireturn, 1) := by decide +kernel
theorem dX4_perform_129 : decode cX4_perform 129 = .ok (.aload_n 0, 1) := by decide +kernel
theorem dX4_perform_130 : decode cX4_perform 130 = .ok (.getfield 12, 3) := by decide +kernel
theorem dX4_perform_133 : decode cX4_perform 133 = .ok (.iload_n 2, 1) := by decide +kernel
theorem dX4_perform_134 : decode cX4_perform 134 = .ok (.iload_n 3, 1) := by decide +kernel
theorem dX4_perform_135 : decode cX4_perform 135 = .ok (.invokevirtual 257, 3) := by decide +kernel
theorem dX4_perform_138 : decode cX4_perform 138 = .ok (.ifCond .eq 21, 3) := by decide +kernel
theorem dX4_perform_141 : decode cX4_perform 141 = .ok (.aload_n 0, 1) := by decide +kernel
theorem dX4_perform_142 : decode cX4_perform 142 = .ok (.iload_n 2, 1) := by decide +kernel
theorem dX4_perform_143 : decode cX4_perform 143 = .ok (.iload_n 3, 1) := by decide +kernel
theorem dX4_perform_144 : decode cX4_perform 144 = .ok (.invokestatic 127, 3) := by decide +kernel
theorem dX4_perform_147 : decode cX4_perform 147 = .ok (.invokevirtual 260, 3) := by decide +kernel
theorem dX4_perform_150 : decode cX4_perform 150 = .ok (.iload 4, 2) := by decide +kernel
theorem dX4_perform_152 : decode cX4_perform 152 = .ok (.if_icmp .ne 7, 3) := by decide +kernel
theorem dX4_perform_155 : decode cX4_perform 155 = .ok (.iconst 1, 1) := by decide +kernel
theorem dX4_perform_156 : decode cX4_perform 156 = .ok (.goto 4, 3) := by decide +kernel
theorem dX4_perform_159 : decode cX4_perform 159 = .ok (.iconst 0, 1) := by decide +kernel
theorem dX4_perform_160 : decode cX4_perform 160 = .ok (.ireturn, 1) := by decide +kernel
theorem dX4_perform_161 : decode cX4_perform 161 = .ok (.iload_n 2, 1) := by decide +kernel
theorem dX4_perform_162 : decode cX4_perform 162 = .ok (.ifCond .ne 21, 3) := by decide +kernel
theorem dX4_perform_165 : decode cX4_perform 165 = .ok (.aload_n 0, 1) := by decide +kernel
theorem dX4_perform_166 : decode cX4_perform 166 = .ok (.getfield 50, 3) := by decide +kernel
theorem dX4_perform_169 : decode cX4_perform 169 = .ok (.bipush 10, 2) := by decide +kernel
theorem dX4_perform_171 : decode cX4_perform 171 = .ok (.iload_n 3, 1) := by decide +kernel
theorem dX4_perform_172 : decode cX4_perform 172 = .ok (.imul, 1) := by decide +kernel
theorem dX4_perform_173 : decode cX4_perform 173 = .ok (.iload 4, 2) := by decide +kernel
theorem dX4_perform_175 : decode cX4_perform 175 = .ok (.iadd, 1) := by decide +kernel
theorem dX4_perform_176 : decode cX4_perform 176 = .ok (.if_icmp .lt 7, 3) := by decide +kernel
theorem dX4_perform_179 : decode cX4_perform 179 = .ok (.iconst 1, 1) := by decide +kernel
theorem dX4_perform_180 : decode cX4_perform 180 = .ok (.goto 4, 3) := by decide +kernel
theorem dX4_perform_183 : decode cX4_perform 183 = .ok (.iconst 0, 1) := by decide +kernel
theorem dX4_perform_184 : decode cX4_perform 184 = .ok (.ireturn, 1) := by decide +kernel
theorem dX4_perform_185 : decode cX4_perform 185 = .ok (.iload 4, 2) := by decide +kernel
theorem dX4_perform_187 : decode cX4_perform 187 = .ok (.ifCond .ne 16, 3) := by decide +kernel
theorem dX4_perform_190 : decode cX4_perform 190 = .ok (.aload_n 0, 1) := by decide +kernel
theorem dX4_perform_191 : decode cX4_perform 191 = .ok (.iload_n 2, 1) := by decide +kernel
theorem dX4_perform_192 : decode cX4_perform 192 = .ok (.iload_n 3, 1) := by decide +kernel
theorem dX4_perform_193 : decode cX4_perform 193 = .ok (.invokevirtual 263, 3) := by decide +kernel
theorem dX4_perform_196 : decode cX4_perform 196 = .ok (.ifCond .eq 7, 3) := by decide +kernel
theorem dX4_perform_199 : decode cX4_perform 199 = .ok (.iconst 1, 1) := by decide +kernel
theorem dX4_perform_200 : decode cX4_perform 200 = .ok (.goto 4, 3) := by decide +kernel
theorem dX4_perform_203 : decode cX4_perform 203 = .ok (.iconst 0, 1) := by decide +kernel
theorem dX4_perform_204 : decode cX4_perform 204 = .ok (.ireturn, 1) := by decide +kernel
theorem dX4_perform_205 : decode cX4_perform 205 = .ok (.iconst 0, 1) := by decide +kernel
theorem dX4_perform_206 : decode cX4_perform 206 = .ok (.ireturn, 1) := by decide +kernel
set_option maxRecDepth 20000 in
theorem ggX4_performMove_X1_hasNote : GoodIn wsX4_performMove wsX1_hasNote := goodIn_r _ [6, 7, 69, 70, 71, 72] (by decide +kernel) (by decide +kernel)
set_option maxRecDepth 20000 in
theorem gX4_performMove_X1_hasNote : GoodIn wsX4_performMove (wsV RX4 266 RX1 yX1_hasNote wsX1_hasNote) := goodIn_app (goodIn_of _ (by decide +kernel)) ggX4_performMove_X1_hasNote
set_option maxRecDepth 20000 in
theorem ggX4_performMove_X6_isMend : GoodIn wsX4_performMove wsX6_isMend := goodIn_r _ [10] (by decide +kernel) (by decide +kernel)
set_option maxRecDepth 20000 in
theorem gX4_performMove_X6_isMend_n269 : GoodIn wsX4_performMove (wsX6_isMend) := ggX4_performMove_X6_isMend
set_option maxRecDepth 20000 in
theorem ggX4_performMove_X1_shiftNote : GoodIn wsX4_performMove wsX1_shiftNote := goodIn_r _ [14, 15, 16, 3, 4, 5, 6, 7, 17, 18, 19, 20, 21, 22, 23, 24, 25, 26, 27, 28, 29, 30, 31, 32, 33, 34, 35, 36, 37, 38, 39, 40, 41, 42, 43, 44, 45, 46, 47, 48, 49, 50, 51, 52, 69, 70, 71, 72] (by decide +kernel) (by decide +kernel)
set_option maxRecDepth 20000 in
theorem gX4_performMove_X1_shiftNote : GoodIn wsX4_performMove (wsV RX4 272 RX1 yX1_shiftNote wsX1_shiftNote) := goodIn_app (goodIn_of _ (by decide +kernel)) ggX4_performMove_X1_shiftNote
theorem dX4_performMove_0 : decode cX4_performMove 0 = .ok (.aload_n 0, 1) := by decide +kernel
theorem dX4_performMove_1 : decode cX4_performMove 1 = .ok (.getfield 12, 3) := by decide +kernel
theorem dX4_performMove_4 : decode cX4_performMove 4 = .ok (.iload_n 1, 1) := by decide +kernel
theorem dX4_performMove_5 : decode cX4_performMove 5 = .ok (.invokevirtual 266, 3) := by decide +kernel
theorem dX4_performMove_8 : decode cX4_performMove 8 = .ok (.ifCond .eq 21, 3) := by decide +kernel
theorem dX4_performMove_11 : decode cX4_performMove 11 = .ok (.aload_n 0, 1) := by decide +kernel
theorem dX4_performMove_12 : decode cX4_performMove 12 = .ok (.getfield 12, 3) := by decide +kernel
theorem dX4_performMove_15 : decode cX4_performMove 15 = .ok (.iload_n 2, 1) := by decide +kernel
theorem dX4_performMove_16 : decode cX4_performMove 16 = .ok (.invokevirtual 266, 3) := by decide +kernel
theorem dX4_performMove_19 : decode cX4_performMove 19 = .ok (.ifCond .eq 10, 3) := by decide +kernel
theorem dX4_performMove_22 : decode cX4_performMove 22 = .ok (.iload_n 3, 1) := by decide +kernel
theorem dX4_performMove_23 : decode cX4_performMove 23 = .ok (.invokestatic 269, 3) := by decide +kernel
theorem dX4_performMove_26 : decode cX4_performMove 26 = .ok (.ifCond .ne 5, 3) := by decide +kernel
theorem dX4_performMove_29 : decode cX4_performMove 29 = .ok (.iconst 0, 1) := by decide +kernel
theorem dX4_performMove_30 : decode cX4_performMove 30 = .ok (.ireturn, 1) := by decide +kernel
theorem dX4_performMove_31 : decode cX4_performMove 31 = .ok (.aload_n 0, 1) := by decide +kernel
theorem dX4_performMove_32 : decode cX4_performMove 32 = .ok (.getfield 12, 3) := by decide +kernel
theorem dX4_performMove_35 : decode cX4_performMove 35 = .ok (.iload_n 1, 1) := by decide +kernel
theorem dX4_performMove_36 : decode cX4_performMove 36 = .ok (.iload_n 2, 1) := by decide +kernel
theorem dX4_performMove_37 : decode cX4_performMove 37 = .ok (.iload_n 3, 1) := by decide +kernel
theorem dX4_performMove_38 : decode cX4_performMove 38 = .ok (.invokevirtual 272, 3) := by decide +kernel
theorem dX4_performMove_41 : decode cX4_performMove 41 = .ok (.iconst 1, 1) := by decide +kernel
theorem dX4_performMove_42 : decode cX4_performMove 42 = .ok (.ireturn, 1) := by decide +kernel
set_option maxRecDepth 20000 in
theorem ggX4_performCut_X1_hasNote : GoodIn wsX4_performCut wsX1_hasNote := goodIn_r _ [6, 7, 69, 70, 71, 72] (by decide +kernel) (by decide +kernel)
set_option maxRecDepth 20000 in
theorem gX4_performCut_X1_hasNote : GoodIn wsX4_performCut (wsV RX4 266 RX1 yX1_hasNote wsX1_hasNote) := goodIn_app (goodIn_of _ (by decide +kernel)) ggX4_performCut_X1_hasNote
set_option maxRecDepth 20000 in
theorem ggX4_performCut_X6_isMend : GoodIn wsX4_performCut wsX6_isMend := goodIn_r _ [10] (by decide +kernel) (by decide +kernel)
set_option maxRecDepth 20000 in
theorem gX4_performCut_X6_isMend_n269 : GoodIn wsX4_performCut (wsX6_isMend) := ggX4_performCut_X6_isMend
set_option maxRecDepth 20000 in
theorem ggX4_performCut_X1_dropNote : GoodIn wsX4_performCut wsX1_dropNote := goodIn_r _ [14, 15, 7, 16, 3, 4, 5, 6, 17, 18, 19, 20, 21, 22, 23, 24, 25, 26, 27, 28, 29, 30, 31, 32, 33, 34, 35, 36, 37, 38, 39, 40, 41, 42, 43, 44, 45, 46, 47, 48, 49, 50, 51, 52, 69, 70, 71, 72] (by decide +kernel) (by decide +kernel)
set_option maxRecDepth 20000 in
theorem gX4_performCut_X1_dropNote : GoodIn wsX4_performCut (wsV RX4 275 RX1 yX1_dropNote wsX1_dropNote) := goodIn_app (goodIn_of _ (by decide +kernel)) ggX4_performCut_X1_dropNote
theorem dX4_performCut_0 : decode cX4_performCut 0 = .ok (.aload_n 0, 1) := by decide +kernel
theorem dX4_performCut_1 : decode cX4_performCut 1 = .ok (.getfield 12, 3) := by decide +kernel
theorem dX4_performCut_4 : decode cX4_performCut 4 = .ok (.iload_n 1, 1) := by decide +kernel
theorem dX4_performCut_5 : decode cX4_performCut 5 = .ok (.invokevirtual 266, 3) := by decide +kernel
theorem dX4_performCut_8 : decode cX4_performCut 8 = .ok (.ifCond .eq 14, 3) := by decide +kernel
theorem dX4_performCut_11 : decode cX4_performCut 11 = .ok (.iload_n 2, 1) := by decide +kernel
theorem dX4_performCut_12 : decode cX4_performCut 12 = .ok (.invokestatic 269, 3) := by decide +kernel
theorem dX4_performCut_15 : decode cX4_performCut 15 = .ok (.ifCond .eq 7, 3) := by decide +kernel
theorem dX4_performCut_18 : decode cX4_performCut 18 = .ok (.iload_n 3, 1) := by decide +kernel
theorem dX4_performCut_19 : decode cX4_performCut 19 = .ok (.ifCond .eq 5, 3) := by decide +kernel
theorem dX4_performCut_22 : decode cX4_performCut 22 = .ok (.iconst 0, 1) := by decide +kernel
theorem dX4_performCut_23 : decode cX4_performCut 23 = .ok (.ireturn, 1) := by decide +kernel
theorem dX4_performCut_24 : decode cX4_performCut 24 = .ok (.aload_n 0, 1) := by decide +kernel
theorem dX4_performCut_25 : decode cX4_performCut 25 = .ok (.getfield 12, 3) := by decide +kernel
theorem dX4_performCut_28 : decode cX4_performCut 28 = .ok (.iload_n 1, 1) := by decide +kernel
theorem dX4_performCut_29 : decode cX4_performCut 29 = .ok (.iload_n 2, 1) := by decide +kernel
theorem dX4_performCut_30 : decode cX4_performCut 30 = .ok (.invokevirtual 275, 3) := by decide +kernel
theorem dX4_performCut_33 : decode cX4_performCut 33 = .ok (.iconst 1, 1) := by decide +kernel
theorem dX4_performCut_34 : decode cX4_performCut 34 = .ok (.ireturn, 1) := by decide +kernel
set_option maxRecDepth 20000 in
theorem ggX4_performShortening_X1_slotOf : GoodIn wsX4_performShortening wsX1_slotOf := goodIn_r _ [5] (by decide +kernel) (by decide +kernel)
set_option maxRecDepth 20000 in
theorem gX4_performShortening_X1_slotOf : GoodIn wsX4_performShortening (va_wsS RX4 127 yX1_slotOf wsX1_slotOf) := goodIn_app (goodIn_of _ (by decide +kernel)) ggX4_performShortening_X1_slotOf
set_option maxRecDepth 20000 in
theorem ggX4_performShortening_X1_hasReference : GoodIn wsX4_performShortening wsX1_hasReference := goodIn_r _ [9, 10, 11, 12, 4, 13, 14, 15, 121, 122, 123, 124] (by decide +kernel) (by decide +kernel)
set_option maxRecDepth 20000 in
theorem gX4_performShortening_X1_hasReference : GoodIn wsX4_performShortening (wsV RX4 257 RX1 yX1_hasReference wsX1_hasReference) := goodIn_app (goodIn_of _ (by decide +kernel)) ggX4_performShortening_X1_hasReference
set_option maxRecDepth 20000 in
theorem ggX4_performShortening_X4_caseOf : GoodIn wsX4_performShortening wsX4_caseOf := goodIn_r _ [20, 21, 105, 106, 107, 108, 109, 110, 111, 112, 113, 114, 115, 116, 117, 118, 119, 120] (by decide +kernel) (by decide +kernel)
set_option maxRecDepth 20000 in
theorem gX4_performShortening_X4_caseOf : GoodIn wsX4_performShortening (wsV RX4 143 RX4 yX4_caseOf wsX4_caseOf) := goodIn_app (goodIn_of _ (by decide +kernel)) ggX4_performShortening_X4_caseOf
set_option maxRecDepth 20000 in
theorem ggX4_performShortening_X4_shortened : GoodIn wsX4_performShortening wsX4_shortened := goodIn_r _ [25, 1, 26, 27, 28, 4, 29, 30, 16, 17, 18, 19, 20, 21, 31, 32, 33, 34, 35, 36, 37, 38, 39, 40, 41, 42, 43, 44, 45, 46, 47, 48, 49, 50, 51, 52, 53, 54, 55, 56, 57, 2, 3, 5, 58, 11, 12, 13, 14, 15, 59, 60, 61, 62, 63, 64, 65, 66, 67, 68, 69, 70, 71, 72, 73, 74, 75, 76, 77, 78, 79, 80, 81, 82, 83, 84, 85, 86, 87, 88, 89, 90, 91, 92, 93, 94, 95, 96, 97, 98, 99, 105, 106, 107, 108, 109, 110, 111, 112, 113, 114, 115, 116, 117, 118, 119, 120, 121, 122, 123, 124] (by decide +kernel) (by decide +kernel)
set_option maxRecDepth 20000 in
theorem gX4_performShortening_X4_shortened : GoodIn wsX4_performShortening (wsV RX4 278 RX4 yX4_shortened wsX4_shortened) := goodIn_app (goodIn_of _ (by decide +kernel)) ggX4_performShortening_X4_shortened
set_option maxRecDepth 20000 in
theorem ggX4_performShortening_X1_replaceCite : GoodIn wsX4_performShortening wsX1_replaceCite := goodIn_r _ [103, 104, 30, 121, 122, 123, 124] (by decide +kernel) (by decide +kernel)
set_option maxRecDepth 20000 in
theorem gX4_performShortening_X1_replaceCite : GoodIn wsX4_performShortening (wsV RX4 281 RX1 yX1_replaceCite wsX1_replaceCite) := goodIn_app (goodIn_of _ (by decide +kernel)) ggX4_performShortening_X1_replaceCite
theorem dX4_performShortening_0 : decode cX4_performShortening 0 = .ok (.iload_n 1, 1) := by decide +kernel
theorem dX4_performShortening_1 : decode cX4_performShortening 1 = .ok (.iload_n 2, 1) := by decide +kernel
theorem dX4_performShortening_2 : decode cX4_performShortening 2 = .ok (.invokestatic 127, 3) := by decide +kernel
theorem dX4_performShortening_5 : decode cX4_performShortening 5 = .ok (.istore_n 3, 1) := by decide +kernel
theorem dX4_performShortening_6 : decode cX4_performShortening 6 = .ok (.aload_n 0, 1) := by decide +kernel
theorem dX4_performShortening_7 : decode cX4_performShortening 7 = .ok (.getfield 12, 3) := by decide +kernel
theorem dX4_performShortening_10 : decode cX4_performShortening 10 = .ok (.iload_n 1, 1) := by decide +kernel
theorem dX4_performShortening_11 : decode cX4_performShortening 11 = .ok (.iload_n 2, 1) := by decide +kernel
theorem dX4_performShortening_12 : decode cX4_performShortening 12 = .ok (.invokevirtual 257, 3) := by decide +kernel
theorem dX4_performShortening_15 : decode cX4_performShortening 15 = .ok (.ifCond .eq 11, 3) := by decide +kernel
theorem dX4_performShortening_18 : decode cX4_performShortening 18 = .ok (.aload_n 0, 1) := by decide +kernel
theorem dX4_performShortening_19 : decode cX4_performShortening 19 = .ok (.iload_n 3, 1) := by decide +kernel
theorem dX4_performShortening_20 : decode cX4_performShortening 20 = .ok (.invokevirtual 143, 3) := by decide +kernel
theorem dX4_performShortening_23 : decode cX4_performShortening 23 = .ok (.ifCond .ge 5, 3) := by decide +kernel
theorem dX4_performShortening_26 : decode cX4_performShortening 26 = .ok (.iconst 0, 1) := by decide +kernel
theorem dX4_performShortening_27 : decode cX4_performShortening 27 = .ok (.ireturn, 1) := by decide +kernel
theorem dX4_performShortening_28 : decode cX4_performShortening 28 = .ok (.aload_n 0, 1) := by decide +kernel
theorem dX4_performShortening_29 : decode cX4_performShortening 29 = .ok (.getfield 12, 3) := by decide +kernel
theorem dX4_performShortening_32 : decode cX4_performShortening 32 = .ok (.iload_n 3, 1) := by decide +kernel
theorem dX4_performShortening_33 : decode cX4_performShortening 33 = .ok (.aload_n 0, 1) := by decide +kernel
theorem dX4_performShortening_34 : decode cX4_performShortening 34 = .ok (.iload_n 3, 1) := by decide +kernel
theorem dX4_performShortening_35 : decode cX4_performShortening 35 = .ok (.invokevirtual 278, 3) := by decide +kernel
theorem dX4_performShortening_38 : decode cX4_performShortening 38 = .ok (.invokevirtual 281, 3) := by decide +kernel
theorem dX4_performShortening_41 : decode cX4_performShortening 41 = .ok (.iconst 1, 1) := by decide +kernel
theorem dX4_performShortening_42 : decode cX4_performShortening 42 = .ok (.ireturn, 1) := by decide +kernel
theorem dX5_init_0 : decode cX5_init 0 = .ok (.aload_n 0, 1) := by decide +kernel
theorem dX5_init_1 : decode cX5_init 1 = .ok (.invokespecial 3, 3) := by decide +kernel
theorem dX5_init_4 : decode cX5_init 4 = .ok (.aload_n 0, 1) := by decide +kernel
theorem dX5_init_5 : decode cX5_init 5 = .ok (.bipush 120, 2) := by decide +kernel
theorem dX5_init_7 : decode cX5_init 7 = .ok (.newarray .int, 2) := by decide +kernel
theorem dX5_init_9 : decode cX5_init 9 = .ok (.putfield 9, 3) := by decide +kernel
theorem dX5_init_12 : decode cX5_init 12 = .ok (.return_, 1) := by decide +kernel
theorem dX5_length_0 : decode cX5_length 0 = .ok (.aload_n 0, 1) := by decide +kernel
theorem dX5_length_1 : decode cX5_length 1 = .ok (.getfield 15, 3) := by decide +kernel
theorem dX5_length_4 : decode cX5_length 4 = .ok (.ireturn, 1) := by decide +kernel
theorem dX5_clear_0 : decode cX5_clear 0 = .ok (.aload_n 0, 1) := by decide +kernel
theorem dX5_clear_1 : decode cX5_clear 1 = .ok (.iconst 0, 1) := by decide +kernel
theorem dX5_clear_2 : decode cX5_clear 2 = .ok (.putfield 15, 3) := by decide +kernel
theorem dX5_clear_5 : decode cX5_clear 5 = .ok (.return_, 1) := by decide +kernel
theorem dX5_append_0 : decode cX5_append 0 = .ok (.aload_n 0, 1) := by decide +kernel
theorem dX5_append_1 : decode cX5_append 1 = .ok (.getfield 15, 3) := by decide +kernel
theorem dX5_append_4 : decode cX5_append 4 = .ok (.bipush 120, 2) := by decide +kernel
theorem dX5_append_6 : decode cX5_append 6 = .ok (.if_icmp .lt 5, 3) := by decide +kernel
theorem dX5_append_9 : decode cX5_append 9 = .ok (.iconst 0, 1) := by decide +kernel
theorem dX5_append_10 : decode cX5_append 10 = .ok (.ireturn, 1) := by decide +kernel
theorem dX5_append_11 : decode cX5_append 11 = .ok (.aload_n 0, 1) := by decide +kernel
theorem dX5_append_12 : decode cX5_append 12 = .ok (.getfield 9, 3) := by decide +kernel
theorem dX5_append_15 : decode cX5_append 15 = .ok (.aload_n 0, 1) := by decide +kernel
theorem dX5_append_16 : decode cX5_append 16 = .ok (.getfield 15, 3) := by decide +kernel
theorem dX5_append_19 : decode cX5_append 19 = .ok (.iload_n 1, 1) := by decide +kernel
theorem dX5_append_20 : decode cX5_append 20 = .ok (.iastore, 1) := by decide +kernel
theorem dX5_append_21 : decode cX5_append 21 = .ok (.aload_n 0, 1) := by decide +kernel
theorem dX5_append_22 : decode cX5_append 22 = .ok (.dup, 1) := by decide +kernel
theorem dX5_append_23 : decode cX5_append 23 = .ok (.getfield 15, 3) := by decide +kernel
theorem dX5_append_26 : decode cX5_append 26 = .ok (.iconst 1, 1) := by decide +kernel
theorem dX5_append_27 : decode cX5_append 27 = .ok (.iadd, 1) := by decide +kernel
theorem dX5_append_28 : decode cX5_append 28 = .ok (.putfield 15, 3) := by decide +kernel
theorem dX5_append_31 : decode cX5_append 31 = .ok (.iconst 1, 1) := by decide +kernel
theorem dX5_append_32 : decode cX5_append 32 = .ok (.ireturn, 1) := by decide +kernel
set_option maxRecDepth 20000 in
theorem ggX5_readInto_X5_advance : GoodIn wsX5_readInto wsX5_advance := goodIn_r _ [9, 1, 2, 10, 4, 95, 96, 97, 98] (by decide +kernel) (by decide +kernel)
set_option maxRecDepth 20000 in
theorem gX5_readInto_X5_advance : GoodIn wsX5_readInto (wsV RX5 22 RX5 yX5_advance wsX5_advance) := goodIn_app (goodIn_of _ (by decide +kernel)) ggX5_readInto_X5_advance
set_option maxRecDepth 20000 in
theorem ggX5_readInto_X1_clear : GoodIn wsX5_readInto wsX1_clear := goodIn_r _ [15, 16, 17, 99, 100, 101, 102] (by decide +kernel) (by decide +kernel)
set_option maxRecDepth 20000 in
theorem gX5_readInto_X1_clear : GoodIn wsX5_readInto (wsV RX5 25 RX1 yX1_clear wsX1_clear) := goodIn_app (goodIn_of _ (by decide +kernel)) ggX5_readInto_X1_clear
set_option maxRecDepth 20000 in
theorem ggX5_readInto_X1_openNote : GoodIn wsX5_readInto wsX1_openNote := goodIn_r _ [21, 17, 16, 22, 99, 100, 101, 102] (by decide +kernel) (by decide +kernel)
set_option maxRecDepth 20000 in
theorem gX5_readInto_X1_openNote : GoodIn wsX5_readInto (wsV RX5 30 RX1 yX1_openNote wsX1_openNote) := goodIn_app (goodIn_of _ (by decide +kernel)) ggX5_readInto_X1_openNote
set_option maxRecDepth 20000 in
theorem ggX5_readInto_X5_readCite : GoodIn wsX5_readInto wsX5_readCite := goodIn_r _ [26, 4, 3, 27, 28, 8, 29, 30, 31, 32, 33, 5, 6, 7, 9, 1, 2, 10, 34, 35, 36, 37, 38, 39, 40, 41, 42, 43, 44, 45, 46, 47, 48, 49, 50, 51, 52, 53, 54, 55, 56, 57, 58, 59, 60, 61, 62, 63, 64, 65, 66, 67, 68, 69, 70, 71, 72, 73, 74, 95, 96, 97, 98] (by decide +kernel) (by decide +kernel)
set_option maxRecDepth 20000 in
theorem gX5_readInto_X5_readCite : GoodIn wsX5_readInto (wsV RX5 33 RX5 yX5_readCite wsX5_readCite) := goodIn_app (goodIn_of _ (by decide +kernel)) ggX5_readInto_X5_readCite
set_option maxRecDepth 20000 in
theorem ggX5_readInto_X1_addCite : GoodIn wsX5_readInto wsX1_addCite := goodIn_r _ [78, 17, 22, 79, 80, 14, 81, 82, 83, 84, 85, 16, 86, 99, 100, 101, 102] (by decide +kernel) (by decide +kernel)
set_option maxRecDepth 20000 in
theorem gX5_readInto_X1_addCite : GoodIn wsX5_readInto (wsV RX5 39 RX1 yX1_addCite wsX1_addCite) := goodIn_app (goodIn_of _ (by decide +kernel)) ggX5_readInto_X1_addCite
set_option maxRecDepth 20000 in
theorem ggX5_readInto_X1_notes : GoodIn wsX5_readInto wsX1_notes := goodIn_r _ [90, 17, 99, 100, 101, 102] (by decide +kernel) (by decide +kernel)
set_option maxRecDepth 20000 in
theorem gX5_readInto_X1_notes : GoodIn wsX5_readInto (wsV RX5 46 RX1 yX1_notes wsX1_notes) := goodIn_app (goodIn_of _ (by decide +kernel)) ggX5_readInto_X1_notes
set_option maxRecDepth 20000 in
theorem ggX5_readInto_X1_size : GoodIn wsX5_readInto wsX1_size := goodIn_r _ [94, 17, 22, 99, 100, 101, 102] (by decide +kernel) (by decide +kernel)
set_option maxRecDepth 20000 in
theorem gX5_readInto_X1_size : GoodIn wsX5_readInto (wsV RX5 50 RX1 yX1_size wsX1_size) := goodIn_app (goodIn_of _ (by decide +kernel)) ggX5_readInto_X1_size
theorem dX5_readInto_0 : decode cX5_readInto 0 = .ok (.aload_n 0, 1) := by decide +kernel
theorem dX5_readInto_1 : decode cX5_readInto 1 = .ok (.iconst (-1), 1) := by decide +kernel
theorem dX5_readInto_2 : decode cX5_readInto 2 = .ok (.putfield 19, 3) := by decide +kernel
theorem dX5_readInto_5 : decode cX5_readInto 5 = .ok (.aload_n 0, 1) := by decide +kernel
theorem dX5_readInto_6 : decode cX5_readInto 6 = .ok (.invokevirtual 22, 3) := by decide +kernel
theorem dX5_readInto_9 : decode cX5_readInto 9 = .ok (.aload_n 1, 1) := by decide +kernel
theorem dX5_readInto_10 : decode cX5_readInto 10 = .ok (.invokevirtual 25, 3) := by decide +kernel
theorem dX5_readInto_13 : decode cX5_readInto 13 = .ok (.aload_n 0, 1) := by decide +kernel
theorem dX5_readInto_14 : decode cX5_readInto 14 = .ok (.getfield 15, 3) := by decide +kernel
theorem dX5_readInto_17 : decode cX5_readInto 17 = .ok (.ifCond .ne 6, 3) := by decide +kernel
theorem dX5_readInto_20 : decode cX5_readInto 20 = .ok (.bipush (-9), 2) := by decide +kernel
theorem dX5_readInto_22 : decode cX5_readInto 22 = .ok (.ireturn, 1) := by decide +kernel
theorem dX5_readInto_23 : decode cX5_readInto 23 = .ok (.aload_n 1, 1) := by decide +kernel
theorem dX5_readInto_24 : decode cX5_readInto 24 = .ok (.invokevirtual 30, 3) := by decide +kernel
theorem dX5_readInto_27 : decode cX5_readInto 27 = .ok (.iconst 0, 1) := by decide +kernel
theorem dX5_readInto_28 : decode cX5_readInto 28 = .ok (.istore_n 2, 1) := by decide +kernel
theorem dX5_readInto_29 : decode cX5_readInto 29 = .ok (.iload_n 2, 1) := by decide +kernel
theorem dX5_readInto_30 : decode cX5_readInto 30 = .ok (.bipush 32, 2) := by decide +kernel
theorem dX5_readInto_32 : decode cX5_readInto 32 = .ok (.if_icmp .ge 129, 3) := by decide +kernel
theorem dX5_readInto_35 : decode cX5_readInto 35 = .ok (.aload_n 0, 1) := by decide +kernel
theorem dX5_readInto_36 : decode cX5_readInto 36 = .ok (.invokevirtual 33, 3) := by decide +kernel
theorem dX5_readInto_39 : decode cX5_readInto 39 = .ok (.lstore_n 3, 1) := by decide +kernel
theorem dX5_readInto_40 : decode cX5_readInto 40 = .ok (.lload_n 3, 1) := by decide +kernel
theorem dX5_readInto_41 : decode cX5_readInto 41 = .ok (.ldc2_w 37, 3) := by decide +kernel
theorem dX5_readInto_44 : decode cX5_readInto 44 = .ok (.lcmp, 1) := by decide +kernel
theorem dX5_readInto_45 : decode cX5_readInto 45 = .ok (.ifCond .ne 8, 3) := by decide +kernel
theorem dX5_readInto_48 : decode cX5_readInto 48 = .ok (.aload_n 0, 1) := by decide +kernel
theorem dX5_readInto_49 : decode cX5_readInto 49 = .ok (.getfield 19, 3) := by decide +kernel
theorem dX5_readInto_52 : decode cX5_readInto 52 = .ok (.ireturn, 1) := by decide +kernel
theorem dX5_readInto_53 : decode cX5_readInto 53 = .ok (.aload_n 1, 1) := by decide +kernel
theorem dX5_readInto_54 : decode cX5_readInto 54 = .ok (.lload_n 3, 1) := by decide +kernel
theorem dX5_readInto_55 : decode cX5_readInto 55 = .ok (.invokevirtual 39, 3) := by decide +kernel
theorem dX5_readInto_58 : decode cX5_readInto 58 = .ok (.aload_n 0, 1) := by decide +kernel
theorem dX5_readInto_59 : decode cX5_readInto 59 = .ok (.getfield 19, 3) := by decide +kernel
theorem dX5_readInto_62 : decode cX5_readInto 62 = .ok (.aload_n 0, 1) := by decide +kernel
theorem dX5_readInto_63 : decode cX5_readInto 63 = .ok (.getfield 15, 3) := by decide +kernel
theorem dX5_readInto_66 : decode cX5_readInto 66 = .ok (.if_icmp .ne 6, 3) := by decide +kernel
theorem dX5_readInto_69 : decode cX5_readInto 69 = .ok (.bipush (-9), 2) := by decide +kernel
theorem dX5_readInto_71 : decode cX5_readInto 71 = .ok (.ireturn, 1) := by decide +kernel
theorem dX5_readInto_72 : decode cX5_readInto 72 = .ok (.aload_n 0, 1) := by decide +kernel
theorem dX5_readInto_73 : decode cX5_readInto 73 = .ok (.getfield 43, 3) := by decide +kernel
theorem dX5_readInto_76 : decode cX5_readInto 76 = .ok (.bipush 44, 2) := by decide +kernel
theorem dX5_readInto_78 : decode cX5_readInto 78 = .ok (.if_icmp .ne 21, 3) := by decide +kernel
theorem dX5_readInto_81 : decode cX5_readInto 81 = .ok (.aload_n 1, 1) := by decide +kernel
theorem dX5_readInto_82 : decode cX5_readInto 82 = .ok (.aload_n 1, 1) := by decide +kernel
theorem dX5_readInto_83 : decode cX5_readInto 83 = .ok (.invokevirtual 46, 3) := by decide +kernel
theorem dX5_readInto_86 : decode cX5_readInto 86 = .ok (.iconst 1, 1) := by decide +kernel
theorem dX5_readInto_87 : decode cX5_readInto 87 = .ok (.isub, 1) := by decide +kernel
theorem dX5_readInto_88 : decode cX5_readInto 88 = .ok (.invokevirtual 50, 3) := by decide +kernel
theorem dX5_readInto_91 : decode cX5_readInto 91 = .ok (.iconst 4, 1) := by decide +kernel
theorem dX5_readInto_92 : decode cX5_readInto 92 = .ok (.if_icmp .ge 7, 3) := by decide +kernel
theorem dX5_readInto_95 : decode cX5_readInto 95 = .ok (.iconst 1, 1) := by decide +kernel
theorem dX5_readInto_96 : decode cX5_readInto 96 = .ok (.goto 4, 3) := by decide +kernel
theorem dX5_readInto_99 : decode cX5_readInto 99 = .ok (.iconst 0, 1) := by decide +kernel
theorem dX5_readInto_100 : decode cX5_readInto 100 = .ok (.istore 5, 2) := by decide +kernel
theorem dX5_readInto_102 : decode cX5_readInto 102 = .ok (.aload_n 0, 1) := by decide +kernel
theorem dX5_readInto_103 : decode cX5_readInto 103 = .ok (.getfield 43, 3) := by decide +kernel
theorem dX5_readInto_106 : decode cX5_readInto 106 = .ok (.bipush 59, 2) := by decide +kernel
theorem dX5_readInto_108 : decode cX5_readInto 108 = .ok (.if_icmp .ne 16, 3) := by decide +kernel
theorem dX5_readInto_111 : decode cX5_readInto 111 = .ok (.aload_n 1, 1) := by decide +kernel
theorem dX5_readInto_112 : decode cX5_readInto 112 = .ok (.invokevirtual 46, 3) := by decide +kernel
theorem dX5_readInto_115 : decode cX5_readInto 115 = .ok (.bipush 8, 2) := by decide +kernel
theorem dX5_readInto_117 : decode cX5_readInto 117 = .ok (.if_icmp .ge 7, 3) := by decide +kernel
theorem dX5_readInto_120 : decode cX5_readInto 120 = .ok (.iconst 1, 1) := by decide +kernel
theorem dX5_readInto_121 : decode cX5_readInto 121 = .ok (.goto 4, 3) := by decide +kernel
theorem dX5_readInto_124 : decode cX5_readInto 124 = .ok (.iconst 0, 1) := by decide +kernel
theorem dX5_readInto_125 : decode cX5_readInto 125 = .ok (.istore 6, 2) := by decide +kernel
theorem dX5_readInto_127 : decode cX5_readInto 127 = .ok (.iload 5, 2) := by decide +kernel
theorem dX5_readInto_129 : decode cX5_readInto 129 = .ok (.ifCond .ne 13, 3) := by decide +kernel
theorem dX5_readInto_132 : decode cX5_readInto 132 = .ok (.iload 6, 2) := by decide +kernel
theorem dX5_readInto_134 : decode cX5_readInto 134 = .ok (.ifCond .ne 8, 3) := by decide +kernel
theorem dX5_readInto_137 : decode cX5_readInto 137 = .ok (.aload_n 0, 1) := by decide +kernel
theorem dX5_readInto_138 : decode cX5_readInto 138 = .ok (.getfield 19, 3) := by decide +kernel
theorem dX5_readInto_141 : decode cX5_readInto 141 = .ok (.ireturn, 1) := by decide +kernel
theorem dX5_readInto_142 : decode cX5_readInto 142 = .ok (.iload 6, 2) := by decide +kernel
theorem dX5_readInto_144 : decode cX5_readInto 144 = .ok (.ifCond .eq 7, 3) := by decide +kernel
theorem dX5_readInto_147 : decode cX5_readInto 147 = .ok (.aload_n 1, 1) := by decide +kernel
theorem dX5_readInto_148 : decode cX5_readInto 148 = .ok (.invokevirtual 30, 3) := by decide +kernel
theorem dX5_readInto_151 : decode cX5_readInto 151 = .ok (.aload_n 0, 1) := by decide +kernel
theorem dX5_readInto_152 : decode cX5_readInto 152 = .ok (.invokevirtual 22, 3) := by decide +kernel
theorem dX5_readInto_155 : decode cX5_readInto 155 = .ok (.iinc 2 1, 3) := by decide +kernel
theorem dX5_readInto_158 : decode cX5_readInto 158 = .ok (.goto (-129), 3) := by decide +kernel
theorem dX5_readInto_161 : decode cX5_readInto 161 = .ok (.aload_n 0, 1) := by decide +kernel
theorem dX5_readInto_162 : decode cX5_readInto 162 = .ok (.getfield 19, 3) := by decide +kernel
theorem dX5_readInto_165 : decode cX5_readInto 165 = .ok (.ireturn, 1) := by decide +kernel
set_option maxRecDepth 20000 in
theorem ggX5_readCite_X5_isLetter : GoodIn wsX5_readCite wsX5_isLetter := goodIn_r _ [6] (by decide +kernel) (by decide +kernel)
set_option maxRecDepth 20000 in
theorem gX5_readCite_X5_isLetter : GoodIn wsX5_readCite (va_wsS RX5 54 yX5_isLetter wsX5_isLetter) := goodIn_app (goodIn_of _ (by decide +kernel)) ggX5_readCite_X5_isLetter
set_option maxRecDepth 20000 in
theorem ggX5_readCite_X5_readNamed : GoodIn wsX5_readCite wsX5_readNamed := goodIn_r _ [10, 1, 2, 11, 12, 13, 5, 14, 15, 16, 17, 3, 4, 6, 18, 19, 20, 21, 22, 23, 24, 25, 26, 27, 28, 29, 30, 31, 32, 33, 34, 35, 36, 37, 38, 39, 40, 41, 42, 43, 44, 45, 46, 59, 60, 61, 62] (by decide +kernel) (by decide +kernel)
set_option maxRecDepth 20000 in
theorem gX5_readCite_X5_readNamed : GoodIn wsX5_readCite (wsV RX5 58 RX5 yX5_readNamed wsX5_readNamed) := goodIn_app (goodIn_of _ (by decide +kernel)) ggX5_readCite_X5_readNamed
set_option maxRecDepth 20000 in
theorem ggX5_readCite_X5_readAbove : GoodIn wsX5_readCite wsX5_readAbove := goodIn_r _ [50, 1, 2, 11, 12, 13, 5, 14, 15, 16, 17, 30, 31, 32, 3, 4, 6, 51, 52, 20, 53, 54, 22, 23, 24, 25, 26, 27, 28, 29, 33, 34, 35, 36, 59, 60, 61, 62] (by decide +kernel) (by decide +kernel)
set_option maxRecDepth 20000 in
theorem gX5_readCite_X5_readAbove : GoodIn wsX5_readCite (wsV RX5 61 RX5 yX5_readAbove wsX5_readAbove) := goodIn_app (goodIn_of _ (by decide +kernel)) ggX5_readCite_X5_readAbove
set_option maxRecDepth 20000 in
theorem ggX5_readCite_X5_advance : GoodIn wsX5_readCite wsX5_advance := goodIn_r _ [14, 15, 16, 17, 1, 59, 60, 61, 62] (by decide +kernel) (by decide +kernel)
set_option maxRecDepth 20000 in
theorem gX5_readCite_X5_advance : GoodIn wsX5_readCite (wsV RX5 22 RX5 yX5_advance wsX5_advance) := goodIn_app (goodIn_of _ (by decide +kernel)) ggX5_readCite_X5_advance
set_option maxRecDepth 20000 in
theorem ggX5_readCite_X0_makeSame : GoodIn wsX5_readCite wsX0_makeSame := goodIn_r _ [57, 58] (by decide +kernel) (by decide +kernel)
set_option maxRecDepth 20000 in
theorem gX5_readCite_X0_makeSame : GoodIn wsX5_readCite (va_wsS RX5 64 yX0_makeSame wsX0_makeSame) := goodIn_app (goodIn_of _ (by decide +kernel)) ggX5_readCite_X0_makeSame
set_option maxRecDepth 20000 in
theorem ggX5_readCite_X5_readPin : GoodIn wsX5_readCite wsX5_readPin := goodIn_r _ [25, 1, 2, 11, 12, 13, 5, 14, 15, 16, 17, 26, 27, 28, 29, 30, 31, 32, 33, 34, 20, 35, 36, 59, 60, 61, 62] (by decide +kernel) (by decide +kernel)
set_option maxRecDepth 20000 in
theorem gX5_readCite_X5_readPin : GoodIn wsX5_readCite (wsV RX5 69 RX5 yX5_readPin wsX5_readPin) := goodIn_app (goodIn_of _ (by decide +kernel)) ggX5_readCite_X5_readPin
theorem dX5_readCite_0 : decode cX5_readCite 0 = .ok (.aload_n 0, 1) := by decide +kernel
theorem dX5_readCite_1 : decode cX5_readCite 1 = .ok (.getfield 43, 3) := by decide +kernel
theorem dX5_readCite_4 : decode cX5_readCite 4 = .ok (.invokestatic 54, 3) := by decide +kernel
theorem dX5_readCite_7 : decode cX5_readCite 7 = .ok (.ifCond .eq 8, 3) := by decide +kernel
theorem dX5_readCite_10 : decode cX5_readCite 10 = .ok (.aload_n 0, 1) := by decide +kernel
theorem dX5_readCite_11 : decode cX5_readCite 11 = .ok (.invokevirtual 58, 3) := by decide +kernel
theorem dX5_readCite_14 : decode cX5_readCite 14 = .ok (.lreturn, 1) := by decide +kernel
theorem dX5_readCite_15 : decode cX5_readCite 15 = .ok (.aload_n 0, 1) := by decide +kernel
theorem dX5_readCite_16 : decode cX5_readCite 16 = .ok (.getfield 43, 3) := by decide +kernel
theorem dX5_readCite_19 : decode cX5_readCite 19 = .ok (.bipush 97, 2) := by decide +kernel
theorem dX5_readCite_21 : decode cX5_readCite 21 = .ok (.if_icmp .ne 8, 3) := by decide +kernel
theorem dX5_readCite_24 : decode cX5_readCite 24 = .ok (.aload_n 0, 1) := by decide +kernel
theorem dX5_readCite_25 : decode cX5_readCite 25 = .ok (.invokevirtual 61, 3) := by decide +kernel
theorem dX5_readCite_28 : decode cX5_readCite 28 = .ok (.lreturn, 1) := by decide +kernel
theorem dX5_readCite_29 : decode cX5_readCite 29 = .ok (.aload_n 0, 1) := by decide +kernel
theorem dX5_readCite_30 : decode cX5_readCite 30 = .ok (.getfield 43, 3) := by decide +kernel
theorem dX5_readCite_33 : decode cX5_readCite 33 = .ok (.bipush 105, 2) := by decide +kernel
theorem dX5_readCite_35 : decode cX5_readCite 35 = .ok (.if_icmp .eq 7, 3) := by decide +kernel
theorem dX5_readCite_38 : decode cX5_readCite 38 = .ok (.ldc2_w 37, 3) := by decide +kernel
theorem dX5_readCite_41 : decode cX5_readCite 41 = .ok (.lreturn, 1) := by decide +kernel
theorem dX5_readCite_42 : decode cX5_readCite 42 = .ok (.aload_n 0, 1) := by decide +kernel
theorem dX5_readCite_43 : decode cX5_readCite 43 = .ok (.invokevirtual 22, 3) := by decide +kernel
theorem dX5_readCite_46 : decode cX5_readCite 46 = .ok (.aload_n 0, 1) := by decide +kernel
theorem dX5_readCite_47 : decode cX5_readCite 47 = .ok (.invokestatic 64, 3) := by decide +kernel
theorem dX5_readCite_50 : decode cX5_readCite 50 = .ok (.invokevirtual 69, 3) := by decide +kernel
theorem dX5_readCite_53 : decode cX5_readCite 53 = .ok (.lreturn, 1) := by decide +kernel
set_option maxRecDepth 20000 in
theorem ggX5_readNamed_X5_advance : GoodIn wsX5_readNamed wsX5_advance := goodIn_r _ [7, 8, 9, 10, 1, 43, 44, 45, 46] (by decide +kernel) (by decide +kernel)
set_option maxRecDepth 20000 in
theorem gX5_readNamed_X5_advance : GoodIn wsX5_readNamed (wsV RX5 22 RX5 yX5_advance wsX5_advance) := goodIn_app (goodIn_of _ (by decide +kernel)) ggX5_readNamed_X5_advance
set_option maxRecDepth 20000 in
theorem ggX5_readNamed_X5_isLetter : GoodIn wsX5_readNamed wsX5_isLetter := goodIn_r _ [13] (by decide +kernel) (by decide +kernel)
set_option maxRecDepth 20000 in
theorem gX5_readNamed_X5_isLetter : GoodIn wsX5_readNamed (va_wsS RX5 54 yX5_isLetter wsX5_isLetter) := goodIn_app (goodIn_of _ (by decide +kernel)) ggX5_readNamed_X5_isLetter
set_option maxRecDepth 20000 in
theorem ggX5_readNamed_X0_makeShort : GoodIn wsX5_readNamed wsX0_makeShort := goodIn_r _ [17] (by decide +kernel) (by decide +kernel)
set_option maxRecDepth 20000 in
theorem gX5_readNamed_X0_makeShort : GoodIn wsX5_readNamed (va_wsS RX5 73 yX0_makeShort wsX0_makeShort) := goodIn_app (goodIn_of _ (by decide +kernel)) ggX5_readNamed_X0_makeShort
set_option maxRecDepth 20000 in
theorem ggX5_readNamed_X5_readPin : GoodIn wsX5_readNamed wsX5_readPin := goodIn_r _ [21, 1, 2, 3, 4, 5, 6, 7, 8, 9, 10, 22, 23, 24, 25, 26, 27, 28, 29, 30, 16, 31, 32, 43, 44, 45, 46] (by decide +kernel) (by decide +kernel)
set_option maxRecDepth 20000 in
theorem gX5_readNamed_X5_readPin : GoodIn wsX5_readNamed (wsV RX5 69 RX5 yX5_readPin wsX5_readPin) := goodIn_app (goodIn_of _ (by decide +kernel)) ggX5_readNamed_X5_readPin
set_option maxRecDepth 20000 in
theorem ggX5_readNamed_X5_readReport : GoodIn wsX5_readNamed wsX5_readReport := goodIn_r _ [36, 1, 26, 27, 6, 28, 3, 4, 5, 7, 8, 9, 10, 22, 23, 24, 25, 43, 44, 45, 46] (by decide +kernel) (by decide +kernel)
set_option maxRecDepth 20000 in
theorem gX5_readNamed_X5_readReport : GoodIn wsX5_readNamed (wsV RX5 77 RX5 yX5_readReport wsX5_readReport) := goodIn_app (goodIn_of _ (by decide +kernel)) ggX5_readNamed_X5_readReport
set_option maxRecDepth 20000 in
theorem ggX5_readNamed_X0_makeFull : GoodIn wsX5_readNamed wsX0_makeFull := goodIn_r _ [39] (by decide +kernel) (by decide +kernel)
set_option maxRecDepth 20000 in
theorem gX5_readNamed_X0_makeFull : GoodIn wsX5_readNamed (va_wsS RX5 81 yX0_makeFull wsX0_makeFull) := goodIn_app (goodIn_of _ (by decide +kernel)) ggX5_readNamed_X0_makeFull
set_option maxRecDepth 20000 in
theorem ggX5_readNamed_X6_isOfSeries : GoodIn wsX5_readNamed wsX6_isOfSeries := goodIn_r _ [42] (by decide +kernel) (by decide +kernel)
set_option maxRecDepth 20000 in
theorem gX5_readNamed_X6_isOfSeries_n85 : GoodIn wsX5_readNamed (wsX6_isOfSeries) := ggX5_readNamed_X6_isOfSeries
theorem dX5_readNamed_0 : decode cX5_readNamed 0 = .ok (.aload_n 0, 1) := by decide +kernel
theorem dX5_readNamed_1 : decode cX5_readNamed 1 = .ok (.getfield 43, 3) := by decide +kernel
theorem dX5_readNamed_4 : decode cX5_readNamed 4 = .ok (.bipush 65, 2) := by decide +kernel
theorem dX5_readNamed_6 : decode cX5_readNamed 6 = .ok (.isub, 1) := by decide +kernel
theorem dX5_readNamed_7 : decode cX5_readNamed 7 = .ok (.istore_n 1, 1) := by decide +kernel
theorem dX5_readNamed_8 : decode cX5_readNamed 8 = .ok (.aload_n 0, 1) := by decide +kernel
theorem dX5_readNamed_9 : decode cX5_readNamed 9 = .ok (.invokevirtual 22, 3) := by decide +kernel
