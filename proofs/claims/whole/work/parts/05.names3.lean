theorem dX5_readNamed_12 : decode cX5_readNamed 12 = .ok (.aload_n 0, 1) := by decide +kernel
theorem dX5_readNamed_13 : decode cX5_readNamed 13 = .ok (.getfield 43, 3) := by decide +kernel
theorem dX5_readNamed_16 : decode cX5_readNamed 16 = .ok (.invokestatic 54, 3) := by decide +kernel
theorem dX5_readNamed_19 : decode cX5_readNamed 19 = .ok (.ifCond .ne 12, 3) := by decide +kernel
theorem dX5_readNamed_22 : decode cX5_readNamed 22 = .ok (.aload_n 0, 1) := by decide +kernel
theorem dX5_readNamed_23 : decode cX5_readNamed 23 = .ok (.iload_n 1, 1) := by decide +kernel
theorem dX5_readNamed_24 : decode cX5_readNamed 24 = .ok (.invokestatic 73, 3) := by decide +kernel
theorem dX5_readNamed_27 : decode cX5_readNamed 27 = .ok (.invokevirtual 69, 3) := by decide +kernel
theorem dX5_readNamed_30 : decode cX5_readNamed 30 = .ok (.lreturn, 1) := by decide +kernel
theorem dX5_readNamed_31 : decode cX5_readNamed 31 = .ok (.aload_n 0, 1) := by decide +kernel
theorem dX5_readNamed_32 : decode cX5_readNamed 32 = .ok (.getfield 43, 3) := by decide +kernel
theorem dX5_readNamed_35 : decode cX5_readNamed 35 = .ok (.bipush 65, 2) := by decide +kernel
theorem dX5_readNamed_37 : decode cX5_readNamed 37 = .ok (.isub, 1) := by decide +kernel
theorem dX5_readNamed_38 : decode cX5_readNamed 38 = .ok (.istore_n 2, 1) := by decide +kernel
theorem dX5_readNamed_39 : decode cX5_readNamed 39 = .ok (.iload_n 2, 1) := by decide +kernel
theorem dX5_readNamed_40 : decode cX5_readNamed 40 = .ok (.iload_n 1, 1) := by decide +kernel
theorem dX5_readNamed_41 : decode cX5_readNamed 41 = .ok (.if_icmp .ne 7, 3) := by decide +kernel
theorem dX5_readNamed_44 : decode cX5_readNamed 44 = .ok (.ldc2_w 37, 3) := by decide +kernel
theorem dX5_readNamed_47 : decode cX5_readNamed 47 = .ok (.lreturn, 1) := by decide +kernel
theorem dX5_readNamed_48 : decode cX5_readNamed 48 = .ok (.aload_n 0, 1) := by decide +kernel
theorem dX5_readNamed_49 : decode cX5_readNamed 49 = .ok (.invokevirtual 22, 3) := by decide +kernel
theorem dX5_readNamed_52 : decode cX5_readNamed 52 = .ok (.aload_n 0, 1) := by decide +kernel
theorem dX5_readNamed_53 : decode cX5_readNamed 53 = .ok (.bipush 114, 2) := by decide +kernel
theorem dX5_readNamed_55 : decode cX5_readNamed 55 = .ok (.bipush 115, 2) := by decide +kernel
theorem dX5_readNamed_57 : decode cX5_readNamed 57 = .ok (.invokevirtual 77, 3) := by decide +kernel
theorem dX5_readNamed_60 : decode cX5_readNamed 60 = .ok (.istore_n 3, 1) := by decide +kernel
theorem dX5_readNamed_61 : decode cX5_readNamed 61 = .ok (.iload_n 3, 1) := by decide +kernel
theorem dX5_readNamed_62 : decode cX5_readNamed 62 = .ok (.ifCond .ge 7, 3) := by decide +kernel
theorem dX5_readNamed_65 : decode cX5_readNamed 65 = .ok (.ldc2_w 37, 3) := by decide +kernel
theorem dX5_readNamed_68 : decode cX5_readNamed 68 = .ok (.lreturn, 1) := by decide +kernel
theorem dX5_readNamed_69 : decode cX5_readNamed 69 = .ok (.aload_n 0, 1) := by decide +kernel
theorem dX5_readNamed_70 : decode cX5_readNamed 70 = .ok (.getfield 43, 3) := by decide +kernel
theorem dX5_readNamed_73 : decode cX5_readNamed 73 = .ok (.bipush 61, 2) := by decide +kernel
theorem dX5_readNamed_75 : decode cX5_readNamed 75 = .ok (.if_icmp .eq 15, 3) := by decide +kernel
theorem dX5_readNamed_78 : decode cX5_readNamed 78 = .ok (.aload_n 0, 1) := by decide +kernel
theorem dX5_readNamed_79 : decode cX5_readNamed 79 = .ok (.iload_n 1, 1) := by decide +kernel
theorem dX5_readNamed_80 : decode cX5_readNamed 80 = .ok (.iload_n 2, 1) := by decide +kernel
theorem dX5_readNamed_81 : decode cX5_readNamed 81 = .ok (.iload_n 3, 1) := by decide +kernel
theorem dX5_readNamed_82 : decode cX5_readNamed 82 = .ok (.iconst 0, 1) := by decide +kernel
theorem dX5_readNamed_83 : decode cX5_readNamed 83 = .ok (.invokestatic 81, 3) := by decide +kernel
theorem dX5_readNamed_86 : decode cX5_readNamed 86 = .ok (.invokevirtual 69, 3) := by decide +kernel
theorem dX5_readNamed_89 : decode cX5_readNamed 89 = .ok (.lreturn, 1) := by decide +kernel
theorem dX5_readNamed_90 : decode cX5_readNamed 90 = .ok (.aload_n 0, 1) := by decide +kernel
theorem dX5_readNamed_91 : decode cX5_readNamed 91 = .ok (.invokevirtual 22, 3) := by decide +kernel
theorem dX5_readNamed_94 : decode cX5_readNamed 94 = .ok (.iload_n 3, 1) := by decide +kernel
theorem dX5_readNamed_95 : decode cX5_readNamed 95 = .ok (.iconst 0, 1) := by decide +kernel
theorem dX5_readNamed_96 : decode cX5_readNamed 96 = .ok (.invokestatic 85, 3) := by decide +kernel
theorem dX5_readNamed_99 : decode cX5_readNamed 99 = .ok (.ifCond .eq 8, 3) := by decide +kernel
theorem dX5_readNamed_102 : decode cX5_readNamed 102 = .ok (.bipush 115, 2) := by decide +kernel
theorem dX5_readNamed_104 : decode cX5_readNamed 104 = .ok (.goto 5, 3) := by decide +kernel
theorem dX5_readNamed_107 : decode cX5_readNamed 107 = .ok (.bipush 114, 2) := by decide +kernel
theorem dX5_readNamed_109 : decode cX5_readNamed 109 = .ok (.istore 4, 2) := by decide +kernel
theorem dX5_readNamed_111 : decode cX5_readNamed 111 = .ok (.aload_n 0, 1) := by decide +kernel
theorem dX5_readNamed_112 : decode cX5_readNamed 112 = .ok (.iload 4, 2) := by decide +kernel
theorem dX5_readNamed_114 : decode cX5_readNamed 114 = .ok (.iload 4, 2) := by decide +kernel
theorem dX5_readNamed_116 : decode cX5_readNamed 116 = .ok (.invokevirtual 77, 3) := by decide +kernel
theorem dX5_readNamed_119 : decode cX5_readNamed 119 = .ok (.istore 5, 2) := by decide +kernel
theorem dX5_readNamed_121 : decode cX5_readNamed 121 = .ok (.iload 5, 2) := by decide +kernel
theorem dX5_readNamed_123 : decode cX5_readNamed 123 = .ok (.ifCond .ge 7, 3) := by decide +kernel
theorem dX5_readNamed_126 : decode cX5_readNamed 126 = .ok (.ldc2_w 37, 3) := by decide +kernel
theorem dX5_readNamed_129 : decode cX5_readNamed 129 = .ok (.lreturn, 1) := by decide +kernel
theorem dX5_readNamed_130 : decode cX5_readNamed 130 = .ok (.aload_n 0, 1) := by decide +kernel
theorem dX5_readNamed_131 : decode cX5_readNamed 131 = .ok (.iload_n 1, 1) := by decide +kernel
theorem dX5_readNamed_132 : decode cX5_readNamed 132 = .ok (.iload_n 2, 1) := by decide +kernel
theorem dX5_readNamed_133 : decode cX5_readNamed 133 = .ok (.iload_n 3, 1) := by decide +kernel
theorem dX5_readNamed_134 : decode cX5_readNamed 134 = .ok (.iload 5, 2) := by decide +kernel
theorem dX5_readNamed_136 : decode cX5_readNamed 136 = .ok (.invokestatic 81, 3) := by decide +kernel
theorem dX5_readNamed_139 : decode cX5_readNamed 139 = .ok (.invokevirtual 69, 3) := by decide +kernel
theorem dX5_readNamed_142 : decode cX5_readNamed 142 = .ok (.lreturn, 1) := by decide +kernel
set_option maxRecDepth 20000 in
theorem ggX5_readAbove_X5_advance : GoodIn wsX5_readAbove wsX5_advance := goodIn_r _ [7, 8, 9, 10, 1, 34, 35, 36, 37] (by decide +kernel) (by decide +kernel)
set_option maxRecDepth 20000 in
theorem gX5_readAbove_X5_advance : GoodIn wsX5_readAbove (wsV RX5 22 RX5 yX5_advance wsX5_advance) := goodIn_app (goodIn_of _ (by decide +kernel)) ggX5_readAbove_X5_advance
set_option maxRecDepth 20000 in
theorem ggX5_readAbove_X5_isDigit : GoodIn wsX5_readAbove wsX5_isDigit := goodIn_r _ [13] (by decide +kernel) (by decide +kernel)
set_option maxRecDepth 20000 in
theorem gX5_readAbove_X5_isDigit : GoodIn wsX5_readAbove (va_wsS RX5 89 yX5_isDigit wsX5_isDigit) := goodIn_app (goodIn_of _ (by decide +kernel)) ggX5_readAbove_X5_isDigit
set_option maxRecDepth 20000 in
theorem ggX5_readAbove_X5_isLetter : GoodIn wsX5_readAbove wsX5_isLetter := goodIn_r _ [16] (by decide +kernel) (by decide +kernel)
set_option maxRecDepth 20000 in
theorem gX5_readAbove_X5_isLetter : GoodIn wsX5_readAbove (va_wsS RX5 54 yX5_isLetter wsX5_isLetter) := goodIn_app (goodIn_of _ (by decide +kernel)) ggX5_readAbove_X5_isLetter
set_option maxRecDepth 20000 in
theorem ggX5_readAbove_X0_makeAbove : GoodIn wsX5_readAbove wsX0_makeAbove := goodIn_r _ [20, 21] (by decide +kernel) (by decide +kernel)
set_option maxRecDepth 20000 in
theorem gX5_readAbove_X0_makeAbove : GoodIn wsX5_readAbove (va_wsS RX5 92 yX0_makeAbove wsX0_makeAbove) := goodIn_app (goodIn_of _ (by decide +kernel)) ggX5_readAbove_X0_makeAbove
set_option maxRecDepth 20000 in
theorem ggX5_readAbove_X5_readPin : GoodIn wsX5_readAbove wsX5_readPin := goodIn_r _ [25, 1, 2, 3, 4, 5, 6, 7, 8, 9, 10, 26, 27, 28, 29, 11, 12, 13, 30, 31, 19, 32, 33, 34, 35, 36, 37] (by decide +kernel) (by decide +kernel)
set_option maxRecDepth 20000 in
theorem gX5_readAbove_X5_readPin : GoodIn wsX5_readAbove (wsV RX5 69 RX5 yX5_readPin wsX5_readPin) := goodIn_app (goodIn_of _ (by decide +kernel)) ggX5_readAbove_X5_readPin
theorem dX5_readAbove_0 : decode cX5_readAbove 0 = .ok (.aload_n 0, 1) := by decide +kernel
theorem dX5_readAbove_1 : decode cX5_readAbove 1 = .ok (.invokevirtual 22, 3) := by decide +kernel
theorem dX5_readAbove_4 : decode cX5_readAbove 4 = .ok (.aload_n 0, 1) := by decide +kernel
theorem dX5_readAbove_5 : decode cX5_readAbove 5 = .ok (.getfield 43, 3) := by decide +kernel
theorem dX5_readAbove_8 : decode cX5_readAbove 8 = .ok (.invokestatic 89, 3) := by decide +kernel
theorem dX5_readAbove_11 : decode cX5_readAbove 11 = .ok (.ifCond .ne 7, 3) := by decide +kernel
theorem dX5_readAbove_14 : decode cX5_readAbove 14 = .ok (.ldc2_w 37, 3) := by decide +kernel
theorem dX5_readAbove_17 : decode cX5_readAbove 17 = .ok (.lreturn, 1) := by decide +kernel
theorem dX5_readAbove_18 : decode cX5_readAbove 18 = .ok (.aload_n 0, 1) := by decide +kernel
theorem dX5_readAbove_19 : decode cX5_readAbove 19 = .ok (.getfield 43, 3) := by decide +kernel
theorem dX5_readAbove_22 : decode cX5_readAbove 22 = .ok (.bipush 48, 2) := by decide +kernel
theorem dX5_readAbove_24 : decode cX5_readAbove 24 = .ok (.isub, 1) := by decide +kernel
theorem dX5_readAbove_25 : decode cX5_readAbove 25 = .ok (.istore_n 1, 1) := by decide +kernel
theorem dX5_readAbove_26 : decode cX5_readAbove 26 = .ok (.aload_n 0, 1) := by decide +kernel
theorem dX5_readAbove_27 : decode cX5_readAbove 27 = .ok (.invokevirtual 22, 3) := by decide +kernel
theorem dX5_readAbove_30 : decode cX5_readAbove 30 = .ok (.aload_n 0, 1) := by decide +kernel
theorem dX5_readAbove_31 : decode cX5_readAbove 31 = .ok (.getfield 43, 3) := by decide +kernel
theorem dX5_readAbove_34 : decode cX5_readAbove 34 = .ok (.invokestatic 54, 3) := by decide +kernel
theorem dX5_readAbove_37 : decode cX5_readAbove 37 = .ok (.ifCond .ne 7, 3) := by decide +kernel
theorem dX5_readAbove_40 : decode cX5_readAbove 40 = .ok (.ldc2_w 37, 3) := by decide +kernel
theorem dX5_readAbove_43 : decode cX5_readAbove 43 = .ok (.lreturn, 1) := by decide +kernel
theorem dX5_readAbove_44 : decode cX5_readAbove 44 = .ok (.aload_n 0, 1) := by decide +kernel
theorem dX5_readAbove_45 : decode cX5_readAbove 45 = .ok (.getfield 43, 3) := by decide +kernel
theorem dX5_readAbove_48 : decode cX5_readAbove 48 = .ok (.bipush 65, 2) := by decide +kernel
theorem dX5_readAbove_50 : decode cX5_readAbove 50 = .ok (.isub, 1) := by decide +kernel
theorem dX5_readAbove_51 : decode cX5_readAbove 51 = .ok (.istore_n 2, 1) := by decide +kernel
theorem dX5_readAbove_52 : decode cX5_readAbove 52 = .ok (.aload_n 0, 1) := by decide +kernel
theorem dX5_readAbove_53 : decode cX5_readAbove 53 = .ok (.invokevirtual 22, 3) := by decide +kernel
theorem dX5_readAbove_56 : decode cX5_readAbove 56 = .ok (.aload_n 0, 1) := by decide +kernel
theorem dX5_readAbove_57 : decode cX5_readAbove 57 = .ok (.iload_n 1, 1) := by decide +kernel
theorem dX5_readAbove_58 : decode cX5_readAbove 58 = .ok (.iload_n 2, 1) := by decide +kernel
theorem dX5_readAbove_59 : decode cX5_readAbove 59 = .ok (.invokestatic 92, 3) := by decide +kernel
theorem dX5_readAbove_62 : decode cX5_readAbove 62 = .ok (.invokevirtual 69, 3) := by decide +kernel
theorem dX5_readAbove_65 : decode cX5_readAbove 65 = .ok (.lreturn, 1) := by decide +kernel
set_option maxRecDepth 20000 in
theorem ggX5_readReport_X5_isDigit : GoodIn wsX5_readReport wsX5_isDigit := goodIn_r _ [5] (by decide +kernel) (by decide +kernel)
set_option maxRecDepth 20000 in
theorem gX5_readReport_X5_isDigit : GoodIn wsX5_readReport (va_wsS RX5 89 yX5_isDigit wsX5_isDigit) := goodIn_app (goodIn_of _ (by decide +kernel)) ggX5_readReport_X5_isDigit
set_option maxRecDepth 20000 in
theorem ggX5_readReport_X5_advance : GoodIn wsX5_readReport wsX5_advance := goodIn_r _ [9, 10, 11, 12, 1, 17, 18, 19, 20] (by decide +kernel) (by decide +kernel)
set_option maxRecDepth 20000 in
theorem gX5_readReport_X5_advance : GoodIn wsX5_readReport (wsV RX5 22 RX5 yX5_advance wsX5_advance) := goodIn_app (goodIn_of _ (by decide +kernel)) ggX5_readReport_X5_advance
set_option maxRecDepth 20000 in
theorem ggX5_readReport_X5_readPage : GoodIn wsX5_readReport wsX5_readPage := goodIn_r _ [16, 1, 2, 3, 4, 5, 6, 7, 8, 9, 10, 11, 12, 17, 18, 19, 20] (by decide +kernel) (by decide +kernel)
set_option maxRecDepth 20000 in
theorem gX5_readReport_X5_readPage : GoodIn wsX5_readReport (wsV RX5 96 RX5 yX5_readPage wsX5_readPage) := goodIn_app (goodIn_of _ (by decide +kernel)) ggX5_readReport_X5_readPage
theorem dX5_readReport_0 : decode cX5_readReport 0 = .ok (.aload_n 0, 1) := by decide +kernel
theorem dX5_readReport_1 : decode cX5_readReport 1 = .ok (.getfield 43, 3) := by decide +kernel
theorem dX5_readReport_4 : decode cX5_readReport 4 = .ok (.invokestatic 89, 3) := by decide +kernel
theorem dX5_readReport_7 : decode cX5_readReport 7 = .ok (.ifCond .eq 12, 3) := by decide +kernel
theorem dX5_readReport_10 : decode cX5_readReport 10 = .ok (.aload_n 0, 1) := by decide +kernel
theorem dX5_readReport_11 : decode cX5_readReport 11 = .ok (.getfield 43, 3) := by decide +kernel
theorem dX5_readReport_14 : decode cX5_readReport 14 = .ok (.bipush 48, 2) := by decide +kernel
theorem dX5_readReport_16 : decode cX5_readReport 16 = .ok (.if_icmp .ne 5, 3) := by decide +kernel
theorem dX5_readReport_19 : decode cX5_readReport 19 = .ok (.iconst (-1), 1) := by decide +kernel
theorem dX5_readReport_20 : decode cX5_readReport 20 = .ok (.ireturn, 1) := by decide +kernel
theorem dX5_readReport_21 : decode cX5_readReport 21 = .ok (.aload_n 0, 1) := by decide +kernel
theorem dX5_readReport_22 : decode cX5_readReport 22 = .ok (.getfield 43, 3) := by decide +kernel
theorem dX5_readReport_25 : decode cX5_readReport 25 = .ok (.bipush 48, 2) := by decide +kernel
theorem dX5_readReport_27 : decode cX5_readReport 27 = .ok (.isub, 1) := by decide +kernel
theorem dX5_readReport_28 : decode cX5_readReport 28 = .ok (.istore_n 3, 1) := by decide +kernel
theorem dX5_readReport_29 : decode cX5_readReport 29 = .ok (.aload_n 0, 1) := by decide +kernel
theorem dX5_readReport_30 : decode cX5_readReport 30 = .ok (.invokevirtual 22, 3) := by decide +kernel
theorem dX5_readReport_33 : decode cX5_readReport 33 = .ok (.aload_n 0, 1) := by decide +kernel
theorem dX5_readReport_34 : decode cX5_readReport 34 = .ok (.getfield 43, 3) := by decide +kernel
theorem dX5_readReport_37 : decode cX5_readReport 37 = .ok (.bipush 115, 2) := by decide +kernel
theorem dX5_readReport_39 : decode cX5_readReport 39 = .ok (.if_icmp .ne 7, 3) := by decide +kernel
theorem dX5_readReport_42 : decode cX5_readReport 42 = .ok (.iconst 1, 1) := by decide +kernel
theorem dX5_readReport_43 : decode cX5_readReport 43 = .ok (.goto 4, 3) := by decide +kernel
theorem dX5_readReport_46 : decode cX5_readReport 46 = .ok (.iconst 0, 1) := by decide +kernel
theorem dX5_readReport_47 : decode cX5_readReport 47 = .ok (.istore 4, 2) := by decide +kernel
theorem dX5_readReport_49 : decode cX5_readReport 49 = .ok (.aload_n 0, 1) := by decide +kernel
theorem dX5_readReport_50 : decode cX5_readReport 50 = .ok (.getfield 43, 3) := by decide +kernel
theorem dX5_readReport_53 : decode cX5_readReport 53 = .ok (.iload_n 1, 1) := by decide +kernel
theorem dX5_readReport_54 : decode cX5_readReport 54 = .ok (.if_icmp .eq 13, 3) := by decide +kernel
theorem dX5_readReport_57 : decode cX5_readReport 57 = .ok (.aload_n 0, 1) := by decide +kernel
theorem dX5_readReport_58 : decode cX5_readReport 58 = .ok (.getfield 43, 3) := by decide +kernel
theorem dX5_readReport_61 : decode cX5_readReport 61 = .ok (.iload_n 2, 1) := by decide +kernel
theorem dX5_readReport_62 : decode cX5_readReport 62 = .ok (.if_icmp .eq 5, 3) := by decide +kernel
theorem dX5_readReport_65 : decode cX5_readReport 65 = .ok (.iconst (-1), 1) := by decide +kernel
theorem dX5_readReport_66 : decode cX5_readReport 66 = .ok (.ireturn, 1) := by decide +kernel
theorem dX5_readReport_67 : decode cX5_readReport 67 = .ok (.aload_n 0, 1) := by decide +kernel
theorem dX5_readReport_68 : decode cX5_readReport 68 = .ok (.invokevirtual 22, 3) := by decide +kernel
theorem dX5_readReport_71 : decode cX5_readReport 71 = .ok (.aload_n 0, 1) := by decide +kernel
theorem dX5_readReport_72 : decode cX5_readReport 72 = .ok (.invokevirtual 96, 3) := by decide +kernel
theorem dX5_readReport_75 : decode cX5_readReport 75 = .ok (.istore 5, 2) := by decide +kernel
theorem dX5_readReport_77 : decode cX5_readReport 77 = .ok (.iload 5, 2) := by decide +kernel
theorem dX5_readReport_79 : decode cX5_readReport 79 = .ok (.ifCond .ge 7, 3) := by decide +kernel
theorem dX5_readReport_82 : decode cX5_readReport 82 = .ok (.iconst (-1), 1) := by decide +kernel
theorem dX5_readReport_83 : decode cX5_readReport 83 = .ok (.goto 17, 3) := by decide +kernel
theorem dX5_readReport_86 : decode cX5_readReport 86 = .ok (.sipush 1000, 3) := by decide +kernel
theorem dX5_readReport_89 : decode cX5_readReport 89 = .ok (.iload_n 3, 1) := by decide +kernel
theorem dX5_readReport_90 : decode cX5_readReport 90 = .ok (.imul, 1) := by decide +kernel
theorem dX5_readReport_91 : decode cX5_readReport 91 = .ok (.bipush 100, 2) := by decide +kernel
theorem dX5_readReport_93 : decode cX5_readReport 93 = .ok (.iload 4, 2) := by decide +kernel
theorem dX5_readReport_95 : decode cX5_readReport 95 = .ok (.imul, 1) := by decide +kernel
theorem dX5_readReport_96 : decode cX5_readReport 96 = .ok (.iadd, 1) := by decide +kernel
theorem dX5_readReport_97 : decode cX5_readReport 97 = .ok (.iload 5, 2) := by decide +kernel
theorem dX5_readReport_99 : decode cX5_readReport 99 = .ok (.iadd, 1) := by decide +kernel
theorem dX5_readReport_100 : decode cX5_readReport 100 = .ok (.ireturn, 1) := by decide +kernel
set_option maxRecDepth 20000 in
theorem ggX5_readPin_X5_advance : GoodIn wsX5_readPin wsX5_advance := goodIn_r _ [7, 8, 9, 10, 1, 23, 24, 25, 26] (by decide +kernel) (by decide +kernel)
set_option maxRecDepth 20000 in
theorem gX5_readPin_X5_advance : GoodIn wsX5_readPin (wsV RX5 22 RX5 yX5_advance wsX5_advance) := goodIn_app (goodIn_of _ (by decide +kernel)) ggX5_readPin_X5_advance
set_option maxRecDepth 20000 in
theorem ggX5_readPin_X5_readPage : GoodIn wsX5_readPin wsX5_readPage := goodIn_r _ [14, 1, 15, 16, 6, 17, 3, 4, 5, 7, 8, 9, 10, 23, 24, 25, 26] (by decide +kernel) (by decide +kernel)
set_option maxRecDepth 20000 in
theorem gX5_readPin_X5_readPage : GoodIn wsX5_readPin (wsV RX5 96 RX5 yX5_readPage wsX5_readPage) := goodIn_app (goodIn_of _ (by decide +kernel)) ggX5_readPin_X5_readPage
set_option maxRecDepth 20000 in
theorem ggX5_readPin_X0_withPin : GoodIn wsX5_readPin wsX0_withPin := goodIn_r _ [21, 22] (by decide +kernel) (by decide +kernel)
set_option maxRecDepth 20000 in
theorem gX5_readPin_X0_withPin : GoodIn wsX5_readPin (va_wsS RX5 99 yX0_withPin wsX0_withPin) := goodIn_app (goodIn_of _ (by decide +kernel)) ggX5_readPin_X0_withPin
theorem dX5_readPin_0 : decode cX5_readPin 0 = .ok (.aload_n 0, 1) := by decide +kernel
theorem dX5_readPin_1 : decode cX5_readPin 1 = .ok (.getfield 43, 3) := by decide +kernel
theorem dX5_readPin_4 : decode cX5_readPin 4 = .ok (.bipush 64, 2) := by decide +kernel
theorem dX5_readPin_6 : decode cX5_readPin 6 = .ok (.if_icmp .eq 5, 3) := by decide +kernel
theorem dX5_readPin_9 : decode cX5_readPin 9 = .ok (.lload_n 1, 1) := by decide +kernel
theorem dX5_readPin_10 : decode cX5_readPin 10 = .ok (.lreturn, 1) := by decide +kernel
theorem dX5_readPin_11 : decode cX5_readPin 11 = .ok (.aload_n 0, 1) := by decide +kernel
theorem dX5_readPin_12 : decode cX5_readPin 12 = .ok (.invokevirtual 22, 3) := by decide +kernel
theorem dX5_readPin_15 : decode cX5_readPin 15 = .ok (.aload_n 0, 1) := by decide +kernel
theorem dX5_readPin_16 : decode cX5_readPin 16 = .ok (.invokevirtual 96, 3) := by decide +kernel
theorem dX5_readPin_19 : decode cX5_readPin 19 = .ok (.istore_n 3, 1) := by decide +kernel
theorem dX5_readPin_20 : decode cX5_readPin 20 = .ok (.iload_n 3, 1) := by decide +kernel
theorem dX5_readPin_21 : decode cX5_readPin 21 = .ok (.ifCond .ge 9, 3) := by decide +kernel
theorem dX5_readPin_24 : decode cX5_readPin 24 = .ok (.ldc2_w 37, 3) := by decide +kernel
theorem dX5_readPin_27 : decode cX5_readPin 27 = .ok (.goto 8, 3) := by decide +kernel
theorem dX5_readPin_30 : decode cX5_readPin 30 = .ok (.lload_n 1, 1) := by decide +kernel
theorem dX5_readPin_31 : decode cX5_readPin 31 = .ok (.iload_n 3, 1) := by decide +kernel
theorem dX5_readPin_32 : decode cX5_readPin 32 = .ok (.invokestatic 99, 3) := by decide +kernel
theorem dX5_readPin_35 : decode cX5_readPin 35 = .ok (.lreturn, 1) := by decide +kernel
set_option maxRecDepth 20000 in
theorem ggX5_readPage_X5_isDigit : GoodIn wsX5_readPage wsX5_isDigit := goodIn_r _ [5] (by decide +kernel) (by decide +kernel)
set_option maxRecDepth 20000 in
theorem gX5_readPage_X5_isDigit : GoodIn wsX5_readPage (va_wsS RX5 89 yX5_isDigit wsX5_isDigit) := goodIn_app (goodIn_of _ (by decide +kernel)) ggX5_readPage_X5_isDigit
set_option maxRecDepth 20000 in
theorem ggX5_readPage_X5_advance : GoodIn wsX5_readPage wsX5_advance := goodIn_r _ [9, 10, 11, 12, 1, 13, 14, 15, 16] (by decide +kernel) (by decide +kernel)
set_option maxRecDepth 20000 in
theorem gX5_readPage_X5_advance : GoodIn wsX5_readPage (wsV RX5 22 RX5 yX5_advance wsX5_advance) := goodIn_app (goodIn_of _ (by decide +kernel)) ggX5_readPage_X5_advance
theorem dX5_readPage_0 : decode cX5_readPage 0 = .ok (.aload_n 0, 1) := by decide +kernel
theorem dX5_readPage_1 : decode cX5_readPage 1 = .ok (.getfield 43, 3) := by decide +kernel
theorem dX5_readPage_4 : decode cX5_readPage 4 = .ok (.invokestatic 89, 3) := by decide +kernel
theorem dX5_readPage_7 : decode cX5_readPage 7 = .ok (.ifCond .ne 5, 3) := by decide +kernel
theorem dX5_readPage_10 : decode cX5_readPage 10 = .ok (.iconst (-1), 1) := by decide +kernel
theorem dX5_readPage_11 : decode cX5_readPage 11 = .ok (.ireturn, 1) := by decide +kernel
theorem dX5_readPage_12 : decode cX5_readPage 12 = .ok (.bipush 10, 2) := by decide +kernel
theorem dX5_readPage_14 : decode cX5_readPage 14 = .ok (.aload_n 0, 1) := by decide +kernel
theorem dX5_readPage_15 : decode cX5_readPage 15 = .ok (.getfield 43, 3) := by decide +kernel
theorem dX5_readPage_18 : decode cX5_readPage 18 = .ok (.bipush 48, 2) := by decide +kernel
theorem dX5_readPage_20 : decode cX5_readPage 20 = .ok (.isub, 1) := by decide +kernel
theorem dX5_readPage_21 : decode cX5_readPage 21 = .ok (.imul, 1) := by decide +kernel
theorem dX5_readPage_22 : decode cX5_readPage 22 = .ok (.istore_n 1, 1) := by decide +kernel
theorem dX5_readPage_23 : decode cX5_readPage 23 = .ok (.aload_n 0, 1) := by decide +kernel
theorem dX5_readPage_24 : decode cX5_readPage 24 = .ok (.invokevirtual 22, 3) := by decide +kernel
theorem dX5_readPage_27 : decode cX5_readPage 27 = .ok (.aload_n 0, 1) := by decide +kernel
theorem dX5_readPage_28 : decode cX5_readPage 28 = .ok (.getfield 43, 3) := by decide +kernel
theorem dX5_readPage_31 : decode cX5_readPage 31 = .ok (.invokestatic 89, 3) := by decide +kernel
theorem dX5_readPage_34 : decode cX5_readPage 34 = .ok (.ifCond .eq 16, 3) := by decide +kernel
theorem dX5_readPage_37 : decode cX5_readPage 37 = .ok (.iload_n 1, 1) := by decide +kernel
theorem dX5_readPage_38 : decode cX5_readPage 38 = .ok (.ifCond .ne 14, 3) := by decide +kernel
theorem dX5_readPage_41 : decode cX5_readPage 41 = .ok (.aload_n 0, 1) := by decide +kernel
theorem dX5_readPage_42 : decode cX5_readPage 42 = .ok (.getfield 43, 3) := by decide +kernel
theorem dX5_readPage_45 : decode cX5_readPage 45 = .ok (.bipush 48, 2) := by decide +kernel
theorem dX5_readPage_47 : decode cX5_readPage 47 = .ok (.if_icmp .ne 5, 3) := by decide +kernel
theorem dX5_readPage_50 : decode cX5_readPage 50 = .ok (.iconst (-1), 1) := by decide +kernel
theorem dX5_readPage_51 : decode cX5_readPage 51 = .ok (.ireturn, 1) := by decide +kernel
theorem dX5_readPage_52 : decode cX5_readPage 52 = .ok (.iload_n 1, 1) := by decide +kernel
theorem dX5_readPage_53 : decode cX5_readPage 53 = .ok (.aload_n 0, 1) := by decide +kernel
theorem dX5_readPage_54 : decode cX5_readPage 54 = .ok (.getfield 43, 3) := by decide +kernel
theorem dX5_readPage_57 : decode cX5_readPage 57 = .ok (.iadd, 1) := by decide +kernel
theorem dX5_readPage_58 : decode cX5_readPage 58 = .ok (.bipush 48, 2) := by decide +kernel
theorem dX5_readPage_60 : decode cX5_readPage 60 = .ok (.isub, 1) := by decide +kernel
theorem dX5_readPage_61 : decode cX5_readPage 61 = .ok (.istore_n 2, 1) := by decide +kernel
theorem dX5_readPage_62 : decode cX5_readPage 62 = .ok (.aload_n 0, 1) := by decide +kernel
theorem dX5_readPage_63 : decode cX5_readPage 63 = .ok (.invokevirtual 22, 3) := by decide +kernel
theorem dX5_readPage_66 : decode cX5_readPage 66 = .ok (.iload_n 2, 1) := by decide +kernel
theorem dX5_readPage_67 : decode cX5_readPage 67 = .ok (.ireturn, 1) := by decide +kernel
theorem dX5_advance_0 : decode cX5_advance 0 = .ok (.aload_n 0, 1) := by decide +kernel
theorem dX5_advance_1 : decode cX5_advance 1 = .ok (.dup, 1) := by decide +kernel
theorem dX5_advance_2 : decode cX5_advance 2 = .ok (.getfield 19, 3) := by decide +kernel
theorem dX5_advance_5 : decode cX5_advance 5 = .ok (.iconst 1, 1) := by decide +kernel
theorem dX5_advance_6 : decode cX5_advance 6 = .ok (.iadd, 1) := by decide +kernel
theorem dX5_advance_7 : decode cX5_advance 7 = .ok (.putfield 19, 3) := by decide +kernel
theorem dX5_advance_10 : decode cX5_advance 10 = .ok (.aload_n 0, 1) := by decide +kernel
theorem dX5_advance_11 : decode cX5_advance 11 = .ok (.aload_n 0, 1) := by decide +kernel
theorem dX5_advance_12 : decode cX5_advance 12 = .ok (.getfield 19, 3) := by decide +kernel
theorem dX5_advance_15 : decode cX5_advance 15 = .ok (.ifCond .lt 35, 3) := by decide +kernel
theorem dX5_advance_18 : decode cX5_advance 18 = .ok (.aload_n 0, 1) := by decide +kernel
theorem dX5_advance_19 : decode cX5_advance 19 = .ok (.getfield 19, 3) := by decide +kernel
theorem dX5_advance_22 : decode cX5_advance 22 = .ok (.aload_n 0, 1) := by decide +kernel
theorem dX5_advance_23 : decode cX5_advance 23 = .ok (.getfield 15, 3) := by decide +kernel
theorem dX5_advance_26 : decode cX5_advance 26 = .ok (.if_icmp .ge 24, 3) := by decide +kernel
theorem dX5_advance_29 : decode cX5_advance 29 = .ok (.aload_n 0, 1) := by decide +kernel
theorem dX5_advance_30 : decode cX5_advance 30 = .ok (.getfield 19, 3) := by decide +kernel
theorem dX5_advance_33 : decode cX5_advance 33 = .ok (.bipush 120, 2) := by decide +kernel
theorem dX5_advance_35 : decode cX5_advance 35 = .ok (.if_icmp .ge 15, 3) := by decide +kernel
theorem dX5_advance_38 : decode cX5_advance 38 = .ok (.aload_n 0, 1) := by decide +kernel
theorem dX5_advance_39 : decode cX5_advance 39 = .ok (.getfield 9, 3) := by decide +kernel
theorem dX5_advance_42 : decode cX5_advance 42 = .ok (.aload_n 0, 1) := by decide +kernel
theorem dX5_advance_43 : decode cX5_advance 43 = .ok (.getfield 19, 3) := by decide +kernel
theorem dX5_advance_46 : decode cX5_advance 46 = .ok (.iaload, 1) := by decide +kernel
theorem dX5_advance_47 : decode cX5_advance 47 = .ok (.goto 5, 3) := by decide +kernel
theorem dX5_advance_50 : decode cX5_advance 50 = .ok (.bipush (-9), 2) := by decide +kernel
theorem dX5_advance_52 : decode cX5_advance 52 = .ok (.putfield 43, 3) := by decide +kernel
theorem dX5_advance_55 : decode cX5_advance 55 = .ok (.return_, 1) := by decide +kernel
theorem dX5_isDigit_0 : decode cX5_isDigit 0 = .ok (.iload_n 0, 1) := by decide +kernel
theorem dX5_isDigit_1 : decode cX5_isDigit 1 = .ok (.bipush 48, 2) := by decide +kernel
theorem dX5_isDigit_3 : decode cX5_isDigit 3 = .ok (.if_icmp .lt 13, 3) := by decide +kernel
theorem dX5_isDigit_6 : decode cX5_isDigit 6 = .ok (.iload_n 0, 1) := by decide +kernel
theorem dX5_isDigit_7 : decode cX5_isDigit 7 = .ok (.bipush 57, 2) := by decide +kernel
theorem dX5_isDigit_9 : decode cX5_isDigit 9 = .ok (.if_icmp .gt 7, 3) := by decide +kernel
theorem dX5_isDigit_12 : decode cX5_isDigit 12 = .ok (.iconst 1, 1) := by decide +kernel
theorem dX5_isDigit_13 : decode cX5_isDigit 13 = .ok (.goto 4, 3) := by decide +kernel
theorem dX5_isDigit_16 : decode cX5_isDigit 16 = .ok (.iconst 0, 1) := by decide +kernel
theorem dX5_isDigit_17 : decode cX5_isDigit 17 = .ok (.ireturn, 1) := by decide +kernel
theorem dX5_isLetter_0 : decode cX5_isLetter 0 = .ok (.iload_n 0, 1) := by decide +kernel
theorem dX5_isLetter_1 : decode cX5_isLetter 1 = .ok (.bipush 65, 2) := by decide +kernel
theorem dX5_isLetter_3 : decode cX5_isLetter 3 = .ok (.if_icmp .lt 13, 3) := by decide +kernel
theorem dX5_isLetter_6 : decode cX5_isLetter 6 = .ok (.iload_n 0, 1) := by decide +kernel
theorem dX5_isLetter_7 : decode cX5_isLetter 7 = .ok (.bipush 70, 2) := by decide +kernel
theorem dX5_isLetter_9 : decode cX5_isLetter 9 = .ok (.if_icmp .gt 7, 3) := by decide +kernel
theorem dX5_isLetter_12 : decode cX5_isLetter 12 = .ok (.iconst 1, 1) := by decide +kernel
theorem dX5_isLetter_13 : decode cX5_isLetter 13 = .ok (.goto 4, 3) := by decide +kernel
theorem dX5_isLetter_16 : decode cX5_isLetter 16 = .ok (.iconst 0, 1) := by decide +kernel
theorem dX5_isLetter_17 : decode cX5_isLetter 17 = .ok (.ireturn, 1) := by decide +kernel
set_option maxRecDepth 20000 in
theorem ggX6_init_X5_init : GoodIn wsX6_init wsX5_init := goodIn_r _ [35, 36, 2, 3, 26, 37, 80, 81, 82, 83] (by decide +kernel) (by decide +kernel)
set_option maxRecDepth 20000 in
theorem gX6_init_X5_init : GoodIn wsX6_init (wsX5_init) := ggX6_init_X5_init
set_option maxRecDepth 20000 in
theorem ggX6_init_X1_init : GoodIn wsX6_init wsX1_init := goodIn_r _ [40, 41, 2, 3, 26, 42, 43, 44, 101, 102, 103, 104] (by decide +kernel) (by decide +kernel)
set_option maxRecDepth 20000 in
theorem gX6_init_X1_init : GoodIn wsX6_init (wsX1_init) := ggX6_init_X1_init
set_option maxRecDepth 20000 in
theorem ggX6_init_X4_init : GoodIn wsX6_init wsX4_init := goodIn_r _ [47, 48, 2, 3, 49, 9, 10, 50, 26, 51, 52, 53, 54, 55, 56, 57, 58, 59, 60, 39, 40, 41, 42, 43, 44, 101, 102, 103, 104, 105, 106, 107, 108, 109, 110, 111, 112, 113, 114, 115, 116, 117, 118, 119, 120] (by decide +kernel) (by decide +kernel)
set_option maxRecDepth 20000 in
theorem gX6_init_X4_init : GoodIn wsX6_init (wsX4_init) := ggX6_init_X4_init
set_option maxRecDepth 20000 in
theorem ggX6_init_X2_init : GoodIn wsX6_init wsX2_init := goodIn_r _ [63, 64, 2, 3, 26, 65, 121, 122] (by decide +kernel) (by decide +kernel)
set_option maxRecDepth 20000 in
theorem gX6_init_X2_init : GoodIn wsX6_init (wsX2_init) := ggX6_init_X2_init
set_option maxRecDepth 20000 in
theorem ggX6_init_X3_init : GoodIn wsX6_init wsX3_init := goodIn_r _ [68, 69, 2, 3, 70, 71, 72, 73, 74, 75, 76, 26, 77, 78, 43, 79, 123, 124, 125, 126, 127] (by decide +kernel) (by decide +kernel)
set_option maxRecDepth 20000 in
theorem gX6_init_X3_init : GoodIn wsX6_init (wsX3_init) := ggX6_init_X3_init
theorem dX6_init_0 : decode cX6_init 0 = .ok (.aload_n 0, 1) := by decide +kernel
theorem dX6_init_1 : decode cX6_init 1 = .ok (.invokespecial 1, 3) := by decide +kernel
theorem dX6_init_4 : decode cX6_init 4 = .ok (.aload_n 0, 1) := by decide +kernel
theorem dX6_init_5 : decode cX6_init 5 = .ok (.new 7, 3) := by decide +kernel
theorem dX6_init_8 : decode cX6_init 8 = .ok (.dup, 1) := by decide +kernel
theorem dX6_init_9 : decode cX6_init 9 = .ok (.invokespecial 9, 3) := by decide +kernel
theorem dX6_init_12 : decode cX6_init 12 = .ok (.putfield 10, 3) := by decide +kernel
theorem dX6_init_15 : decode cX6_init 15 = .ok (.aload_n 0, 1) := by decide +kernel
theorem dX6_init_16 : decode cX6_init 16 = .ok (.new 16, 3) := by decide +kernel
theorem dX6_init_19 : decode cX6_init 19 = .ok (.dup, 1) := by decide +kernel
theorem dX6_init_20 : decode cX6_init 20 = .ok (.invokespecial 18, 3) := by decide +kernel
theorem dX6_init_23 : decode cX6_init 23 = .ok (.putfield 19, 3) := by decide +kernel
theorem dX6_init_26 : decode cX6_init 26 = .ok (.aload_n 0, 1) := by decide +kernel
theorem dX6_init_27 : decode cX6_init 27 = .ok (.new 23, 3) := by decide +kernel
theorem dX6_init_30 : decode cX6_init 30 = .ok (.dup, 1) := by decide +kernel
theorem dX6_init_31 : decode cX6_init 31 = .ok (.invokespecial 25, 3) := by decide +kernel
theorem dX6_init_34 : decode cX6_init 34 = .ok (.putfield 26, 3) := by decide +kernel
theorem dX6_init_37 : decode cX6_init 37 = .ok (.aload_n 0, 1) := by decide +kernel
theorem dX6_init_38 : decode cX6_init 38 = .ok (.new 23, 3) := by decide +kernel
theorem dX6_init_41 : decode cX6_init 41 = .ok (.dup, 1) := by decide +kernel
theorem dX6_init_42 : decode cX6_init 42 = .ok (.invokespecial 25, 3) := by decide +kernel
theorem dX6_init_45 : decode cX6_init 45 = .ok (.putfield 30, 3) := by decide +kernel
theorem dX6_init_48 : decode cX6_init 48 = .ok (.aload_n 0, 1) := by decide +kernel
theorem dX6_init_49 : decode cX6_init 49 = .ok (.new 33, 3) := by decide +kernel
theorem dX6_init_52 : decode cX6_init 52 = .ok (.dup, 1) := by decide +kernel
theorem dX6_init_53 : decode cX6_init 53 = .ok (.invokespecial 35, 3) := by decide +kernel
theorem dX6_init_56 : decode cX6_init 56 = .ok (.putfield 36, 3) := by decide +kernel
theorem dX6_init_59 : decode cX6_init 59 = .ok (.aload_n 0, 1) := by decide +kernel
theorem dX6_init_60 : decode cX6_init 60 = .ok (.new 40, 3) := by decide +kernel
theorem dX6_init_63 : decode cX6_init 63 = .ok (.dup, 1) := by decide +kernel
theorem dX6_init_64 : decode cX6_init 64 = .ok (.bipush 14, 2) := by decide +kernel
theorem dX6_init_66 : decode cX6_init 66 = .ok (.invokespecial 42, 3) := by decide +kernel
theorem dX6_init_69 : decode cX6_init 69 = .ok (.putfield 45, 3) := by decide +kernel
theorem dX6_init_72 : decode cX6_init 72 = .ok (.aload_n 0, 1) := by decide +kernel
theorem dX6_init_73 : decode cX6_init 73 = .ok (.new 40, 3) := by decide +kernel
theorem dX6_init_76 : decode cX6_init 76 = .ok (.dup, 1) := by decide +kernel
theorem dX6_init_77 : decode cX6_init 77 = .ok (.iconst 2, 1) := by decide +kernel
theorem dX6_init_78 : decode cX6_init 78 = .ok (.invokespecial 42, 3) := by decide +kernel
theorem dX6_init_81 : decode cX6_init 81 = .ok (.putfield 49, 3) := by decide +kernel
theorem dX6_init_84 : decode cX6_init 84 = .ok (.aload_n 0, 1) := by decide +kernel
theorem dX6_init_85 : decode cX6_init 85 = .ok (.sipush 256, 3) := by decide +kernel
theorem dX6_init_88 : decode cX6_init 88 = .ok (.newarray .int, 2) := by decide +kernel
theorem dX6_init_90 : decode cX6_init 90 = .ok (.putfield 52, 3) := by decide +kernel
theorem dX6_init_93 : decode cX6_init 93 = .ok (.aload_n 0, 1) := by decide +kernel
theorem dX6_init_94 : decode cX6_init 94 = .ok (.sipush 256, 3) := by decide +kernel
theorem dX6_init_97 : decode cX6_init 97 = .ok (.newarray .int, 2) := by decide +kernel
theorem dX6_init_99 : decode cX6_init 99 = .ok (.putfield 56, 3) := by decide +kernel
theorem dX6_init_102 : decode cX6_init 102 = .ok (.aload_n 0, 1) := by decide +kernel
theorem dX6_init_103 : decode cX6_init 103 = .ok (.bipush 6, 2) := by decide +kernel
theorem dX6_init_105 : decode cX6_init 105 = .ok (.newarray .int, 2) := by decide +kernel
theorem dX6_init_107 : decode cX6_init 107 = .ok (.putfield 59, 3) := by decide +kernel
theorem dX6_init_110 : decode cX6_init 110 = .ok (.aload_n 0, 1) := by decide +kernel
theorem dX6_init_111 : decode cX6_init 111 = .ok (.bipush 6, 2) := by decide +kernel
theorem dX6_init_113 : decode cX6_init 113 = .ok (.newarray .int, 2) := by decide +kernel
theorem dX6_init_115 : decode cX6_init 115 = .ok (.putfield 62, 3) := by decide +kernel
theorem dX6_init_118 : decode cX6_init 118 = .ok (.aload_n 0, 1) := by decide +kernel
theorem dX6_init_119 : decode cX6_init 119 = .ok (.bipush 6, 2) := by decide +kernel
theorem dX6_init_121 : decode cX6_init 121 = .ok (.newarray .int, 2) := by decide +kernel
theorem dX6_init_123 : decode cX6_init 123 = .ok (.putfield 65, 3) := by decide +kernel
theorem dX6_init_126 : decode cX6_init 126 = .ok (.aload_n 0, 1) := by decide +kernel
theorem dX6_init_127 : decode cX6_init 127 = .ok (.iconst (-1), 1) := by decide +kernel
theorem dX6_init_128 : decode cX6_init 128 = .ok (.putfield 68, 3) := by decide +kernel
theorem dX6_init_131 : decode cX6_init 131 = .ok (.return_, 1) := by decide +kernel
set_option maxRecDepth 20000 in
theorem ggX6_write_X5_append : GoodIn wsX6_write wsX5_append := goodIn_r _ [6, 7, 8, 30, 31, 32, 33] (by decide +kernel) (by decide +kernel)
set_option maxRecDepth 20000 in
theorem gX6_write_X5_append : GoodIn wsX6_write (wsV RX6 72 RX5 yX5_append wsX5_append) := goodIn_app (goodIn_of _ (by decide +kernel)) ggX6_write_X5_append
set_option maxRecDepth 20000 in
theorem ggX6_write_X5_length : GoodIn wsX6_write wsX5_length := goodIn_r _ [12, 7, 30, 31, 32, 33] (by decide +kernel) (by decide +kernel)
set_option maxRecDepth 20000 in
theorem gX6_write_X5_length : GoodIn wsX6_write (wsV RX6 76 RX5 yX5_length wsX5_length) := goodIn_app (goodIn_of _ (by decide +kernel)) ggX6_write_X5_length
theorem dX6_write_0 : decode cX6_write 0 = .ok (.iload_n 1, 1) := by decide +kernel
theorem dX6_write_1 : decode cX6_write 1 = .ok (.ifCond .lt 10, 3) := by decide +kernel
theorem dX6_write_4 : decode cX6_write 4 = .ok (.iload_n 1, 1) := by decide +kernel
theorem dX6_write_5 : decode cX6_write 5 = .ok (.sipush 255, 3) := by decide +kernel
theorem dX6_write_8 : decode cX6_write 8 = .ok (.if_icmp .le 6, 3) := by decide +kernel
theorem dX6_write_11 : decode cX6_write 11 = .ok (.bipush (-2), 2) := by decide +kernel
theorem dX6_write_13 : decode cX6_write 13 = .ok (.ireturn, 1) := by decide +kernel
theorem dX6_write_14 : decode cX6_write 14 = .ok (.aload_n 0, 1) := by decide +kernel
theorem dX6_write_15 : decode cX6_write 15 = .ok (.getfield 10, 3) := by decide +kernel
theorem dX6_write_18 : decode cX6_write 18 = .ok (.iload_n 1, 1) := by decide +kernel
theorem dX6_write_19 : decode cX6_write 19 = .ok (.invokevirtual 72, 3) := by decide +kernel
theorem dX6_write_22 : decode cX6_write 22 = .ok (.ifCond .eq 13, 3) := by decide +kernel
theorem dX6_write_25 : decode cX6_write 25 = .ok (.aload_n 0, 1) := by decide +kernel
theorem dX6_write_26 : decode cX6_write 26 = .ok (.getfield 10, 3) := by decide +kernel
theorem dX6_write_29 : decode cX6_write 29 = .ok (.invokevirtual 76, 3) := by decide +kernel
theorem dX6_write_32 : decode cX6_write 32 = .ok (.goto 5, 3) := by decide +kernel
theorem dX6_write_35 : decode cX6_write 35 = .ok (.bipush (-4), 2) := by decide +kernel
theorem dX6_write_37 : decode cX6_write 37 = .ok (.ireturn, 1) := by decide +kernel
set_option maxRecDepth 20000 in
theorem ggX6_wipe_X5_length : GoodIn wsX6_wipe wsX5_length := goodIn_r _ [6, 7, 29, 30, 31, 32] (by decide +kernel) (by decide +kernel)
set_option maxRecDepth 20000 in
theorem gX6_wipe_X5_length : GoodIn wsX6_wipe (wsV RX6 76 RX5 yX5_length wsX5_length) := goodIn_app (goodIn_of _ (by decide +kernel)) ggX6_wipe_X5_length
set_option maxRecDepth 20000 in
theorem ggX6_wipe_X5_clear : GoodIn wsX6_wipe wsX5_clear := goodIn_r _ [11, 7, 29, 30, 31, 32] (by decide +kernel) (by decide +kernel)
set_option maxRecDepth 20000 in
theorem gX6_wipe_X5_clear : GoodIn wsX6_wipe (wsV RX6 80 RX5 yX5_clear wsX5_clear) := goodIn_app (goodIn_of _ (by decide +kernel)) ggX6_wipe_X5_clear
theorem dX6_wipe_0 : decode cX6_wipe 0 = .ok (.aload_n 0, 1) := by decide +kernel
theorem dX6_wipe_1 : decode cX6_wipe 1 = .ok (.getfield 10, 3) := by decide +kernel
theorem dX6_wipe_4 : decode cX6_wipe 4 = .ok (.invokevirtual 76, 3) := by decide +kernel
theorem dX6_wipe_7 : decode cX6_wipe 7 = .ok (.istore_n 1, 1) := by decide +kernel
theorem dX6_wipe_8 : decode cX6_wipe 8 = .ok (.aload_n 0, 1) := by decide +kernel
theorem dX6_wipe_9 : decode cX6_wipe 9 = .ok (.getfield 10, 3) := by decide +kernel
theorem dX6_wipe_12 : decode cX6_wipe 12 = .ok (.invokevirtual 80, 3) := by decide +kernel
theorem dX6_wipe_15 : decode cX6_wipe 15 = .ok (.iload_n 1, 1) := by decide +kernel
theorem dX6_wipe_16 : decode cX6_wipe 16 = .ok (.ireturn, 1) := by decide +kernel
set_option maxRecDepth 20000 in
theorem ggX6_fault_X5_readInto : GoodIn wsX6_fault wsX5_readInto := goodIn_r _ [7, 8, 9, 10, 11, 12, 13, 14, 6, 15, 16, 17, 18, 19, 20, 21, 22, 23, 24, 25, 26, 27, 28, 29, 30, 31, 32, 33, 34, 35, 36, 37, 38, 39, 40, 41, 42, 43, 44, 45, 46, 47, 48, 49, 50, 51, 52, 53, 54, 55, 56, 57, 58, 59, 60, 61, 62, 63, 64, 65, 66, 67, 68, 69, 70, 71, 72, 73, 74, 75, 76, 77, 78, 79, 80, 81, 82, 83, 84, 85, 86, 87, 88, 89, 90, 91, 92, 93, 94, 95, 96, 97, 98, 99, 100, 118, 119, 120, 121, 122, 123, 124, 125] (by decide +kernel) (by decide +kernel)
set_option maxRecDepth 20000 in
theorem gX6_fault_X5_readInto : GoodIn wsX6_fault (wsV RX6 83 RX5 yX5_readInto wsX5_readInto) := goodIn_app (goodIn_of _ (by decide +kernel)) ggX6_fault_X5_readInto
theorem dX6_fault_0 : decode cX6_fault 0 = .ok (.aload_n 0, 1) := by decide +kernel
theorem dX6_fault_1 : decode cX6_fault 1 = .ok (.getfield 10, 3) := by decide +kernel
theorem dX6_fault_4 : decode cX6_fault 4 = .ok (.aload_n 0, 1) := by decide +kernel
theorem dX6_fault_5 : decode cX6_fault 5 = .ok (.getfield 19, 3) := by decide +kernel
theorem dX6_fault_8 : decode cX6_fault 8 = .ok (.invokevirtual 83, 3) := by decide +kernel
theorem dX6_fault_11 : decode cX6_fault 11 = .ok (.ireturn, 1) := by decide +kernel
set_option maxRecDepth 20000 in
theorem ggX6_paper_X5_readInto : GoodIn wsX6_paper wsX5_readInto := goodIn_r _ [10, 11, 12, 13, 14, 15, 16, 17, 9, 18, 19, 20, 21, 22, 23, 24, 25, 26, 27, 28, 29, 30, 31, 32, 33, 34, 35, 36, 37, 38, 39, 40, 41, 42, 43, 44, 45, 46, 47, 48, 49, 50, 51, 52, 53, 54, 55, 56, 57, 58, 59, 60, 61, 62, 63, 64, 65, 66, 67, 68, 69, 70, 71, 72, 73, 74, 75, 76, 77, 78, 79, 80, 81, 82, 83, 84, 85, 86, 87, 88, 89, 90, 91, 92, 93, 94, 95, 96, 97, 98, 99, 100, 101, 102, 103, 153, 154, 155, 156, 157, 158, 159, 160] (by decide +kernel) (by decide +kernel)
set_option maxRecDepth 20000 in
theorem gX6_paper_X5_readInto : GoodIn wsX6_paper (wsV RX6 83 RX5 yX5_readInto wsX5_readInto) := goodIn_app (goodIn_of _ (by decide +kernel)) ggX6_paper_X5_readInto
set_option maxRecDepth 20000 in
theorem ggX6_paper_X1_copyFrom : GoodIn wsX6_paper wsX1_copyFrom := goodIn_r _ [107, 25, 26, 31, 108, 109, 110, 111, 95, 157, 158, 159, 160] (by decide +kernel) (by decide +kernel)
set_option maxRecDepth 20000 in
theorem gX6_paper_X1_copyFrom : GoodIn wsX6_paper (wsV RX6 90 RX1 yX1_copyFrom wsX1_copyFrom) := goodIn_app (goodIn_of _ (by decide +kernel)) ggX6_paper_X1_copyFrom
set_option maxRecDepth 20000 in
theorem ggX6_paper_X3_clear : GoodIn wsX6_paper wsX3_clear := goodIn_r _ [116, 117, 118, 161, 162, 163, 164, 165] (by decide +kernel) (by decide +kernel)
set_option maxRecDepth 20000 in
theorem gX6_paper_X3_clear : GoodIn wsX6_paper (wsV RX6 94 RX3 yX3_clear wsX3_clear) := goodIn_app (goodIn_of _ (by decide +kernel)) ggX6_paper_X3_clear
set_option maxRecDepth 20000 in
theorem ggX6_paper_X1_notes : GoodIn wsX6_paper wsX1_notes := goodIn_r _ [99, 26, 157, 158, 159, 160] (by decide +kernel) (by decide +kernel)
set_option maxRecDepth 20000 in
theorem gX6_paper_X1_notes : GoodIn wsX6_paper (wsV RX6 98 RX1 yX1_notes wsX1_notes) := goodIn_app (goodIn_of _ (by decide +kernel)) ggX6_paper_X1_notes
theorem dX6_paper_0 : decode cX6_paper 0 = .ok (.aload_n 0, 1) := by decide +kernel
theorem dX6_paper_1 : decode cX6_paper 1 = .ok (.getfield 10, 3) := by decide +kernel
theorem dX6_paper_4 : decode cX6_paper 4 = .ok (.aload_n 0, 1) := by decide +kernel
theorem dX6_paper_5 : decode cX6_paper 5 = .ok (.getfield 19, 3) := by decide +kernel
theorem dX6_paper_8 : decode cX6_paper 8 = .ok (.invokevirtual 83, 3) := by decide +kernel
theorem dX6_paper_11 : decode cX6_paper 11 = .ok (.bipush (-9), 2) := by decide +kernel
theorem dX6_paper_13 : decode cX6_paper 13 = .ok (.if_icmp .eq 6, 3) := by decide +kernel
theorem dX6_paper_16 : decode cX6_paper 16 = .ok (.bipush (-3), 2) := by decide +kernel
theorem dX6_paper_18 : decode cX6_paper 18 = .ok (.ireturn, 1) := by decide +kernel
theorem dX6_paper_19 : decode cX6_paper 19 = .ok (.aload_n 0, 1) := by decide +kernel
theorem dX6_paper_20 : decode cX6_paper 20 = .ok (.getfield 26, 3) := by decide +kernel
theorem dX6_paper_23 : decode cX6_paper 23 = .ok (.getfield 87, 3) := by decide +kernel
theorem dX6_paper_26 : decode cX6_paper 26 = .ok (.aload_n 0, 1) := by decide +kernel
theorem dX6_paper_27 : decode cX6_paper 27 = .ok (.getfield 19, 3) := by decide +kernel
theorem dX6_paper_30 : decode cX6_paper 30 = .ok (.invokevirtual 90, 3) := by decide +kernel
theorem dX6_paper_33 : decode cX6_paper 33 = .ok (.aload_n 0, 1) := by decide +kernel
theorem dX6_paper_34 : decode cX6_paper 34 = .ok (.getfield 49, 3) := by decide +kernel
theorem dX6_paper_37 : decode cX6_paper 37 = .ok (.invokevirtual 94, 3) := by decide +kernel
theorem dX6_paper_40 : decode cX6_paper 40 = .ok (.aload_n 0, 1) := by decide +kernel
theorem dX6_paper_41 : decode cX6_paper 41 = .ok (.iconst 0, 1) := by decide +kernel
theorem dX6_paper_42 : decode cX6_paper 42 = .ok (.putfield 95, 3) := by decide +kernel
theorem dX6_paper_45 : decode cX6_paper 45 = .ok (.aload_n 0, 1) := by decide +kernel
theorem dX6_paper_46 : decode cX6_paper 46 = .ok (.getfield 26, 3) := by decide +kernel
theorem dX6_paper_49 : decode cX6_paper 49 = .ok (.getfield 87, 3) := by decide +kernel
theorem dX6_paper_52 : decode cX6_paper 52 = .ok (.invokevirtual 98, 3) := by decide +kernel
theorem dX6_paper_55 : decode cX6_paper 55 = .ok (.ireturn, 1) := by decide +kernel
set_option maxRecDepth 20000 in
theorem ggX6_reference_X1_hasReference : GoodIn wsX6_reference wsX1_hasReference := goodIn_r _ [6, 7, 8, 9, 5, 10, 11, 12, 64, 65, 66, 67] (by decide +kernel) (by decide +kernel)
set_option maxRecDepth 20000 in
theorem gX6_reference_X1_hasReference : GoodIn wsX6_reference (wsV RX6 101 RX1 yX1_hasReference wsX1_hasReference) := goodIn_app (goodIn_of _ (by decide +kernel)) ggX6_reference_X1_hasReference
set_option maxRecDepth 20000 in
theorem ggX6_reference_X1_slotOf : GoodIn wsX6_reference wsX1_slotOf := goodIn_r _ [15] (by decide +kernel) (by decide +kernel)
set_option maxRecDepth 20000 in
theorem gX6_reference_X1_slotOf : GoodIn wsX6_reference (va_wsS RX6 105 yX1_slotOf wsX1_slotOf) := goodIn_app (goodIn_of _ (by decide +kernel)) ggX6_reference_X1_slotOf
set_option maxRecDepth 20000 in
theorem ggX6_reference_X1_cite : GoodIn wsX6_reference wsX1_cite := goodIn_r _ [19, 20, 64, 65, 66, 67] (by decide +kernel) (by decide +kernel)
set_option maxRecDepth 20000 in
theorem gX6_reference_X1_cite : GoodIn wsX6_reference (wsV RX6 109 RX1 yX1_cite wsX1_cite) := goodIn_app (goodIn_of _ (by decide +kernel)) ggX6_reference_X1_cite
set_option maxRecDepth 20000 in
theorem ggX6_reference_X0_form : GoodIn wsX6_reference wsX0_form := goodIn_r _ [24] (by decide +kernel) (by decide +kernel)
set_option maxRecDepth 20000 in
theorem gX6_reference_X0_form : GoodIn wsX6_reference (va_wsS RX6 113 yX0_form wsX0_form) := goodIn_app (goodIn_of _ (by decide +kernel)) ggX6_reference_X0_form
set_option maxRecDepth 20000 in
theorem ggX6_reference_X0_pin : GoodIn wsX6_reference wsX0_pin := goodIn_r _ [27] (by decide +kernel) (by decide +kernel)
set_option maxRecDepth 20000 in
theorem gX6_reference_X0_pin : GoodIn wsX6_reference (va_wsS RX6 119 yX0_pin wsX0_pin) := goodIn_app (goodIn_of _ (by decide +kernel)) ggX6_reference_X0_pin
set_option maxRecDepth 20000 in
theorem ggX6_reference_X0_number : GoodIn wsX6_reference wsX0_number := goodIn_r _ [30] (by decide +kernel) (by decide +kernel)
set_option maxRecDepth 20000 in
theorem gX6_reference_X0_number : GoodIn wsX6_reference (va_wsS RX6 122 yX0_number wsX0_number) := goodIn_app (goodIn_of _ (by decide +kernel)) ggX6_reference_X0_number
theorem dX6_reference_0 : decode cX6_reference 0 = .ok (.aload_n 0, 1) := by decide +kernel
theorem dX6_reference_1 : decode cX6_reference 1 = .ok (.getfield 26, 3) := by decide +kernel
theorem dX6_reference_4 : decode cX6_reference 4 = .ok (.getfield 87, 3) := by decide +kernel
theorem dX6_reference_7 : decode cX6_reference 7 = .ok (.iload_n 1, 1) := by decide +kernel
theorem dX6_reference_8 : decode cX6_reference 8 = .ok (.iload_n 2, 1) := by decide +kernel
theorem dX6_reference_9 : decode cX6_reference 9 = .ok (.invokevirtual 101, 3) := by decide +kernel
theorem dX6_reference_12 : decode cX6_reference 12 = .ok (.ifCond .ne 5, 3) := by decide +kernel
theorem dX6_reference_15 : decode cX6_reference 15 = .ok (.iconst (-1), 1) := by decide +kernel
theorem dX6_reference_16 : decode cX6_reference 16 = .ok (.ireturn, 1) := by decide +kernel
theorem dX6_reference_17 : decode cX6_reference 17 = .ok (.aload_n 0, 1) := by decide +kernel
theorem dX6_reference_18 : decode cX6_reference 18 = .ok (.getfield 26, 3) := by decide +kernel
theorem dX6_reference_21 : decode cX6_reference 21 = .ok (.getfield 87, 3) := by decide +kernel
theorem dX6_reference_24 : decode cX6_reference 24 = .ok (.iload_n 1, 1) := by decide +kernel
theorem dX6_reference_25 : decode cX6_reference 25 = .ok (.iload_n 2, 1) := by decide +kernel
theorem dX6_reference_26 : decode cX6_reference 26 = .ok (.invokestatic 105, 3) := by decide +kernel
theorem dX6_reference_29 : decode cX6_reference 29 = .ok (.invokevirtual 109, 3) := by decide +kernel
theorem dX6_reference_32 : decode cX6_reference 32 = .ok (.lstore 4, 2) := by decide +kernel
theorem dX6_reference_34 : decode cX6_reference 34 = .ok (.iload_n 3, 1) := by decide +kernel
theorem dX6_reference_35 : decode cX6_reference 35 = .ok (.tableswitch 70 0 2 #[25, 31, 50], 25) := by decide +kernel
theorem dX6_reference_60 : decode cX6_reference 60 = .ok (.lload 4, 2) := by decide +kernel
theorem dX6_reference_62 : decode cX6_reference 62 = .ok (.invokestatic 113, 3) := by decide +kernel
theorem dX6_reference_65 : decode cX6_reference 65 = .ok (.ireturn, 1) := by decide +kernel
theorem dX6_reference_66 : decode cX6_reference 66 = .ok (.lload 4, 2) := by decide +kernel
theorem dX6_reference_68 : decode cX6_reference 68 = .ok (.invokestatic 119, 3) := by decide +kernel
theorem dX6_reference_71 : decode cX6_reference 71 = .ok (.ifCond .ne 8, 3) := by decide +kernel
theorem dX6_reference_74 : decode cX6_reference 74 = .ok (.bipush (-9), 2) := by decide +kernel
theorem dX6_reference_76 : decode cX6_reference 76 = .ok (.goto 8, 3) := by decide +kernel
theorem dX6_reference_79 : decode cX6_reference 79 = .ok (.lload 4, 2) := by decide +kernel
theorem dX6_reference_81 : decode cX6_reference 81 = .ok (.invokestatic 119, 3) := by decide +kernel
theorem dX6_reference_84 : decode cX6_reference 84 = .ok (.ireturn, 1) := by decide +kernel
theorem dX6_reference_85 : decode cX6_reference 85 = .ok (.lload 4, 2) := by decide +kernel
theorem dX6_reference_87 : decode cX6_reference 87 = .ok (.invokestatic 113, 3) := by decide +kernel
theorem dX6_reference_90 : decode cX6_reference 90 = .ok (.iconst 3, 1) := by decide +kernel
theorem dX6_reference_91 : decode cX6_reference 91 = .ok (.if_icmp .ne 11, 3) := by decide +kernel
theorem dX6_reference_94 : decode cX6_reference 94 = .ok (.lload 4, 2) := by decide +kernel
theorem dX6_reference_96 : decode cX6_reference 96 = .ok (.invokestatic 122, 3) := by decide +kernel
theorem dX6_reference_99 : decode cX6_reference 99 = .ok (.goto 5, 3) := by decide +kernel
theorem dX6_reference_102 : decode cX6_reference 102 = .ok (.bipush (-9), 2) := by decide +kernel
theorem dX6_reference_104 : decode cX6_reference 104 = .ok (.ireturn, 1) := by decide +kernel
theorem dX6_reference_105 : decode cX6_reference 105 = .ok (.bipush (-2), 2) := by decide +kernel
theorem dX6_reference_107 : decode cX6_reference 107 = .ok (.ireturn, 1) := by decide +kernel
set_option maxRecDepth 20000 in
theorem ggX6_put_X1_notes : GoodIn wsX6_put wsX1_notes := goodIn_r _ [8, 9, 200, 201, 202, 203] (by decide +kernel) (by decide +kernel)
set_option maxRecDepth 20000 in
theorem gX6_put_X1_notes : GoodIn wsX6_put (wsV RX6 98 RX1 yX1_notes wsX1_notes) := goodIn_app (goodIn_of _ (by decide +kernel)) ggX6_put_X1_notes
set_option maxRecDepth 20000 in
theorem ggX6_put_X6_isMend : GoodIn wsX6_put wsX6_isMend := goodIn_r _ [13] (by decide +kernel) (by decide +kernel)
set_option maxRecDepth 20000 in
theorem gX6_put_X6_isMend : GoodIn wsX6_put (va_wsS RX6 125 yX6_isMend wsX6_isMend) := goodIn_app (goodIn_of _ (by decide +kernel)) ggX6_put_X6_isMend
set_option maxRecDepth 20000 in
theorem ggX6_put_X5_readInto : GoodIn wsX6_put wsX5_readInto := goodIn_r _ [18, 19, 20, 21, 22, 23, 24, 25, 17, 26, 27, 28, 29, 30, 7, 31, 32, 9, 33, 34, 35, 36, 37, 38, 39, 40, 41, 42, 43, 44, 45, 46, 47, 48, 49, 50, 51, 52, 53, 54, 55, 56, 57, 58, 59, 60, 61, 62, 63, 64, 65, 66, 67, 68, 69, 70, 71, 72, 73, 74, 75, 12, 76, 77, 78, 79, 80, 81, 82, 83, 84, 85, 86, 87, 88, 89, 90, 91, 92, 93, 94, 95, 96, 97, 98, 99, 100, 101, 5, 6, 8, 102, 103, 104, 105, 204, 205, 206, 207, 200, 201, 202, 203] (by decide +kernel) (by decide +kernel)
set_option maxRecDepth 20000 in
theorem gX6_put_X5_readInto : GoodIn wsX6_put (wsV RX6 83 RX5 yX5_readInto wsX5_readInto) := goodIn_app (goodIn_of _ (by decide +kernel)) ggX6_put_X5_readInto
set_option maxRecDepth 20000 in
theorem ggX6_put_X6_remember : GoodIn wsX6_put wsX6_remember := goodIn_r _ [109, 110, 111, 1, 112, 113, 114, 115, 116, 117, 118, 119, 120, 121, 122, 123, 124, 125, 126, 127, 5, 6, 7, 8, 9, 128, 129, 130, 131, 37, 132, 133, 134, 135, 100, 167, 168, 169, 170, 171, 172, 173, 174, 175, 176, 177, 178, 179, 180, 181, 182, 183, 184, 185, 186, 187, 188, 189, 190, 191, 192, 193, 194, 195, 196, 197, 198, 199, 208, 209, 210, 211, 212, 200, 201, 202, 203] (by decide +kernel) (by decide +kernel)
set_option maxRecDepth 20000 in
theorem gX6_put_X6_remember : GoodIn wsX6_put (wsV RX6 128 RX6 yX6_remember wsX6_remember) := goodIn_app (goodIn_of _ (by decide +kernel)) ggX6_put_X6_remember
set_option maxRecDepth 20000 in
theorem ggX6_put_X1_insertNote : GoodIn wsX6_put wsX1_insertNote := goodIn_r _ [139, 9, 32, 37, 100, 132, 133, 134, 135, 140, 141, 142, 7, 143, 144, 145, 146, 147, 148, 103, 104, 105, 149, 150, 51, 151, 152, 153, 154, 155, 156, 157, 158, 93, 94, 95, 159, 160, 161, 162, 163, 164, 165, 166, 200, 201, 202, 203] (by decide +kernel) (by decide +kernel)
set_option maxRecDepth 20000 in
theorem gX6_put_X1_insertNote : GoodIn wsX6_put (wsV RX6 131 RX1 yX1_insertNote wsX1_insertNote) := goodIn_app (goodIn_of _ (by decide +kernel)) ggX6_put_X1_insertNote
theorem dX6_put_0 : decode cX6_put 0 = .ok (.iload_n 1, 1) := by decide +kernel
theorem dX6_put_1 : decode cX6_put 1 = .ok (.ifCond .lt 24, 3) := by decide +kernel
theorem dX6_put_4 : decode cX6_put 4 = .ok (.iload_n 1, 1) := by decide +kernel
theorem dX6_put_5 : decode cX6_put 5 = .ok (.aload_n 0, 1) := by decide +kernel
theorem dX6_put_6 : decode cX6_put 6 = .ok (.getfield 26, 3) := by decide +kernel
theorem dX6_put_9 : decode cX6_put 9 = .ok (.getfield 87, 3) := by decide +kernel
theorem dX6_put_12 : decode cX6_put 12 = .ok (.invokevirtual 98, 3) := by decide +kernel
theorem dX6_put_15 : decode cX6_put 15 = .ok (.if_icmp .gt 10, 3) := by decide +kernel
theorem dX6_put_18 : decode cX6_put 18 = .ok (.iload_n 2, 1) := by decide +kernel
theorem dX6_put_19 : decode cX6_put 19 = .ok (.invokestatic 125, 3) := by decide +kernel
theorem dX6_put_22 : decode cX6_put 22 = .ok (.ifCond .ne 6, 3) := by decide +kernel
theorem dX6_put_25 : decode cX6_put 25 = .ok (.bipush (-2), 2) := by decide +kernel
theorem dX6_put_27 : decode cX6_put 27 = .ok (.ireturn, 1) := by decide +kernel
theorem dX6_put_28 : decode cX6_put 28 = .ok (.aload_n 0, 1) := by decide +kernel
theorem dX6_put_29 : decode cX6_put 29 = .ok (.getfield 10, 3) := by decide +kernel
theorem dX6_put_32 : decode cX6_put 32 = .ok (.aload_n 0, 1) := by decide +kernel
theorem dX6_put_33 : decode cX6_put 33 = .ok (.getfield 19, 3) := by decide +kernel
theorem dX6_put_36 : decode cX6_put 36 = .ok (.invokevirtual 83, 3) := by decide +kernel
theorem dX6_put_39 : decode cX6_put 39 = .ok (.bipush (-9), 2) := by decide +kernel
theorem dX6_put_41 : decode cX6_put 41 = .ok (.if_icmp .ne 14, 3) := by decide +kernel
theorem dX6_put_44 : decode cX6_put 44 = .ok (.aload_n 0, 1) := by decide +kernel
theorem dX6_put_45 : decode cX6_put 45 = .ok (.getfield 19, 3) := by decide +kernel
theorem dX6_put_48 : decode cX6_put 48 = .ok (.invokevirtual 98, 3) := by decide +kernel
theorem dX6_put_51 : decode cX6_put 51 = .ok (.iconst 1, 1) := by decide +kernel
theorem dX6_put_52 : decode cX6_put 52 = .ok (.if_icmp .eq 6, 3) := by decide +kernel
theorem dX6_put_55 : decode cX6_put 55 = .ok (.bipush (-3), 2) := by decide +kernel
theorem dX6_put_57 : decode cX6_put 57 = .ok (.ireturn, 1) := by decide +kernel
theorem dX6_put_58 : decode cX6_put 58 = .ok (.aload_n 0, 1) := by decide +kernel
theorem dX6_put_59 : decode cX6_put 59 = .ok (.getfield 26, 3) := by decide +kernel
theorem dX6_put_62 : decode cX6_put 62 = .ok (.getfield 87, 3) := by decide +kernel
theorem dX6_put_65 : decode cX6_put 65 = .ok (.invokevirtual 98, 3) := by decide +kernel
theorem dX6_put_68 : decode cX6_put 68 = .ok (.bipush 8, 2) := by decide +kernel
theorem dX6_put_70 : decode cX6_put 70 = .ok (.if_icmp .lt 6, 3) := by decide +kernel
theorem dX6_put_73 : decode cX6_put 73 = .ok (.bipush (-4), 2) := by decide +kernel
theorem dX6_put_75 : decode cX6_put 75 = .ok (.ireturn, 1) := by decide +kernel
theorem dX6_put_76 : decode cX6_put 76 = .ok (.aload_n 0, 1) := by decide +kernel
theorem dX6_put_77 : decode cX6_put 77 = .ok (.invokevirtual 128, 3) := by decide +kernel
theorem dX6_put_80 : decode cX6_put 80 = .ok (.aload_n 0, 1) := by decide +kernel
theorem dX6_put_81 : decode cX6_put 81 = .ok (.getfield 26, 3) := by decide +kernel
theorem dX6_put_84 : decode cX6_put 84 = .ok (.getfield 87, 3) := by decide +kernel
theorem dX6_put_87 : decode cX6_put 87 = .ok (.iload_n 1, 1) := by decide +kernel
theorem dX6_put_88 : decode cX6_put 88 = .ok (.aload_n 0, 1) := by decide +kernel
theorem dX6_put_89 : decode cX6_put 89 = .ok (.getfield 19, 3) := by decide +kernel
theorem dX6_put_92 : decode cX6_put 92 = .ok (.iload_n 2, 1) := by decide +kernel
theorem dX6_put_93 : decode cX6_put 93 = .ok (.invokevirtual 131, 3) := by decide +kernel
theorem dX6_put_96 : decode cX6_put 96 = .ok (.aload_n 0, 1) := by decide +kernel
theorem dX6_put_97 : decode cX6_put 97 = .ok (.getfield 26, 3) := by decide +kernel
theorem dX6_put_100 : decode cX6_put 100 = .ok (.getfield 87, 3) := by decide +kernel
theorem dX6_put_103 : decode cX6_put 103 = .ok (.invokevirtual 98, 3) := by decide +kernel
theorem dX6_put_106 : decode cX6_put 106 = .ok (.ireturn, 1) := by decide +kernel
set_option maxRecDepth 20000 in
theorem ggX6_cut_X1_hasNote : GoodIn wsX6_cut wsX1_hasNote := goodIn_r _ [6, 7, 121, 122, 123, 124] (by decide +kernel) (by decide +kernel)
set_option maxRecDepth 20000 in
theorem gX6_cut_X1_hasNote : GoodIn wsX6_cut (wsV RX6 135 RX1 yX1_hasNote wsX1_hasNote) := goodIn_app (goodIn_of _ (by decide +kernel)) ggX6_cut_X1_hasNote
set_option maxRecDepth 20000 in
theorem ggX6_cut_X6_isMend : GoodIn wsX6_cut wsX6_isMend := goodIn_r _ [11] (by decide +kernel) (by decide +kernel)
set_option maxRecDepth 20000 in
theorem gX6_cut_X6_isMend : GoodIn wsX6_cut (va_wsS RX6 125 yX6_isMend wsX6_isMend) := goodIn_app (goodIn_of _ (by decide +kernel)) ggX6_cut_X6_isMend
set_option maxRecDepth 20000 in
theorem ggX6_cut_X6_remember : GoodIn wsX6_cut wsX6_remember := goodIn_r _ [15, 16, 17, 1, 18, 19, 20, 21, 22, 23, 24, 25, 26, 27, 28, 29, 30, 31, 32, 33, 34, 35, 5, 36, 7, 37, 38, 39, 40, 41, 42, 43, 44, 45, 46, 88, 89, 90, 91, 92, 93, 94, 95, 96, 97, 98, 99, 100, 101, 102, 103, 104, 105, 106, 107, 108, 109, 110, 111, 112, 113, 114, 115, 116, 117, 118, 119, 120, 125, 126, 127, 128, 129, 121, 122, 123, 124] (by decide +kernel) (by decide +kernel)
set_option maxRecDepth 20000 in
theorem gX6_cut_X6_remember : GoodIn wsX6_cut (wsV RX6 128 RX6 yX6_remember wsX6_remember) := goodIn_app (goodIn_of _ (by decide +kernel)) ggX6_cut_X6_remember
set_option maxRecDepth 20000 in
theorem ggX6_cut_X1_dropNote : GoodIn wsX6_cut wsX1_dropNote := goodIn_r _ [50, 51, 7, 52, 3, 4, 5, 6, 53, 54, 55, 56, 46, 57, 58, 59, 60, 61, 62, 63, 64, 41, 65, 66, 67, 68, 69, 70, 71, 72, 73, 74, 75, 76, 77, 78, 79, 80, 81, 82, 83, 84, 85, 86, 121, 122, 123, 124] (by decide +kernel) (by decide +kernel)
set_option maxRecDepth 20000 in
theorem gX6_cut_X1_dropNote : GoodIn wsX6_cut (wsV RX6 138 RX1 yX1_dropNote wsX1_dropNote) := goodIn_app (goodIn_of _ (by decide +kernel)) ggX6_cut_X1_dropNote
set_option maxRecDepth 20000 in
theorem ggX6_cut_X1_notes : GoodIn wsX6_cut wsX1_notes := goodIn_r _ [36, 7, 121, 122, 123, 124] (by decide +kernel) (by decide +kernel)
set_option maxRecDepth 20000 in
theorem gX6_cut_X1_notes : GoodIn wsX6_cut (wsV RX6 98 RX1 yX1_notes wsX1_notes) := goodIn_app (goodIn_of _ (by decide +kernel)) ggX6_cut_X1_notes
theorem dX6_cut_0 : decode cX6_cut 0 = .ok (.aload_n 0, 1) := by decide +kernel
theorem dX6_cut_1 : decode cX6_cut 1 = .ok (.getfield 26, 3) := by decide +kernel
theorem dX6_cut_4 : decode cX6_cut 4 = .ok (.getfield 87, 3) := by decide +kernel
theorem dX6_cut_7 : decode cX6_cut 7 = .ok (.iload_n 1, 1) := by decide +kernel
theorem dX6_cut_8 : decode cX6_cut 8 = .ok (.invokevirtual 135, 3) := by decide +kernel
theorem dX6_cut_11 : decode cX6_cut 11 = .ok (.ifCond .ne 5, 3) := by decide +kernel
theorem dX6_cut_14 : decode cX6_cut 14 = .ok (.iconst (-1), 1) := by decide +kernel
theorem dX6_cut_15 : decode cX6_cut 15 = .ok (.ireturn, 1) := by decide +kernel
theorem dX6_cut_16 : decode cX6_cut 16 = .ok (.iload_n 2, 1) := by decide +kernel
theorem dX6_cut_17 : decode cX6_cut 17 = .ok (.invokestatic 125, 3) := by decide +kernel
theorem dX6_cut_20 : decode cX6_cut 20 = .ok (.ifCond .ne 6, 3) := by decide +kernel
theorem dX6_cut_23 : decode cX6_cut 23 = .ok (.bipush (-2), 2) := by decide +kernel
theorem dX6_cut_25 : decode cX6_cut 25 = .ok (.ireturn, 1) := by decide +kernel
theorem dX6_cut_26 : decode cX6_cut 26 = .ok (.aload_n 0, 1) := by decide +kernel
theorem dX6_cut_27 : decode cX6_cut 27 = .ok (.invokevirtual 128, 3) := by decide +kernel
theorem dX6_cut_30 : decode cX6_cut 30 = .ok (.aload_n 0, 1) := by decide +kernel
theorem dX6_cut_31 : decode cX6_cut 31 = .ok (.getfield 26, 3) := by decide +kernel
theorem dX6_cut_34 : decode cX6_cut 34 = .ok (.getfield 87, 3) := by decide +kernel
theorem dX6_cut_37 : decode cX6_cut 37 = .ok (.iload_n 1, 1) := by decide +kernel
theorem dX6_cut_38 : decode cX6_cut 38 = .ok (.iload_n 2, 1) := by decide +kernel
theorem dX6_cut_39 : decode cX6_cut 39 = .ok (.invokevirtual 138, 3) := by decide +kernel
theorem dX6_cut_42 : decode cX6_cut 42 = .ok (.aload_n 0, 1) := by decide +kernel
theorem dX6_cut_43 : decode cX6_cut 43 = .ok (.getfield 26, 3) := by decide +kernel
theorem dX6_cut_46 : decode cX6_cut 46 = .ok (.getfield 87, 3) := by decide +kernel
theorem dX6_cut_49 : decode cX6_cut 49 = .ok (.invokevirtual 98, 3) := by decide +kernel
theorem dX6_cut_52 : decode cX6_cut 52 = .ok (.ireturn, 1) := by decide +kernel
set_option maxRecDepth 20000 in
theorem ggX6_move_X1_hasNote : GoodIn wsX6_move wsX1_hasNote := goodIn_r _ [6, 7, 246, 247, 248, 249] (by decide +kernel) (by decide +kernel)
set_option maxRecDepth 20000 in
theorem gX6_move_X1_hasNote : GoodIn wsX6_move (wsV RX6 135 RX1 yX1_hasNote wsX1_hasNote) := goodIn_app (goodIn_of _ (by decide +kernel)) ggX6_move_X1_hasNote
set_option maxRecDepth 20000 in
theorem ggX6_move_X6_isMend : GoodIn wsX6_move wsX6_isMend := goodIn_r _ [11] (by decide +kernel) (by decide +kernel)
set_option maxRecDepth 20000 in
theorem gX6_move_X6_isMend : GoodIn wsX6_move (va_wsS RX6 125 yX6_isMend wsX6_isMend) := goodIn_app (goodIn_of _ (by decide +kernel)) ggX6_move_X6_isMend
set_option maxRecDepth 20000 in
theorem ggX6_move_X6_remember : GoodIn wsX6_move wsX6_remember := goodIn_r _ [15, 16, 17, 1, 18, 19, 20, 21, 22, 23, 24, 25, 26, 27, 28, 29, 30, 31, 32, 33, 34, 35, 5, 36, 7, 37, 38, 39, 40, 41, 42, 43, 44, 45, 46, 213, 214, 215, 216, 217, 218, 219, 220, 221, 222, 223, 224, 225, 226, 227, 228, 229, 230, 231, 232, 233, 234, 235, 236, 237, 238, 239, 240, 241, 242, 243, 244, 245, 250, 251, 252, 253, 254, 246, 247, 248, 249] (by decide +kernel) (by decide +kernel)
set_option maxRecDepth 20000 in
theorem gX6_move_X6_remember : GoodIn wsX6_move (wsV RX6 128 RX6 yX6_remember wsX6_remember) := goodIn_app (goodIn_of _ (by decide +kernel)) ggX6_move_X6_remember
set_option maxRecDepth 20000 in
theorem ggX6_move_X1_shiftNote : GoodIn wsX6_move wsX1_shiftNote := goodIn_r _ [50, 51, 52, 3, 4, 5, 6, 7, 53, 54, 55, 56, 46, 57, 58, 59, 60, 61, 62, 63, 64, 41, 65, 66, 67, 68, 69, 70, 71, 72, 73, 74, 75, 76, 77, 78, 79, 80, 81, 82, 83, 84, 85, 86, 246, 247, 248, 249] (by decide +kernel) (by decide +kernel)
set_option maxRecDepth 20000 in
theorem gX6_move_X1_shiftNote : GoodIn wsX6_move (wsV RX6 142 RX1 yX1_shiftNote wsX1_shiftNote) := goodIn_app (goodIn_of _ (by decide +kernel)) ggX6_move_X1_shiftNote
set_option maxRecDepth 20000 in
theorem ggX6_move_X4_study : GoodIn wsX6_move wsX4_study := goodIn_r _ [91, 92, 93, 94, 95, 96, 5, 97, 51, 98, 99, 100, 90, 101, 102, 103, 104, 105, 106, 107, 108, 109, 110, 111, 112, 113, 114, 115, 116, 117, 7, 61, 62, 63, 64, 41, 84, 85, 86, 118, 119, 120, 121, 46, 65, 66, 67, 68, 122, 123, 124, 125, 126, 127, 128, 129, 130, 131, 132, 133, 134, 135, 136, 34, 35, 36, 137, 138, 139, 140, 141, 142, 143, 144, 145, 146, 147, 148, 149, 150, 151, 152, 153, 154, 155, 156, 157, 158, 159, 160, 161, 162, 163, 164, 165, 166, 167, 168, 169, 170, 171, 172, 173, 174, 175, 70, 71, 176, 177, 178, 179, 180, 181, 182, 183, 184, 185, 186, 187, 188, 189, 190, 191, 192, 193, 194, 195, 196, 197, 198, 199, 200, 201, 202, 203, 204, 205, 206, 207, 208, 230, 231, 232, 233, 234, 235, 236, 237, 238, 239, 240, 241, 242, 243, 244, 245, 246, 247, 248, 249] (by decide +kernel) (by decide +kernel)
set_option maxRecDepth 20000 in
theorem gX6_move_X4_study : GoodIn wsX6_move (wsV RX6 146 RX4 yX4_study wsX4_study) := goodIn_app (goodIn_of _ (by decide +kernel)) ggX6_move_X4_study
set_option maxRecDepth 20000 in
theorem ggX6_move_X4_dead : GoodIn wsX6_move wsX4_dead := goodIn_r _ [212, 105, 230, 231, 232, 233, 234, 235, 236, 237, 238, 239, 240, 241, 242, 243, 244, 245] (by decide +kernel) (by decide +kernel)
set_option maxRecDepth 20000 in
theorem gX6_move_X4_dead : GoodIn wsX6_move (wsV RX6 149 RX4 yX4_dead wsX4_dead) := goodIn_app (goodIn_of _ (by decide +kernel)) ggX6_move_X4_dead
theorem dX6_move_0 : decode cX6_move 0 = .ok (.aload_n 0, 1) := by decide +kernel
theorem dX6_move_1 : decode cX6_move 1 = .ok (.getfield 26, 3) := by decide +kernel
theorem dX6_move_4 : decode cX6_move 4 = .ok (.getfield 87, 3) := by decide +kernel
theorem dX6_move_7 : decode cX6_move 7 = .ok (.iload_n 1, 1) := by decide +kernel
theorem dX6_move_8 : decode cX6_move 8 = .ok (.invokevirtual 135, 3) := by decide +kernel
theorem dX6_move_11 : decode cX6_move 11 = .ok (.ifCond .eq 17, 3) := by decide +kernel
theorem dX6_move_14 : decode cX6_move 14 = .ok (.aload_n 0, 1) := by decide +kernel
theorem dX6_move_15 : decode cX6_move 15 = .ok (.getfield 26, 3) := by decide +kernel
theorem dX6_move_18 : decode cX6_move 18 = .ok (.getfield 87, 3) := by decide +kernel
theorem dX6_move_21 : decode cX6_move 21 = .ok (.iload_n 2, 1) := by decide +kernel
theorem dX6_move_22 : decode cX6_move 22 = .ok (.invokevirtual 135, 3) := by decide +kernel
theorem dX6_move_25 : decode cX6_move 25 = .ok (.ifCond .ne 5, 3) := by decide +kernel
theorem dX6_move_28 : decode cX6_move 28 = .ok (.iconst (-1), 1) := by decide +kernel
theorem dX6_move_29 : decode cX6_move 29 = .ok (.ireturn, 1) := by decide +kernel
theorem dX6_move_30 : decode cX6_move 30 = .ok (.iload_n 3, 1) := by decide +kernel
theorem dX6_move_31 : decode cX6_move 31 = .ok (.invokestatic 125, 3) := by decide +kernel
theorem dX6_move_34 : decode cX6_move 34 = .ok (.ifCond .ne 6, 3) := by decide +kernel
theorem dX6_move_37 : decode cX6_move 37 = .ok (.bipush (-2), 2) := by decide +kernel
theorem dX6_move_39 : decode cX6_move 39 = .ok (.ireturn, 1) := by decide +kernel
theorem dX6_move_40 : decode cX6_move 40 = .ok (.aload_n 0, 1) := by decide +kernel
theorem dX6_move_41 : decode cX6_move 41 = .ok (.invokevirtual 128, 3) := by decide +kernel
theorem dX6_move_44 : decode cX6_move 44 = .ok (.aload_n 0, 1) := by decide +kernel
theorem dX6_move_45 : decode cX6_move 45 = .ok (.getfield 26, 3) := by decide +kernel
theorem dX6_move_48 : decode cX6_move 48 = .ok (.getfield 87, 3) := by decide +kernel
theorem dX6_move_51 : decode cX6_move 51 = .ok (.iload_n 1, 1) := by decide +kernel
theorem dX6_move_52 : decode cX6_move 52 = .ok (.iload_n 2, 1) := by decide +kernel
theorem dX6_move_53 : decode cX6_move 53 = .ok (.iload_n 3, 1) := by decide +kernel
theorem dX6_move_54 : decode cX6_move 54 = .ok (.invokevirtual 142, 3) := by decide +kernel
theorem dX6_move_57 : decode cX6_move 57 = .ok (.aload_n 0, 1) := by decide +kernel
theorem dX6_move_58 : decode cX6_move 58 = .ok (.getfield 26, 3) := by decide +kernel
theorem dX6_move_61 : decode cX6_move 61 = .ok (.invokevirtual 146, 3) := by decide +kernel
theorem dX6_move_64 : decode cX6_move 64 = .ok (.aload_n 0, 1) := by decide +kernel
theorem dX6_move_65 : decode cX6_move 65 = .ok (.getfield 26, 3) := by decide +kernel
theorem dX6_move_68 : decode cX6_move 68 = .ok (.invokevirtual 149, 3) := by decide +kernel
theorem dX6_move_71 : decode cX6_move 71 = .ok (.ireturn, 1) := by decide +kernel
set_option maxRecDepth 20000 in
theorem ggX6_respell_X1_hasReference : GoodIn wsX6_respell wsX1_hasReference := goodIn_r _ [6, 7, 8, 9, 5, 10, 11, 12, 265, 266, 267, 268] (by decide +kernel) (by decide +kernel)
set_option maxRecDepth 20000 in
theorem gX6_respell_X1_hasReference : GoodIn wsX6_respell (wsV RX6 101 RX1 yX1_hasReference wsX1_hasReference) := goodIn_app (goodIn_of _ (by decide +kernel)) ggX6_respell_X1_hasReference
set_option maxRecDepth 20000 in
theorem ggX6_respell_X4_study : GoodIn wsX6_respell wsX4_study := goodIn_r _ [17, 18, 19, 20, 21, 22, 5, 23, 24, 25, 26, 27, 16, 28, 29, 30, 31, 32, 33, 34, 35, 36, 37, 38, 39, 40, 41, 42, 43, 44, 11, 7, 8, 9, 10, 12, 45, 46, 47, 48, 49, 50, 51, 52, 53, 54, 55, 56, 57, 58, 59, 60, 61, 62, 63, 64, 65, 66, 67, 68, 69, 70, 71, 72, 73, 74, 75, 76, 77, 78, 79, 80, 81, 82, 83, 84, 85, 86, 87, 88, 89, 90, 91, 92, 93, 94, 95, 96, 97, 98, 99, 100, 101, 102, 103, 104, 105, 106, 107, 108, 109, 110, 111, 112, 113, 114, 115, 116, 117, 118, 119, 120, 121, 122, 123, 124, 125, 126, 127, 128, 129, 130, 131, 132, 133, 134, 135, 136, 137, 138, 139, 140, 141, 142, 143, 144, 145, 146, 147, 148, 249, 250, 251, 252, 253, 254, 255, 256, 257, 258, 259, 260, 261, 262, 263, 264, 265, 266, 267, 268] (by decide +kernel) (by decide +kernel)
set_option maxRecDepth 20000 in
theorem gX6_respell_X4_study : GoodIn wsX6_respell (wsV RX6 146 RX4 yX4_study wsX4_study) := goodIn_app (goodIn_of _ (by decide +kernel)) ggX6_respell_X4_study
set_option maxRecDepth 20000 in
theorem ggX6_respell_X1_slotOf : GoodIn wsX6_respell wsX1_slotOf := goodIn_r _ [47] (by decide +kernel) (by decide +kernel)
set_option maxRecDepth 20000 in
theorem gX6_respell_X1_slotOf : GoodIn wsX6_respell (va_wsS RX6 105 yX1_slotOf wsX1_slotOf) := goodIn_app (goodIn_of _ (by decide +kernel)) ggX6_respell_X1_slotOf
set_option maxRecDepth 20000 in
theorem ggX6_respell_X4_caseOf : GoodIn wsX6_respell wsX4_caseOf := goodIn_r _ [124, 104, 249, 250, 251, 252, 253, 254, 255, 256, 257, 258, 259, 260, 261, 262, 263, 264] (by decide +kernel) (by decide +kernel)
set_option maxRecDepth 20000 in
theorem gX6_respell_X4_caseOf : GoodIn wsX6_respell (wsV RX6 152 RX4 yX4_caseOf wsX4_caseOf) := goodIn_app (goodIn_of _ (by decide +kernel)) ggX6_respell_X4_caseOf
set_option maxRecDepth 20000 in
theorem ggX6_respell_X4_shortened : GoodIn wsX6_respell wsX4_shortened := goodIn_r _ [154, 19, 61, 49, 50, 5, 51, 52, 121, 122, 123, 16, 124, 104, 57, 58, 59, 60, 39, 155, 156, 157, 158, 159, 160, 55, 161, 68, 69, 70, 65, 66, 67, 162, 163, 164, 165, 141, 142, 143, 144, 93, 46, 47, 108, 8, 9, 10, 11, 12, 166, 167, 168, 169, 170, 171, 172, 173, 79, 102, 105, 106, 107, 116, 117, 118, 119, 80, 174, 175, 176, 177, 178, 179, 180, 145, 146, 147, 148, 34, 181, 182, 183, 184, 185, 186, 187, 188, 189, 190, 191, 249, 250, 251, 252, 253, 254, 255, 256, 257, 258, 259, 260, 261, 262, 263, 264, 265, 266, 267, 268] (by decide +kernel) (by decide +kernel)
set_option maxRecDepth 20000 in
theorem gX6_respell_X4_shortened : GoodIn wsX6_respell (wsV RX6 156 RX4 yX4_shortened wsX4_shortened) := goodIn_app (goodIn_of _ (by decide +kernel)) ggX6_respell_X4_shortened
set_option maxRecDepth 20000 in
theorem ggX6_respell_X4_lengthened : GoodIn wsX6_respell wsX4_lengthened := goodIn_r _ [195, 19, 121, 122, 123, 16, 124, 104, 170, 171, 172, 173, 79, 102, 61, 49, 50, 5, 51, 52, 185, 186, 55, 187, 188, 189, 190, 191, 249, 250, 251, 252, 253, 254, 255, 256, 257, 258, 259, 260, 261, 262, 263, 264, 265, 266, 267, 268] (by decide +kernel) (by decide +kernel)
set_option maxRecDepth 20000 in
theorem gX6_respell_X4_lengthened : GoodIn wsX6_respell (wsV RX6 159 RX4 yX4_lengthened wsX4_lengthened) := goodIn_app (goodIn_of _ (by decide +kernel)) ggX6_respell_X4_lengthened
set_option maxRecDepth 20000 in
theorem ggX6_respell_X6_remember : GoodIn wsX6_respell wsX6_remember := goodIn_r _ [200, 201, 202, 1, 203, 204, 205, 206, 207, 208, 209, 210, 211, 212, 213, 214, 215, 216, 217, 218, 72, 73, 5, 74, 11, 219, 220, 221, 222, 12, 223, 224, 225, 226, 52, 232, 233, 234, 235, 236, 237, 238, 239, 240, 241, 242, 243, 244, 245, 246, 247, 248, 249, 250, 251, 252, 253, 254, 255, 256, 257, 258, 259, 260, 261, 262, 263, 264, 269, 270, 271, 272, 273, 265, 266, 267, 268] (by decide +kernel) (by decide +kernel)
set_option maxRecDepth 20000 in
theorem gX6_respell_X6_remember : GoodIn wsX6_respell (wsV RX6 128 RX6 yX6_remember wsX6_remember) := goodIn_app (goodIn_of _ (by decide +kernel)) ggX6_respell_X6_remember
set_option maxRecDepth 20000 in
theorem ggX6_respell_X1_replaceCite : GoodIn wsX6_respell wsX1_replaceCite := goodIn_r _ [230, 24, 52, 265, 266, 267, 268] (by decide +kernel) (by decide +kernel)
set_option maxRecDepth 20000 in
theorem gX6_respell_X1_replaceCite : GoodIn wsX6_respell (wsV RX6 162 RX1 yX1_replaceCite wsX1_replaceCite) := goodIn_app (goodIn_of _ (by decide +kernel)) ggX6_respell_X1_replaceCite
set_option maxRecDepth 20000 in
theorem ggX6_respell_X0_form : GoodIn wsX6_respell wsX0_form := goodIn_r _ [56] (by decide +kernel) (by decide +kernel)
set_option maxRecDepth 20000 in
theorem gX6_respell_X0_form : GoodIn wsX6_respell (va_wsS RX6 113 yX0_form wsX0_form) := goodIn_app (goodIn_of _ (by decide +kernel)) ggX6_respell_X0_form
theorem dX6_respell_0 : decode cX6_respell 0 = .ok (.aload_n 0, 1) := by decide +kernel
theorem dX6_respell_1 : decode cX6_respell 1 = .ok (.getfield 26, 3) := by decide +kernel
theorem dX6_respell_4 : decode cX6_respell 4 = .ok (.getfield 87, 3) := by decide +kernel
theorem dX6_respell_7 : decode cX6_respell 7 = .ok (.iload_n 1, 1) := by decide +kernel
theorem dX6_respell_8 : decode cX6_respell 8 = .ok (.iload_n 2, 1) := by decide +kernel
theorem dX6_respell_9 : decode cX6_respell 9 = .ok (.invokevirtual 101, 3) := by decide +kernel
theorem dX6_respell_12 : decode cX6_respell 12 = .ok (.ifCond .ne 5, 3) := by decide +kernel
theorem dX6_respell_15 : decode cX6_respell 15 = .ok (.iconst (-1), 1) := by decide +kernel
theorem dX6_respell_16 : decode cX6_respell 16 = .ok (.ireturn, 1) := by decide +kernel
theorem dX6_respell_17 : decode cX6_respell 17 = .ok (.iload_n 3, 1) := by decide +kernel
theorem dX6_respell_18 : decode cX6_respell 18 = .ok (.ifCond .lt 8, 3) := by decide +kernel
theorem dX6_respell_21 : decode cX6_respell 21 = .ok (.iload_n 3, 1) := by decide +kernel
theorem dX6_respell_22 : decode cX6_respell 22 = .ok (.iconst 1, 1) := by decide +kernel
theorem dX6_respell_23 : decode cX6_respell 23 = .ok (.if_icmp .le 6, 3) := by decide +kernel
theorem dX6_respell_26 : decode cX6_respell 26 = .ok (.bipush (-2), 2) := by decide +kernel
theorem dX6_respell_28 : decode cX6_respell 28 = .ok (.ireturn, 1) := by decide +kernel
theorem dX6_respell_29 : decode cX6_respell 29 = .ok (.aload_n 0, 1) := by decide +kernel
theorem dX6_respell_30 : decode cX6_respell 30 = .ok (.getfield 26, 3) := by decide +kernel
theorem dX6_respell_33 : decode cX6_respell 33 = .ok (.invokevirtual 146, 3) := by decide +kernel
theorem dX6_respell_36 : decode cX6_respell 36 = .ok (.iload_n 1, 1) := by decide +kernel
theorem dX6_respell_37 : decode cX6_respell 37 = .ok (.iload_n 2, 1) := by decide +kernel
theorem dX6_respell_38 : decode cX6_respell 38 = .ok (.invokestatic 105, 3) := by decide +kernel
theorem dX6_respell_41 : decode cX6_respell 41 = .ok (.istore 4, 2) := by decide +kernel
theorem dX6_respell_43 : decode cX6_respell 43 = .ok (.aload_n 0, 1) := by decide +kernel
theorem dX6_respell_44 : decode cX6_respell 44 = .ok (.getfield 26, 3) := by decide +kernel
theorem dX6_respell_47 : decode cX6_respell 47 = .ok (.iload 4, 2) := by decide +kernel
theorem dX6_respell_49 : decode cX6_respell 49 = .ok (.invokevirtual 152, 3) := by decide +kernel
theorem dX6_respell_52 : decode cX6_respell 52 = .ok (.ifCond .ge 6, 3) := by decide +kernel
theorem dX6_respell_55 : decode cX6_respell 55 = .ok (.bipush (-3), 2) := by decide +kernel
theorem dX6_respell_57 : decode cX6_respell 57 = .ok (.ireturn, 1) := by decide +kernel
theorem dX6_respell_58 : decode cX6_respell 58 = .ok (.iload_n 3, 1) := by decide +kernel
theorem dX6_respell_59 : decode cX6_respell 59 = .ok (.ifCond .ne 15, 3) := by decide +kernel
theorem dX6_respell_62 : decode cX6_respell 62 = .ok (.aload_n 0, 1) := by decide +kernel
theorem dX6_respell_63 : decode cX6_respell 63 = .ok (.getfield 26, 3) := by decide +kernel
theorem dX6_respell_66 : decode cX6_respell 66 = .ok (.iload 4, 2) := by decide +kernel
theorem dX6_respell_68 : decode cX6_respell 68 = .ok (.invokevirtual 156, 3) := by decide +kernel
theorem dX6_respell_71 : decode cX6_respell 71 = .ok (.goto 12, 3) := by decide +kernel
theorem dX6_respell_74 : decode cX6_respell 74 = .ok (.aload_n 0, 1) := by decide +kernel
theorem dX6_respell_75 : decode cX6_respell 75 = .ok (.getfield 26, 3) := by decide +kernel
theorem dX6_respell_78 : decode cX6_respell 78 = .ok (.iload 4, 2) := by decide +kernel
theorem dX6_respell_80 : decode cX6_respell 80 = .ok (.invokevirtual 159, 3) := by decide +kernel
theorem dX6_respell_83 : decode cX6_respell 83 = .ok (.lstore 5, 2) := by decide +kernel
theorem dX6_respell_85 : decode cX6_respell 85 = .ok (.aload_n 0, 1) := by decide +kernel
theorem dX6_respell_86 : decode cX6_respell 86 = .ok (.invokevirtual 128, 3) := by decide +kernel
theorem dX6_respell_89 : decode cX6_respell 89 = .ok (.aload_n 0, 1) := by decide +kernel
theorem dX6_respell_90 : decode cX6_respell 90 = .ok (.getfield 26, 3) := by decide +kernel
theorem dX6_respell_93 : decode cX6_respell 93 = .ok (.getfield 87, 3) := by decide +kernel
theorem dX6_respell_96 : decode cX6_respell 96 = .ok (.iload 4, 2) := by decide +kernel
theorem dX6_respell_98 : decode cX6_respell 98 = .ok (.lload 5, 2) := by decide +kernel
theorem dX6_respell_100 : decode cX6_respell 100 = .ok (.invokevirtual 162, 3) := by decide +kernel
theorem dX6_respell_103 : decode cX6_respell 103 = .ok (.lload 5, 2) := by decide +kernel
theorem dX6_respell_105 : decode cX6_respell 105 = .ok (.invokestatic 113, 3) := by decide +kernel
theorem dX6_respell_108 : decode cX6_respell 108 = .ok (.ireturn, 1) := by decide +kernel
set_option maxRecDepth 20000 in
theorem ggX6_undo_X3_fetch : GoodIn wsX6_undo wsX3_fetch := goodIn_r _ [9, 10, 11, 12, 13, 14, 15, 16, 17, 18, 19, 20, 21, 22, 23, 24, 25, 26, 27, 61, 62, 63, 64, 65, 66, 67, 68, 69] (by decide +kernel) (by decide +kernel)
set_option maxRecDepth 20000 in
theorem gX6_undo_X3_fetch : GoodIn wsX6_undo (wsV RX6 169 RX3 yX3_fetch wsX3_fetch) := goodIn_app (goodIn_of _ (by decide +kernel)) ggX6_undo_X3_fetch
theorem dX6_undo_0 : decode cX6_undo 0 = .ok (.aload_n 0, 1) := by decide +kernel
theorem dX6_undo_1 : decode cX6_undo 1 = .ok (.getfield 95, 3) := by decide +kernel
theorem dX6_undo_4 : decode cX6_undo 4 = .ok (.ifCond .gt 6, 3) := by decide +kernel
theorem dX6_undo_7 : decode cX6_undo 7 = .ok (.bipush (-3), 2) := by decide +kernel
theorem dX6_undo_9 : decode cX6_undo 9 = .ok (.ireturn, 1) := by decide +kernel
theorem dX6_undo_10 : decode cX6_undo 10 = .ok (.aload_n 0, 1) := by decide +kernel
theorem dX6_undo_11 : decode cX6_undo 11 = .ok (.getfield 45, 3) := by decide +kernel
theorem dX6_undo_14 : decode cX6_undo 14 = .ok (.aload_n 0, 1) := by decide +kernel
theorem dX6_undo_15 : decode cX6_undo 15 = .ok (.getfield 166, 3) := by decide +kernel
theorem dX6_undo_18 : decode cX6_undo 18 = .ok (.aload_n 0, 1) := by decide +kernel
theorem dX6_undo_19 : decode cX6_undo 19 = .ok (.getfield 26, 3) := by decide +kernel
theorem dX6_undo_22 : decode cX6_undo 22 = .ok (.getfield 87, 3) := by decide +kernel
theorem dX6_undo_25 : decode cX6_undo 25 = .ok (.invokevirtual 169, 3) := by decide +kernel
theorem dX6_undo_28 : decode cX6_undo 28 = .ok (.aload_n 0, 1) := by decide +kernel
theorem dX6_undo_29 : decode cX6_undo 29 = .ok (.aload_n 0, 1) := by decide +kernel
theorem dX6_undo_30 : decode cX6_undo 30 = .ok (.getfield 166, 3) := by decide +kernel
theorem dX6_undo_33 : decode cX6_undo 33 = .ok (.bipush 14, 2) := by decide +kernel
theorem dX6_undo_35 : decode cX6_undo 35 = .ok (.iadd, 1) := by decide +kernel
theorem dX6_undo_36 : decode cX6_undo 36 = .ok (.iconst 1, 1) := by decide +kernel
theorem dX6_undo_37 : decode cX6_undo 37 = .ok (.isub, 1) := by decide +kernel
theorem dX6_undo_38 : decode cX6_undo 38 = .ok (.bipush 14, 2) := by decide +kernel
theorem dX6_undo_40 : decode cX6_undo 40 = .ok (.irem, 1) := by decide +kernel
theorem dX6_undo_41 : decode cX6_undo 41 = .ok (.putfield 166, 3) := by decide +kernel
theorem dX6_undo_44 : decode cX6_undo 44 = .ok (.aload_n 0, 1) := by decide +kernel
theorem dX6_undo_45 : decode cX6_undo 45 = .ok (.dup, 1) := by decide +kernel
theorem dX6_undo_46 : decode cX6_undo 46 = .ok (.getfield 95, 3) := by decide +kernel
theorem dX6_undo_49 : decode cX6_undo 49 = .ok (.iconst 1, 1) := by decide +kernel
theorem dX6_undo_50 : decode cX6_undo 50 = .ok (.isub, 1) := by decide +kernel
theorem dX6_undo_51 : decode cX6_undo 51 = .ok (.putfield 95, 3) := by decide +kernel
theorem dX6_undo_54 : decode cX6_undo 54 = .ok (.aload_n 0, 1) := by decide +kernel
theorem dX6_undo_55 : decode cX6_undo 55 = .ok (.getfield 95, 3) := by decide +kernel
theorem dX6_undo_58 : decode cX6_undo 58 = .ok (.ireturn, 1) := by decide +kernel
set_option maxRecDepth 20000 in
theorem ggX6_remember_X3_store : GoodIn wsX6_remember wsX3_store := goodIn_r _ [13, 14, 15, 16, 17, 18, 19, 20, 21, 22, 23, 24, 25, 26, 27, 28, 29, 30, 31, 32, 33, 34, 68, 69, 70, 71, 72, 73, 74, 75, 76] (by decide +kernel) (by decide +kernel)
set_option maxRecDepth 20000 in
theorem gX6_remember_X3_store : GoodIn wsX6_remember (wsV RX6 173 RX3 yX3_store wsX3_store) := goodIn_app (goodIn_of _ (by decide +kernel)) ggX6_remember_X3_store
theorem dX6_remember_0 : decode cX6_remember 0 = .ok (.aload_n 0, 1) := by decide +kernel
theorem dX6_remember_1 : decode cX6_remember 1 = .ok (.aload_n 0, 1) := by decide +kernel
theorem dX6_remember_2 : decode cX6_remember 2 = .ok (.getfield 166, 3) := by decide +kernel
theorem dX6_remember_5 : decode cX6_remember 5 = .ok (.iconst 1, 1) := by decide +kernel
theorem dX6_remember_6 : decode cX6_remember 6 = .ok (.iadd, 1) := by decide +kernel
theorem dX6_remember_7 : decode cX6_remember 7 = .ok (.bipush 14, 2) := by decide +kernel
theorem dX6_remember_9 : decode cX6_remember 9 = .ok (.irem, 1) := by decide +kernel
theorem dX6_remember_10 : decode cX6_remember 10 = .ok (.putfield 166, 3) := by decide +kernel
theorem dX6_remember_13 : decode cX6_remember 13 = .ok (.aload_n 0, 1) := by decide +kernel
theorem dX6_remember_14 : decode cX6_remember 14 = .ok (.getfield 45, 3) := by decide +kernel
theorem dX6_remember_17 : decode cX6_remember 17 = .ok (.aload_n 0, 1) := by decide +kernel
theorem dX6_remember_18 : decode cX6_remember 18 = .ok (.getfield 166, 3) := by decide +kernel
theorem dX6_remember_21 : decode cX6_remember 21 = .ok (.aload_n 0, 1) := by decide +kernel
theorem dX6_remember_22 : decode cX6_remember 22 = .ok (.getfield 26, 3) := by decide +kernel
theorem dX6_remember_25 : decode cX6_remember 25 = .ok (.getfield 87, 3) := by decide +kernel
theorem dX6_remember_28 : decode cX6_remember 28 = .ok (.invokevirtual 173, 3) := by decide +kernel
theorem dX6_remember_31 : decode cX6_remember 31 = .ok (.aload_n 0, 1) := by decide +kernel
theorem dX6_remember_32 : decode cX6_remember 32 = .ok (.aload_n 0, 1) := by decide +kernel
theorem dX6_remember_33 : decode cX6_remember 33 = .ok (.getfield 95, 3) := by decide +kernel
theorem dX6_remember_36 : decode cX6_remember 36 = .ok (.iconst 1, 1) := by decide +kernel
theorem dX6_remember_37 : decode cX6_remember 37 = .ok (.iadd, 1) := by decide +kernel
theorem dX6_remember_38 : decode cX6_remember 38 = .ok (.bipush 14, 2) := by decide +kernel
theorem dX6_remember_40 : decode cX6_remember 40 = .ok (.invokestatic 176, 3) := by decide +kernel
theorem dX6_remember_43 : decode cX6_remember 43 = .ok (.putfield 95, 3) := by decide +kernel
theorem dX6_remember_46 : decode cX6_remember 46 = .ok (.return_, 1) := by decide +kernel
theorem dX6_isMend_0 : decode cX6_isMend 0 = .ok (.iload_n 0, 1) := by decide +kernel
theorem dX6_isMend_1 : decode cX6_isMend 1 = .ok (.ifCond .eq 8, 3) := by decide +kernel
theorem dX6_isMend_4 : decode cX6_isMend 4 = .ok (.iload_n 0, 1) := by decide +kernel
theorem dX6_isMend_5 : decode cX6_isMend 5 = .ok (.iconst 1, 1) := by decide +kernel
theorem dX6_isMend_6 : decode cX6_isMend 6 = .ok (.if_icmp .ne 7, 3) := by decide +kernel
theorem dX6_isMend_9 : decode cX6_isMend 9 = .ok (.iconst 1, 1) := by decide +kernel
theorem dX6_isMend_10 : decode cX6_isMend 10 = .ok (.goto 4, 3) := by decide +kernel
theorem dX6_isMend_13 : decode cX6_isMend 13 = .ok (.iconst 0, 1) := by decide +kernel
theorem dX6_isMend_14 : decode cX6_isMend 14 = .ok (.ireturn, 1) := by decide +kernel
set_option maxRecDepth 20000 in
theorem ggX6_found_X1_hasReference : GoodIn wsX6_found wsX1_hasReference := goodIn_r _ [6, 7, 8, 9, 5, 10, 11, 12, 213, 214, 215, 216] (by decide +kernel) (by decide +kernel)
set_option maxRecDepth 20000 in
theorem gX6_found_X1_hasReference : GoodIn wsX6_found (wsV RX6 101 RX1 yX1_hasReference wsX1_hasReference) := goodIn_app (goodIn_of _ (by decide +kernel)) ggX6_found_X1_hasReference
set_option maxRecDepth 20000 in
theorem ggX6_found_X4_study : GoodIn wsX6_found wsX4_study := goodIn_r _ [17, 18, 19, 20, 21, 22, 5, 23, 24, 25, 26, 27, 16, 28, 29, 30, 31, 32, 33, 34, 35, 36, 37, 38, 39, 40, 41, 42, 43, 44, 11, 7, 8, 9, 10, 12, 45, 46, 47, 48, 49, 50, 51, 52, 53, 54, 55, 56, 57, 58, 59, 60, 61, 62, 63, 64, 65, 66, 67, 68, 69, 70, 71, 72, 73, 74, 75, 76, 77, 78, 79, 80, 81, 82, 83, 84, 85, 86, 87, 88, 89, 90, 91, 92, 93, 94, 95, 96, 97, 98, 99, 100, 101, 102, 103, 104, 105, 106, 107, 108, 109, 110, 111, 112, 113, 114, 115, 116, 117, 118, 119, 120, 121, 122, 123, 124, 125, 126, 127, 128, 129, 130, 131, 132, 133, 134, 135, 136, 137, 138, 139, 140, 141, 142, 143, 144, 145, 146, 147, 148, 197, 198, 199, 200, 201, 202, 203, 204, 205, 206, 207, 208, 209, 210, 211, 212, 213, 214, 215, 216] (by decide +kernel) (by decide +kernel)
set_option maxRecDepth 20000 in
theorem gX6_found_X4_study : GoodIn wsX6_found (wsV RX6 146 RX4 yX4_study wsX4_study) := goodIn_app (goodIn_of _ (by decide +kernel)) ggX6_found_X4_study
set_option maxRecDepth 20000 in
theorem ggX6_found_X1_slotOf : GoodIn wsX6_found wsX1_slotOf := goodIn_r _ [47] (by decide +kernel) (by decide +kernel)
set_option maxRecDepth 20000 in
theorem gX6_found_X1_slotOf : GoodIn wsX6_found (va_wsS RX6 105 yX1_slotOf wsX1_slotOf) := goodIn_app (goodIn_of _ (by decide +kernel)) ggX6_found_X1_slotOf
set_option maxRecDepth 20000 in
theorem ggX6_found_X4_caseOf : GoodIn wsX6_found wsX4_caseOf := goodIn_r _ [124, 104, 197, 198, 199, 200, 201, 202, 203, 204, 205, 206, 207, 208, 209, 210, 211, 212] (by decide +kernel) (by decide +kernel)
set_option maxRecDepth 20000 in
theorem gX6_found_X4_caseOf : GoodIn wsX6_found (wsV RX6 152 RX4 yX4_caseOf wsX4_caseOf) := goodIn_app (goodIn_of _ (by decide +kernel)) ggX6_found_X4_caseOf
set_option maxRecDepth 20000 in
theorem ggX6_found_X4_reasonOf : GoodIn wsX6_found wsX4_reasonOf := goodIn_r _ [154, 129, 197, 198, 199, 200, 201, 202, 203, 204, 205, 206, 207, 208, 209, 210, 211, 212] (by decide +kernel) (by decide +kernel)
set_option maxRecDepth 20000 in
theorem gX6_found_X4_reasonOf : GoodIn wsX6_found (wsV RX6 181 RX4 yX4_reasonOf wsX4_reasonOf) := goodIn_app (goodIn_of _ (by decide +kernel)) ggX6_found_X4_reasonOf
set_option maxRecDepth 20000 in
theorem ggX6_found_X4_pinState : GoodIn wsX6_found wsX4_pinState := goodIn_r _ [158, 19, 121, 122, 123, 16, 124, 104, 61, 49, 50, 5, 51, 52, 159, 160, 55, 161, 162, 163, 164, 165, 79, 102, 166, 69, 70, 167, 168, 169, 170, 57, 58, 59, 60, 39, 171, 172, 173, 174, 175, 176, 177, 178, 103, 179, 66, 67, 197, 198, 199, 200, 201, 202, 203, 204, 205, 206, 207, 208, 209, 210, 211, 212, 213, 214, 215, 216] (by decide +kernel) (by decide +kernel)
set_option maxRecDepth 20000 in
theorem gX6_found_X4_pinState : GoodIn wsX6_found (wsV RX6 184 RX4 yX4_pinState wsX4_pinState) := goodIn_app (goodIn_of _ (by decide +kernel)) ggX6_found_X4_pinState
theorem dX6_found_0 : decode cX6_found 0 = .ok (.aload_n 0, 1) := by decide +kernel
theorem dX6_found_1 : decode cX6_found 1 = .ok (.getfield 26, 3) := by decide +kernel
theorem dX6_found_4 : decode cX6_found 4 = .ok (.getfield 87, 3) := by decide +kernel
theorem dX6_found_7 : decode cX6_found 7 = .ok (.iload_n 1, 1) := by decide +kernel
theorem dX6_found_8 : decode cX6_found 8 = .ok (.iload_n 2, 1) := by decide +kernel
theorem dX6_found_9 : decode cX6_found 9 = .ok (.invokevirtual 101, 3) := by decide +kernel
theorem dX6_found_12 : decode cX6_found 12 = .ok (.ifCond .ne 5, 3) := by decide +kernel
theorem dX6_found_15 : decode cX6_found 15 = .ok (.iconst (-1), 1) := by decide +kernel
theorem dX6_found_16 : decode cX6_found 16 = .ok (.ireturn, 1) := by decide +kernel
theorem dX6_found_17 : decode cX6_found 17 = .ok (.aload_n 0, 1) := by decide +kernel
theorem dX6_found_18 : decode cX6_found 18 = .ok (.getfield 26, 3) := by decide +kernel
theorem dX6_found_21 : decode cX6_found 21 = .ok (.invokevirtual 146, 3) := by decide +kernel
theorem dX6_found_24 : decode cX6_found 24 = .ok (.iload_n 1, 1) := by decide +kernel
theorem dX6_found_25 : decode cX6_found 25 = .ok (.iload_n 2, 1) := by decide +kernel
theorem dX6_found_26 : decode cX6_found 26 = .ok (.invokestatic 105, 3) := by decide +kernel
theorem dX6_found_29 : decode cX6_found 29 = .ok (.istore 4, 2) := by decide +kernel
theorem dX6_found_31 : decode cX6_found 31 = .ok (.iload_n 3, 1) := by decide +kernel
theorem dX6_found_32 : decode cX6_found 32 = .ok (.tableswitch 75 0 2 #[28, 55, 65], 28) := by decide +kernel
theorem dX6_found_60 : decode cX6_found 60 = .ok (.aload_n 0, 1) := by decide +kernel
theorem dX6_found_61 : decode cX6_found 61 = .ok (.getfield 26, 3) := by decide +kernel
theorem dX6_found_64 : decode cX6_found 64 = .ok (.iload 4, 2) := by decide +kernel
theorem dX6_found_66 : decode cX6_found 66 = .ok (.invokevirtual 152, 3) := by decide +kernel
theorem dX6_found_69 : decode cX6_found 69 = .ok (.ifCond .ge 8, 3) := by decide +kernel
theorem dX6_found_72 : decode cX6_found 72 = .ok (.bipush (-9), 2) := by decide +kernel
theorem dX6_found_74 : decode cX6_found 74 = .ok (.goto 12, 3) := by decide +kernel
theorem dX6_found_77 : decode cX6_found 77 = .ok (.aload_n 0, 1) := by decide +kernel
theorem dX6_found_78 : decode cX6_found 78 = .ok (.getfield 26, 3) := by decide +kernel
theorem dX6_found_81 : decode cX6_found 81 = .ok (.iload 4, 2) := by decide +kernel
theorem dX6_found_83 : decode cX6_found 83 = .ok (.invokevirtual 152, 3) := by decide +kernel
theorem dX6_found_86 : decode cX6_found 86 = .ok (.ireturn, 1) := by decide +kernel
theorem dX6_found_87 : decode cX6_found 87 = .ok (.aload_n 0, 1) := by decide +kernel
theorem dX6_found_88 : decode cX6_found 88 = .ok (.getfield 26, 3) := by decide +kernel
theorem dX6_found_91 : decode cX6_found 91 = .ok (.iload 4, 2) := by decide +kernel
theorem dX6_found_93 : decode cX6_found 93 = .ok (.invokevirtual 181, 3) := by decide +kernel
theorem dX6_found_96 : decode cX6_found 96 = .ok (.ireturn, 1) := by decide +kernel
theorem dX6_found_97 : decode cX6_found 97 = .ok (.aload_n 0, 1) := by decide +kernel
theorem dX6_found_98 : decode cX6_found 98 = .ok (.getfield 26, 3) := by decide +kernel
theorem dX6_found_101 : decode cX6_found 101 = .ok (.iload 4, 2) := by decide +kernel
theorem dX6_found_103 : decode cX6_found 103 = .ok (.invokevirtual 184, 3) := by decide +kernel
theorem dX6_found_106 : decode cX6_found 106 = .ok (.ireturn, 1) := by decide +kernel
theorem dX6_found_107 : decode cX6_found 107 = .ok (.bipush (-2), 2) := by decide +kernel
theorem dX6_found_109 : decode cX6_found 109 = .ok (.ireturn, 1) := by decide +kernel
set_option maxRecDepth 20000 in
theorem ggX6_aCase_X4_study : GoodIn wsX6_aCase wsX4_study := goodIn_r _ [6, 7, 8, 9, 10, 11, 12, 13, 14, 15, 16, 17, 5, 18, 19, 20, 21, 22, 23, 24, 25, 26, 27, 28, 29, 30, 31, 32, 33, 34, 35, 36, 37, 38, 39, 40, 41, 42, 43, 44, 45, 46, 47, 48, 49, 50, 51, 52, 53, 54, 55, 56, 57, 58, 59, 60, 61, 62, 63, 64, 65, 66, 67, 68, 69, 70, 71, 72, 73, 74, 75, 76, 77, 78, 79, 80, 81, 82, 83, 84, 85, 86, 87, 88, 89, 90, 91, 92, 93, 94, 95, 96, 97, 98, 99, 100, 101, 102, 103, 104, 105, 106, 107, 108, 109, 110, 111, 112, 113, 114, 115, 116, 117, 118, 119, 120, 121, 122, 123, 124, 125, 126, 127, 128, 129, 130, 131, 132, 133, 134, 135, 136, 137, 138, 139, 140, 141, 142, 143, 144, 222, 223, 224, 225, 226, 227, 228, 229, 230, 231, 232, 233, 234, 235, 236, 237, 238, 239, 240, 241] (by decide +kernel) (by decide +kernel)
set_option maxRecDepth 20000 in
theorem gX6_aCase_X4_study : GoodIn wsX6_aCase (wsV RX6 146 RX4 yX4_study wsX4_study) := goodIn_app (goodIn_of _ (by decide +kernel)) ggX6_aCase_X4_study
set_option maxRecDepth 20000 in
theorem ggX6_aCase_X4_cases : GoodIn wsX6_aCase wsX4_cases := goodIn_r _ [148, 75, 222, 223, 224, 225, 226, 227, 228, 229, 230, 231, 232, 233, 234, 235, 236, 237] (by decide +kernel) (by decide +kernel)
set_option maxRecDepth 20000 in
theorem gX6_aCase_X4_cases : GoodIn wsX6_aCase (wsV RX6 187 RX4 yX4_cases wsX4_cases) := goodIn_app (goodIn_of _ (by decide +kernel)) ggX6_aCase_X4_cases
set_option maxRecDepth 20000 in
theorem ggX6_aCase_X4_firstCite : GoodIn wsX6_aCase wsX4_firstCite := goodIn_r _ [152, 75, 8, 98, 57, 45, 46, 12, 47, 48, 222, 223, 224, 225, 226, 227, 228, 229, 230, 231, 232, 233, 234, 235, 236, 237, 238, 239, 240, 241] (by decide +kernel) (by decide +kernel)
set_option maxRecDepth 20000 in
theorem gX6_aCase_X4_firstCite : GoodIn wsX6_aCase (wsV RX6 190 RX4 yX4_firstCite wsX4_firstCite) := goodIn_app (goodIn_of _ (by decide +kernel)) ggX6_aCase_X4_firstCite
set_option maxRecDepth 20000 in
theorem ggX6_aCase_X0_first : GoodIn wsX6_aCase wsX0_first := goodIn_r _ [103] (by decide +kernel) (by decide +kernel)
set_option maxRecDepth 20000 in
theorem gX6_aCase_X0_first : GoodIn wsX6_aCase (va_wsS RX6 193 yX0_first wsX0_first) := goodIn_app (goodIn_of _ (by decide +kernel)) ggX6_aCase_X0_first
set_option maxRecDepth 20000 in
theorem ggX6_aCase_X0_second : GoodIn wsX6_aCase wsX0_second := goodIn_r _ [156] (by decide +kernel) (by decide +kernel)
set_option maxRecDepth 20000 in
theorem gX6_aCase_X0_second : GoodIn wsX6_aCase (va_wsS RX6 196 yX0_second wsX0_second) := goodIn_app (goodIn_of _ (by decide +kernel)) ggX6_aCase_X0_second
set_option maxRecDepth 20000 in
theorem ggX6_aCase_X0_report : GoodIn wsX6_aCase wsX0_report := goodIn_r _ [66] (by decide +kernel) (by decide +kernel)
set_option maxRecDepth 20000 in
theorem gX6_aCase_X0_report : GoodIn wsX6_aCase (va_wsS RX6 199 yX0_report wsX0_report) := goodIn_app (goodIn_of _ (by decide +kernel)) ggX6_aCase_X0_report
set_option maxRecDepth 20000 in
theorem ggX6_aCase_X4_reportsOf : GoodIn wsX6_aCase wsX4_reportsOf := goodIn_r _ [161, 8, 162, 163, 164, 5, 165, 166, 167, 168, 169, 75, 99, 57, 45, 46, 12, 47, 48, 170, 65, 51, 66, 171, 172, 173, 174, 175, 176, 177, 64, 61, 62, 63, 178, 222, 223, 224, 225, 226, 227, 228, 229, 230, 231, 232, 233, 234, 235, 236, 237, 238, 239, 240, 241] (by decide +kernel) (by decide +kernel)
set_option maxRecDepth 20000 in
theorem gX6_aCase_X4_reportsOf : GoodIn wsX6_aCase (wsV RX6 202 RX4 yX4_reportsOf wsX4_reportsOf) := goodIn_app (goodIn_of _ (by decide +kernel)) ggX6_aCase_X4_reportsOf
set_option maxRecDepth 20000 in
theorem ggX6_aCase_X4_clashes : GoodIn wsX6_aCase wsX4_clashes := goodIn_r _ [182, 8, 162, 163, 164, 5, 165, 166, 167, 168, 169, 75, 99, 57, 45, 46, 12, 47, 48, 183, 150, 151, 152, 98, 184, 185, 51, 186, 187, 102, 103, 188, 155, 156, 222, 223, 224, 225, 226, 227, 228, 229, 230, 231, 232, 233, 234, 235, 236, 237, 238, 239, 240, 241] (by decide +kernel) (by decide +kernel)
set_option maxRecDepth 20000 in
theorem gX6_aCase_X4_clashes : GoodIn wsX6_aCase (wsV RX6 205 RX4 yX4_clashes wsX4_clashes) := goodIn_app (goodIn_of _ (by decide +kernel)) ggX6_aCase_X4_clashes
set_option maxRecDepth 20000 in
theorem ggX6_aCase_X4_notesFinding : GoodIn wsX6_aCase wsX4_notesFinding := goodIn_r _ [192, 193, 194, 195, 5, 196, 141, 142, 143, 144, 24, 222, 223, 224, 225, 226, 227, 228, 229, 230, 231, 232, 233, 234, 235, 236, 237] (by decide +kernel) (by decide +kernel)
set_option maxRecDepth 20000 in
theorem gX6_aCase_X4_notesFinding : GoodIn wsX6_aCase (wsV RX6 208 RX4 yX4_notesFinding wsX4_notesFinding) := goodIn_app (goodIn_of _ (by decide +kernel)) ggX6_aCase_X4_notesFinding
set_option maxRecDepth 20000 in
theorem ggX6_aCase_X4_referencesFinding : GoodIn wsX6_aCase wsX4_referencesFinding := goodIn_r _ [200, 8, 201, 202, 203, 12, 204, 36, 37, 38, 39, 35, 40, 117, 118, 119, 5, 120, 100, 222, 223, 224, 225, 226, 227, 228, 229, 230, 231, 232, 233, 234, 235, 236, 237, 238, 239, 240, 241] (by decide +kernel) (by decide +kernel)
set_option maxRecDepth 20000 in
theorem gX6_aCase_X4_referencesFinding : GoodIn wsX6_aCase (wsV RX6 211 RX4 yX4_referencesFinding wsX4_referencesFinding) := goodIn_app (goodIn_of _ (by decide +kernel)) ggX6_aCase_X4_referencesFinding
theorem dX6_aCase_0 : decode cX6_aCase 0 = .ok (.aload_n 0, 1) := by decide +kernel
theorem dX6_aCase_1 : decode cX6_aCase 1 = .ok (.getfield 26, 3) := by decide +kernel
theorem dX6_aCase_4 : decode cX6_aCase 4 = .ok (.invokevirtual 146, 3) := by decide +kernel
theorem dX6_aCase_7 : decode cX6_aCase 7 = .ok (.iload_n 1, 1) := by decide +kernel
theorem dX6_aCase_8 : decode cX6_aCase 8 = .ok (.ifCond .lt 14, 3) := by decide +kernel
theorem dX6_aCase_11 : decode cX6_aCase 11 = .ok (.iload_n 1, 1) := by decide +kernel
theorem dX6_aCase_12 : decode cX6_aCase 12 = .ok (.aload_n 0, 1) := by decide +kernel
theorem dX6_aCase_13 : decode cX6_aCase 13 = .ok (.getfield 26, 3) := by decide +kernel
theorem dX6_aCase_16 : decode cX6_aCase 16 = .ok (.invokevirtual 187, 3) := by decide +kernel
theorem dX6_aCase_19 : decode cX6_aCase 19 = .ok (.if_icmp .lt 5, 3) := by decide +kernel
theorem dX6_aCase_22 : decode cX6_aCase 22 = .ok (.iconst (-1), 1) := by decide +kernel
theorem dX6_aCase_23 : decode cX6_aCase 23 = .ok (.ireturn, 1) := by decide +kernel
theorem dX6_aCase_24 : decode cX6_aCase 24 = .ok (.aload_n 0, 1) := by decide +kernel
theorem dX6_aCase_25 : decode cX6_aCase 25 = .ok (.getfield 26, 3) := by decide +kernel
theorem dX6_aCase_28 : decode cX6_aCase 28 = .ok (.iload_n 1, 1) := by decide +kernel
theorem dX6_aCase_29 : decode cX6_aCase 29 = .ok (.invokevirtual 190, 3) := by decide +kernel
theorem dX6_aCase_32 : decode cX6_aCase 32 = .ok (.lstore_n 3, 1) := by decide +kernel
theorem dX6_aCase_33 : decode cX6_aCase 33 = .ok (.iload_n 2, 1) := by decide +kernel
theorem dX6_aCase_34 : decode cX6_aCase 34 = .ok (.tableswitch 101 0 6 #[42, 47, 52, 57, 66, 83, 92], 42) := by decide +kernel
theorem dX6_aCase_76 : decode cX6_aCase 76 = .ok (.lload_n 3, 1) := by decide +kernel
theorem dX6_aCase_77 : decode cX6_aCase 77 = .ok (.invokestatic 193, 3) := by decide +kernel
theorem dX6_aCase_80 : decode cX6_aCase 80 = .ok (.ireturn, 1) := by decide +kernel
theorem dX6_aCase_81 : decode cX6_aCase 81 = .ok (.lload_n 3, 1) := by decide +kernel
theorem dX6_aCase_82 : decode cX6_aCase 82 = .ok (.invokestatic 196, 3) := by decide +kernel
theorem dX6_aCase_85 : decode cX6_aCase 85 = .ok (.ireturn, 1) := by decide +kernel
theorem dX6_aCase_86 : decode cX6_aCase 86 = .ok (.lload_n 3, 1) := by decide +kernel
theorem dX6_aCase_87 : decode cX6_aCase 87 = .ok (.invokestatic 199, 3) := by decide +kernel
theorem dX6_aCase_90 : decode cX6_aCase 90 = .ok (.ireturn, 1) := by decide +kernel
theorem dX6_aCase_91 : decode cX6_aCase 91 = .ok (.aload_n 0, 1) := by decide +kernel
theorem dX6_aCase_92 : decode cX6_aCase 92 = .ok (.getfield 26, 3) := by decide +kernel
theorem dX6_aCase_95 : decode cX6_aCase 95 = .ok (.iload_n 1, 1) := by decide +kernel
theorem dX6_aCase_96 : decode cX6_aCase 96 = .ok (.invokevirtual 202, 3) := by decide +kernel
theorem dX6_aCase_99 : decode cX6_aCase 99 = .ok (.ireturn, 1) := by decide +kernel
theorem dX6_aCase_100 : decode cX6_aCase 100 = .ok (.aload_n 0, 1) := by decide +kernel
theorem dX6_aCase_101 : decode cX6_aCase 101 = .ok (.getfield 26, 3) := by decide +kernel
theorem dX6_aCase_104 : decode cX6_aCase 104 = .ok (.iload_n 1, 1) := by decide +kernel
theorem dX6_aCase_105 : decode cX6_aCase 105 = .ok (.invokevirtual 205, 3) := by decide +kernel
theorem dX6_aCase_108 : decode cX6_aCase 108 = .ok (.ifCond .eq 7, 3) := by decide +kernel
theorem dX6_aCase_111 : decode cX6_aCase 111 = .ok (.iconst 1, 1) := by decide +kernel
theorem dX6_aCase_112 : decode cX6_aCase 112 = .ok (.goto 4, 3) := by decide +kernel
theorem dX6_aCase_115 : decode cX6_aCase 115 = .ok (.iconst 0, 1) := by decide +kernel
theorem dX6_aCase_116 : decode cX6_aCase 116 = .ok (.ireturn, 1) := by decide +kernel
theorem dX6_aCase_117 : decode cX6_aCase 117 = .ok (.aload_n 0, 1) := by decide +kernel
theorem dX6_aCase_118 : decode cX6_aCase 118 = .ok (.getfield 26, 3) := by decide +kernel
theorem dX6_aCase_121 : decode cX6_aCase 121 = .ok (.iload_n 1, 1) := by decide +kernel
theorem dX6_aCase_122 : decode cX6_aCase 122 = .ok (.invokevirtual 208, 3) := by decide +kernel
theorem dX6_aCase_125 : decode cX6_aCase 125 = .ok (.ireturn, 1) := by decide +kernel
theorem dX6_aCase_126 : decode cX6_aCase 126 = .ok (.aload_n 0, 1) := by decide +kernel
theorem dX6_aCase_127 : decode cX6_aCase 127 = .ok (.getfield 26, 3) := by decide +kernel
theorem dX6_aCase_130 : decode cX6_aCase 130 = .ok (.iload_n 1, 1) := by decide +kernel
theorem dX6_aCase_131 : decode cX6_aCase 131 = .ok (.invokevirtual 211, 3) := by decide +kernel
theorem dX6_aCase_134 : decode cX6_aCase 134 = .ok (.ireturn, 1) := by decide +kernel
theorem dX6_aCase_135 : decode cX6_aCase 135 = .ok (.bipush (-2), 2) := by decide +kernel
theorem dX6_aCase_137 : decode cX6_aCase 137 = .ok (.ireturn, 1) := by decide +kernel
set_option maxRecDepth 20000 in
theorem ggX6_table_X4_study : GoodIn wsX6_table wsX4_study := goodIn_r _ [6, 7, 8, 9, 10, 11, 12, 13, 14, 15, 16, 17, 5, 18, 19, 20, 21, 22, 23, 24, 25, 26, 27, 28, 29, 30, 31, 32, 33, 34, 35, 36, 37, 38, 39, 40, 41, 42, 43, 44, 45, 46, 47, 48, 49, 50, 51, 52, 53, 54, 55, 56, 57, 58, 59, 60, 61, 62, 63, 64, 65, 66, 67, 68, 69, 70, 71, 72, 73, 74, 75, 76, 77, 78, 79, 80, 81, 82, 83, 84, 85, 86, 87, 88, 89, 90, 91, 92, 93, 94, 95, 96, 97, 98, 99, 100, 101, 102, 103, 104, 105, 106, 107, 108, 109, 110, 111, 112, 113, 114, 115, 116, 117, 118, 119, 120, 121, 122, 123, 124, 125, 126, 127, 128, 129, 130, 131, 132, 133, 134, 135, 136, 137, 138, 139, 140, 141, 142, 143, 144, 185, 186, 187, 188, 189, 190, 191, 192, 193, 194, 195, 196, 197, 198, 199, 200, 201, 202, 203, 204] (by decide +kernel) (by decide +kernel)
set_option maxRecDepth 20000 in
theorem gX6_table_X4_study : GoodIn wsX6_table (wsV RX6 146 RX4 yX4_study wsX4_study) := goodIn_app (goodIn_of _ (by decide +kernel)) ggX6_table_X4_study
set_option maxRecDepth 20000 in
theorem ggX6_table_X4_cases : GoodIn wsX6_table wsX4_cases := goodIn_r _ [148, 75, 185, 186, 187, 188, 189, 190, 191, 192, 193, 194, 195, 196, 197, 198, 199, 200] (by decide +kernel) (by decide +kernel)
set_option maxRecDepth 20000 in
theorem gX6_table_X4_cases : GoodIn wsX6_table (wsV RX6 187 RX4 yX4_cases wsX4_cases) := goodIn_app (goodIn_of _ (by decide +kernel)) ggX6_table_X4_cases
set_option maxRecDepth 20000 in
theorem ggX6_table_X4_rankOf : GoodIn wsX6_table wsX4_rankOf := goodIn_r _ [152, 75, 153, 154, 155, 5, 156, 157, 158, 159, 160, 8, 98, 57, 45, 46, 12, 47, 48, 161, 65, 51, 66, 162, 163, 164, 101, 102, 103, 165, 166, 167, 185, 186, 187, 188, 189, 190, 191, 192, 193, 194, 195, 196, 197, 198, 199, 200, 201, 202, 203, 204] (by decide +kernel) (by decide +kernel)
set_option maxRecDepth 20000 in
theorem gX6_table_X4_rankOf : GoodIn wsX6_table (wsV RX6 214 RX4 yX4_rankOf wsX4_rankOf) := goodIn_app (goodIn_of _ (by decide +kernel)) ggX6_table_X4_rankOf
theorem dX6_table_0 : decode cX6_table 0 = .ok (.aload_n 0, 1) := by decide +kernel
theorem dX6_table_1 : decode cX6_table 1 = .ok (.getfield 26, 3) := by decide +kernel
theorem dX6_table_4 : decode cX6_table 4 = .ok (.invokevirtual 146, 3) := by decide +kernel
theorem dX6_table_7 : decode cX6_table 7 = .ok (.iconst 0, 1) := by decide +kernel
theorem dX6_table_8 : decode cX6_table 8 = .ok (.istore_n 2, 1) := by decide +kernel
theorem dX6_table_9 : decode cX6_table 9 = .ok (.iload_n 2, 1) := by decide +kernel
theorem dX6_table_10 : decode cX6_table 10 = .ok (.aload_n 0, 1) := by decide +kernel
theorem dX6_table_11 : decode cX6_table 11 = .ok (.getfield 26, 3) := by decide +kernel
theorem dX6_table_14 : decode cX6_table 14 = .ok (.invokevirtual 187, 3) := by decide +kernel
theorem dX6_table_17 : decode cX6_table 17 = .ok (.if_icmp .ge 23, 3) := by decide +kernel
theorem dX6_table_20 : decode cX6_table 20 = .ok (.aload_n 0, 1) := by decide +kernel
theorem dX6_table_21 : decode cX6_table 21 = .ok (.getfield 26, 3) := by decide +kernel
theorem dX6_table_24 : decode cX6_table 24 = .ok (.iload_n 2, 1) := by decide +kernel
theorem dX6_table_25 : decode cX6_table 25 = .ok (.invokevirtual 214, 3) := by decide +kernel
theorem dX6_table_28 : decode cX6_table 28 = .ok (.iload_n 1, 1) := by decide +kernel
theorem dX6_table_29 : decode cX6_table 29 = .ok (.if_icmp .ne 5, 3) := by decide +kernel
theorem dX6_table_32 : decode cX6_table 32 = .ok (.iload_n 2, 1) := by decide +kernel
theorem dX6_table_33 : decode cX6_table 33 = .ok (.ireturn, 1) := by decide +kernel
theorem dX6_table_34 : decode cX6_table 34 = .ok (.iinc 2 1, 3) := by decide +kernel
theorem dX6_table_37 : decode cX6_table 37 = .ok (.goto (-28), 3) := by decide +kernel
theorem dX6_table_40 : decode cX6_table 40 = .ok (.iconst (-1), 1) := by decide +kernel
theorem dX6_table_41 : decode cX6_table 41 = .ok (.ireturn, 1) := by decide +kernel
set_option maxRecDepth 20000 in
theorem ggX6_shorter_X1_hasReference : GoodIn wsX6_shorter wsX1_hasReference := goodIn_r _ [6, 7, 8, 9, 5, 10, 11, 12, 230, 231, 232, 233] (by decide +kernel) (by decide +kernel)
set_option maxRecDepth 20000 in
theorem gX6_shorter_X1_hasReference : GoodIn wsX6_shorter (wsV RX6 101 RX1 yX1_hasReference wsX1_hasReference) := goodIn_app (goodIn_of _ (by decide +kernel)) ggX6_shorter_X1_hasReference
set_option maxRecDepth 20000 in
theorem ggX6_shorter_X4_study : GoodIn wsX6_shorter wsX4_study := goodIn_r _ [17, 18, 19, 20, 21, 22, 5, 23, 24, 25, 26, 27, 16, 28, 29, 30, 31, 32, 33, 34, 35, 36, 37, 38, 39, 40, 41, 42, 43, 44, 11, 7, 8, 9, 10, 12, 45, 46, 47, 48, 49, 50, 51, 52, 53, 54, 55, 56, 57, 58, 59, 60, 61, 62, 63, 64, 65, 66, 67, 68, 69, 70, 71, 72, 73, 74, 75, 76, 77, 78, 79, 80, 81, 82, 83, 84, 85, 86, 87, 88, 89, 90, 91, 92, 93, 94, 95, 96, 97, 98, 99, 100, 101, 102, 103, 104, 105, 106, 107, 108, 109, 110, 111, 112, 113, 114, 115, 116, 117, 118, 119, 120, 121, 122, 123, 124, 125, 126, 127, 128, 129, 130, 131, 132, 133, 134, 135, 136, 137, 138, 139, 140, 141, 142, 143, 144, 145, 146, 147, 148, 214, 215, 216, 217, 218, 219, 220, 221, 222, 223, 224, 225, 226, 227, 228, 229, 230, 231, 232, 233] (by decide +kernel) (by decide +kernel)
set_option maxRecDepth 20000 in
theorem gX6_shorter_X4_study : GoodIn wsX6_shorter (wsV RX6 146 RX4 yX4_study wsX4_study) := goodIn_app (goodIn_of _ (by decide +kernel)) ggX6_shorter_X4_study
set_option maxRecDepth 20000 in
theorem ggX6_shorter_X1_slotOf : GoodIn wsX6_shorter wsX1_slotOf := goodIn_r _ [47] (by decide +kernel) (by decide +kernel)
set_option maxRecDepth 20000 in
theorem gX6_shorter_X1_slotOf : GoodIn wsX6_shorter (va_wsS RX6 105 yX1_slotOf wsX1_slotOf) := goodIn_app (goodIn_of _ (by decide +kernel)) ggX6_shorter_X1_slotOf
set_option maxRecDepth 20000 in
theorem ggX6_shorter_X4_shortened : GoodIn wsX6_shorter wsX4_shortened := goodIn_r _ [153, 19, 61, 49, 50, 5, 51, 52, 121, 122, 123, 16, 124, 104, 57, 58, 59, 60, 39, 154, 155, 156, 157, 158, 159, 55, 160, 68, 69, 70, 65, 66, 67, 161, 162, 163, 164, 141, 142, 143, 144, 93, 46, 47, 108, 8, 9, 10, 11, 12, 165, 166, 167, 168, 169, 170, 171, 172, 79, 102, 105, 106, 107, 116, 117, 118, 119, 80, 173, 174, 175, 176, 177, 178, 179, 145, 146, 147, 148, 34, 180, 181, 182, 183, 184, 185, 186, 187, 188, 189, 190, 214, 215, 216, 217, 218, 219, 220, 221, 222, 223, 224, 225, 226, 227, 228, 229, 230, 231, 232, 233] (by decide +kernel) (by decide +kernel)
set_option maxRecDepth 20000 in
theorem gX6_shorter_X4_shortened : GoodIn wsX6_shorter (wsV RX6 156 RX4 yX4_shortened wsX4_shortened) := goodIn_app (goodIn_of _ (by decide +kernel)) ggX6_shorter_X4_shortened
set_option maxRecDepth 20000 in
theorem ggX6_shorter_X0_form : GoodIn wsX6_shorter wsX0_form := goodIn_r _ [56] (by decide +kernel) (by decide +kernel)
set_option maxRecDepth 20000 in
theorem gX6_shorter_X0_form : GoodIn wsX6_shorter (va_wsS RX6 113 yX0_form wsX0_form) := goodIn_app (goodIn_of _ (by decide +kernel)) ggX6_shorter_X0_form
set_option maxRecDepth 20000 in
theorem ggX6_shorter_X0_width : GoodIn wsX6_shorter wsX0_width := goodIn_r _ [194, 195, 185, 55, 186, 196, 54, 56, 65, 66, 67] (by decide +kernel) (by decide +kernel)
set_option maxRecDepth 20000 in
theorem gX6_shorter_X0_width : GoodIn wsX6_shorter (va_wsS RX6 217 yX0_width wsX0_width) := goodIn_app (goodIn_of _ (by decide +kernel)) ggX6_shorter_X0_width
theorem dX6_shorter_0 : decode cX6_shorter 0 = .ok (.aload_n 0, 1) := by decide +kernel
theorem dX6_shorter_1 : decode cX6_shorter 1 = .ok (.getfield 26, 3) := by decide +kernel
theorem dX6_shorter_4 : decode cX6_shorter 4 = .ok (.getfield 87, 3) := by decide +kernel
theorem dX6_shorter_7 : decode cX6_shorter 7 = .ok (.iload_n 1, 1) := by decide +kernel
theorem dX6_shorter_8 : decode cX6_shorter 8 = .ok (.iload_n 2, 1) := by decide +kernel
theorem dX6_shorter_9 : decode cX6_shorter 9 = .ok (.invokevirtual 101, 3) := by decide +kernel
theorem dX6_shorter_12 : decode cX6_shorter 12 = .ok (.ifCond .ne 5, 3) := by decide +kernel
theorem dX6_shorter_15 : decode cX6_shorter 15 = .ok (.iconst (-1), 1) := by decide +kernel
theorem dX6_shorter_16 : decode cX6_shorter 16 = .ok (.ireturn, 1) := by decide +kernel
theorem dX6_shorter_17 : decode cX6_shorter 17 = .ok (.iload_n 3, 1) := by decide +kernel
theorem dX6_shorter_18 : decode cX6_shorter 18 = .ok (.ifCond .lt 8, 3) := by decide +kernel
theorem dX6_shorter_21 : decode cX6_shorter 21 = .ok (.iload_n 3, 1) := by decide +kernel
theorem dX6_shorter_22 : decode cX6_shorter 22 = .ok (.iconst 1, 1) := by decide +kernel
theorem dX6_shorter_23 : decode cX6_shorter 23 = .ok (.if_icmp .le 6, 3) := by decide +kernel
theorem dX6_shorter_26 : decode cX6_shorter 26 = .ok (.bipush (-2), 2) := by decide +kernel
theorem dX6_shorter_28 : decode cX6_shorter 28 = .ok (.ireturn, 1) := by decide +kernel
theorem dX6_shorter_29 : decode cX6_shorter 29 = .ok (.aload_n 0, 1) := by decide +kernel
theorem dX6_shorter_30 : decode cX6_shorter 30 = .ok (.getfield 26, 3) := by decide +kernel
theorem dX6_shorter_33 : decode cX6_shorter 33 = .ok (.invokevirtual 146, 3) := by decide +kernel
theorem dX6_shorter_36 : decode cX6_shorter 36 = .ok (.aload_n 0, 1) := by decide +kernel
theorem dX6_shorter_37 : decode cX6_shorter 37 = .ok (.getfield 26, 3) := by decide +kernel
theorem dX6_shorter_40 : decode cX6_shorter 40 = .ok (.iload_n 1, 1) := by decide +kernel
theorem dX6_shorter_41 : decode cX6_shorter 41 = .ok (.iload_n 2, 1) := by decide +kernel
theorem dX6_shorter_42 : decode cX6_shorter 42 = .ok (.invokestatic 105, 3) := by decide +kernel
theorem dX6_shorter_45 : decode cX6_shorter 45 = .ok (.invokevirtual 156, 3) := by decide +kernel
theorem dX6_shorter_48 : decode cX6_shorter 48 = .ok (.lstore 4, 2) := by decide +kernel
theorem dX6_shorter_50 : decode cX6_shorter 50 = .ok (.iload_n 3, 1) := by decide +kernel
theorem dX6_shorter_51 : decode cX6_shorter 51 = .ok (.ifCond .ne 11, 3) := by decide +kernel
theorem dX6_shorter_54 : decode cX6_shorter 54 = .ok (.lload 4, 2) := by decide +kernel
theorem dX6_shorter_56 : decode cX6_shorter 56 = .ok (.invokestatic 113, 3) := by decide +kernel
theorem dX6_shorter_59 : decode cX6_shorter 59 = .ok (.goto 8, 3) := by decide +kernel
theorem dX6_shorter_62 : decode cX6_shorter 62 = .ok (.lload 4, 2) := by decide +kernel
theorem dX6_shorter_64 : decode cX6_shorter 64 = .ok (.invokestatic 217, 3) := by decide +kernel
theorem dX6_shorter_67 : decode cX6_shorter 67 = .ok (.ireturn, 1) := by decide +kernel
set_option maxRecDepth 20000 in
theorem ggX6_print_X6_fillSheet : GoodIn wsX6_print wsX6_fillSheet := goodIn_r _ [6, 7, 1, 8, 9, 10, 11, 12, 13, 14, 15, 16, 17, 18, 19, 20, 21, 22, 23, 24, 25, 26, 27, 28, 29, 30, 31, 32, 33, 34, 35, 36, 37, 38, 39, 40, 41, 42, 43, 44, 45, 46, 47, 48, 49, 50, 51, 52, 53, 54, 55, 56, 57, 58, 59, 60, 61, 62, 63, 64, 65, 66, 67, 68, 69, 70, 71, 72, 73, 74, 75, 76, 77, 78, 79, 80, 81, 82, 83, 84, 85, 86, 87, 88, 89, 90, 91, 92, 93, 94, 95, 96, 97, 98, 99, 100, 101, 102, 103, 104, 105, 106, 107, 108, 109, 110, 111, 112, 113, 114, 115, 116, 117, 118, 119, 120, 121, 122, 123, 124, 125, 126, 127, 128, 129, 130, 131, 132, 133, 134, 135, 136, 137, 138, 139, 140, 141, 142, 143, 144, 145, 146, 147, 148, 149, 150, 151, 152, 153, 154, 155, 156, 157, 158, 159, 160, 161, 162, 163, 164, 165, 166, 167, 168, 169, 170, 171, 172, 173, 174, 175, 176, 177, 178, 179, 180, 181, 182, 183, 184, 185, 186, 187, 188, 189, 190, 191, 192, 193, 194, 195, 196, 197, 198, 199, 200, 201, 202, 203, 204, 205, 206, 207, 208, 209, 210, 211, 212, 213, 214, 215, 216, 217, 218, 219, 220, 221, 222, 223, 224, 225, 226, 5, 227, 228, 229, 230, 231, 232, 233, 234, 243, 244, 245, 246, 247, 248, 249, 250, 251, 252, 253, 254, 255, 256, 257, 258, 259, 260, 261, 262, 263, 264, 265, 266, 267, 268, 269, 270, 271, 272, 273, 274, 275, 276, 277, 278, 279, 280, 281] (by decide +kernel) (by decide +kernel)
set_option maxRecDepth 20000 in
theorem gX6_print_X6_fillSheet : GoodIn wsX6_print (wsV RX6 220 RX6 yX6_fillSheet wsX6_fillSheet) := goodIn_app (goodIn_of _ (by decide +kernel)) ggX6_print_X6_fillSheet
set_option maxRecDepth 20000 in
theorem ggX6_print_X2_length : GoodIn wsX6_print wsX2_length := goodIn_r _ [238, 156, 280, 281] (by decide +kernel) (by decide +kernel)
set_option maxRecDepth 20000 in
theorem gX6_print_X2_length : GoodIn wsX6_print (wsV RX6 223 RX2 yX2_length wsX2_length) := goodIn_app (goodIn_of _ (by decide +kernel)) ggX6_print_X2_length
set_option maxRecDepth 20000 in
theorem ggX6_print_X2_signAt : GoodIn wsX6_print wsX2_signAt := goodIn_r _ [242, 156, 162, 280, 281] (by decide +kernel) (by decide +kernel)
set_option maxRecDepth 20000 in
theorem gX6_print_X2_signAt : GoodIn wsX6_print (wsV RX6 224 RX2 yX2_signAt wsX2_signAt) := goodIn_app (goodIn_of _ (by decide +kernel)) ggX6_print_X2_signAt
theorem dX6_print_0 : decode cX6_print 0 = .ok (.iload_n 1, 1) := by decide +kernel
theorem dX6_print_1 : decode cX6_print 1 = .ok (.ifCond .lt 13, 3) := by decide +kernel
theorem dX6_print_4 : decode cX6_print 4 = .ok (.iload_n 1, 1) := by decide +kernel
theorem dX6_print_5 : decode cX6_print 5 = .ok (.iconst 1, 1) := by decide +kernel
theorem dX6_print_6 : decode cX6_print 6 = .ok (.if_icmp .gt 8, 3) := by decide +kernel
theorem dX6_print_9 : decode cX6_print 9 = .ok (.iload_n 2, 1) := by decide +kernel
theorem dX6_print_10 : decode cX6_print 10 = .ok (.iconst (-1), 1) := by decide +kernel
theorem dX6_print_11 : decode cX6_print 11 = .ok (.if_icmp .ge 6, 3) := by decide +kernel
theorem dX6_print_14 : decode cX6_print 14 = .ok (.bipush (-2), 2) := by decide +kernel
theorem dX6_print_16 : decode cX6_print 16 = .ok (.ireturn, 1) := by decide +kernel
theorem dX6_print_17 : decode cX6_print 17 = .ok (.aload_n 0, 1) := by decide +kernel
theorem dX6_print_18 : decode cX6_print 18 = .ok (.iload_n 1, 1) := by decide +kernel
theorem dX6_print_19 : decode cX6_print 19 = .ok (.invokevirtual 220, 3) := by decide +kernel
theorem dX6_print_22 : decode cX6_print 22 = .ok (.iload_n 2, 1) := by decide +kernel
theorem dX6_print_23 : decode cX6_print 23 = .ok (.iconst (-1), 1) := by decide +kernel
theorem dX6_print_24 : decode cX6_print 24 = .ok (.if_icmp .ne 13, 3) := by decide +kernel
theorem dX6_print_27 : decode cX6_print 27 = .ok (.aload_n 0, 1) := by decide +kernel
theorem dX6_print_28 : decode cX6_print 28 = .ok (.getfield 36, 3) := by decide +kernel
theorem dX6_print_31 : decode cX6_print 31 = .ok (.invokevirtual 223, 3) := by decide +kernel
theorem dX6_print_34 : decode cX6_print 34 = .ok (.goto 11, 3) := by decide +kernel
theorem dX6_print_37 : decode cX6_print 37 = .ok (.aload_n 0, 1) := by decide +kernel
theorem dX6_print_38 : decode cX6_print 38 = .ok (.getfield 36, 3) := by decide +kernel
theorem dX6_print_41 : decode cX6_print 41 = .ok (.iload_n 2, 1) := by decide +kernel
theorem dX6_print_42 : decode cX6_print 42 = .ok (.invokevirtual 224, 3) := by decide +kernel
theorem dX6_print_45 : decode cX6_print 45 = .ok (.ireturn, 1) := by decide +kernel
set_option maxRecDepth 20000 in
theorem ggX6_fillSheet_X4_study : GoodIn wsX6_fillSheet wsX4_study := goodIn_r _ [7, 8, 9, 10, 11, 12, 13, 14, 15, 16, 17, 18, 6, 19, 20, 21, 22, 23, 24, 25, 26, 27, 28, 29, 30, 31, 32, 33, 34, 35, 36, 37, 38, 39, 40, 41, 42, 43, 44, 45, 46, 47, 48, 49, 50, 51, 52, 53, 54, 55, 56, 57, 58, 59, 60, 61, 62, 63, 64, 65, 66, 67, 68, 69, 70, 71, 72, 73, 74, 75, 76, 77, 78, 79, 80, 81, 82, 83, 84, 85, 86, 87, 88, 89, 90, 91, 92, 93, 94, 95, 96, 97, 98, 99, 100, 101, 102, 103, 104, 105, 106, 107, 108, 109, 110, 111, 112, 113, 114, 115, 116, 117, 118, 119, 120, 121, 122, 123, 124, 125, 126, 127, 128, 129, 130, 131, 132, 133, 134, 135, 136, 137, 138, 139, 140, 141, 142, 143, 144, 145, 248, 249, 250, 251, 252, 253, 254, 255, 256, 257, 258, 259, 260, 261, 262, 263, 264, 265, 266, 267] (by decide +kernel) (by decide +kernel)
set_option maxRecDepth 20000 in
theorem gX6_fillSheet_X4_study : GoodIn wsX6_fillSheet (wsV RX6 146 RX4 yX4_study wsX4_study) := goodIn_app (goodIn_of _ (by decide +kernel)) ggX6_fillSheet_X4_study
set_option maxRecDepth 20000 in
theorem ggX6_fillSheet_X2_clear : GoodIn wsX6_fillSheet wsX2_clear := goodIn_r _ [150, 151, 268, 269] (by decide +kernel) (by decide +kernel)
set_option maxRecDepth 20000 in
theorem gX6_fillSheet_X2_clear : GoodIn wsX6_fillSheet (wsV RX6 227 RX2 yX2_clear wsX2_clear) := goodIn_app (goodIn_of _ (by decide +kernel)) ggX6_fillSheet_X2_clear
set_option maxRecDepth 20000 in
theorem ggX6_fillSheet_X1_notes : GoodIn wsX6_fillSheet wsX1_notes := goodIn_r _ [71, 36, 264, 265, 266, 267] (by decide +kernel) (by decide +kernel)
set_option maxRecDepth 20000 in
theorem gX6_fillSheet_X1_notes : GoodIn wsX6_fillSheet (wsV RX6 98 RX1 yX1_notes wsX1_notes) := goodIn_app (goodIn_of _ (by decide +kernel)) ggX6_fillSheet_X1_notes
set_option maxRecDepth 20000 in
theorem ggX6_fillSheet_X2_addSign : GoodIn wsX6_fillSheet wsX2_addSign := goodIn_r _ [156, 151, 157, 268, 269] (by decide +kernel) (by decide +kernel)
set_option maxRecDepth 20000 in
theorem gX6_fillSheet_X2_addSign : GoodIn wsX6_fillSheet (wsV RX6 228 RX2 yX2_addSign wsX2_addSign) := goodIn_app (goodIn_of _ (by decide +kernel)) ggX6_fillSheet_X2_addSign
set_option maxRecDepth 20000 in
theorem ggX6_fillSheet_X1_size : GoodIn wsX6_fillSheet wsX1_size := goodIn_r _ [40, 36, 41, 264, 265, 266, 267] (by decide +kernel) (by decide +kernel)
set_option maxRecDepth 20000 in
theorem gX6_fillSheet_X1_size : GoodIn wsX6_fillSheet (wsV RX6 231 RX1 yX1_size wsX1_size) := goodIn_app (goodIn_of _ (by decide +kernel)) ggX6_fillSheet_X1_size
set_option maxRecDepth 20000 in
theorem ggX6_fillSheet_X1_slotOf : GoodIn wsX6_fillSheet wsX1_slotOf := goodIn_r _ [44] (by decide +kernel) (by decide +kernel)
set_option maxRecDepth 20000 in
theorem gX6_fillSheet_X1_slotOf : GoodIn wsX6_fillSheet (va_wsS RX6 105 yX1_slotOf wsX1_slotOf) := goodIn_app (goodIn_of _ (by decide +kernel)) ggX6_fillSheet_X1_slotOf
set_option maxRecDepth 20000 in
theorem ggX6_fillSheet_X1_cite : GoodIn wsX6_fillSheet wsX1_cite := goodIn_r _ [48, 49, 264, 265, 266, 267] (by decide +kernel) (by decide +kernel)
set_option maxRecDepth 20000 in
theorem gX6_fillSheet_X1_cite : GoodIn wsX6_fillSheet (wsV RX6 109 RX1 yX1_cite wsX1_cite) := goodIn_app (goodIn_of _ (by decide +kernel)) ggX6_fillSheet_X1_cite
set_option maxRecDepth 20000 in
theorem ggX6_fillSheet_X4_shortened : GoodIn wsX6_fillSheet wsX4_shortened := goodIn_r _ [164, 9, 58, 46, 47, 13, 48, 49, 118, 119, 120, 6, 121, 101, 54, 55, 56, 57, 30, 165, 166, 167, 168, 169, 170, 52, 171, 65, 66, 67, 62, 63, 64, 172, 173, 174, 175, 138, 139, 140, 141, 90, 43, 44, 105, 38, 39, 40, 36, 41, 176, 177, 178, 179, 180, 181, 182, 183, 76, 99, 102, 103, 104, 113, 114, 115, 116, 77, 184, 185, 186, 187, 188, 189, 190, 142, 143, 144, 145, 25, 191, 192, 193, 194, 195, 196, 197, 198, 199, 200, 201, 248, 249, 250, 251, 252, 253, 254, 255, 256, 257, 258, 259, 260, 261, 262, 263, 264, 265, 266, 267] (by decide +kernel) (by decide +kernel)
set_option maxRecDepth 20000 in
theorem gX6_fillSheet_X4_shortened : GoodIn wsX6_fillSheet (wsV RX6 156 RX4 yX4_shortened wsX4_shortened) := goodIn_app (goodIn_of _ (by decide +kernel)) ggX6_fillSheet_X4_shortened
set_option maxRecDepth 20000 in
theorem ggX6_fillSheet_X2_addCite : GoodIn wsX6_fillSheet wsX2_addCite := goodIn_r _ [205, 206, 51, 52, 53, 207, 208, 209, 149, 210, 211, 103, 104, 212, 154, 155, 156, 151, 157, 213, 214, 215, 216, 66, 67, 217, 218, 219, 220, 221, 222, 223, 224, 225, 226, 227, 228, 63, 64, 229, 111, 112, 230, 196, 197, 268, 269] (by decide +kernel) (by decide +kernel)
set_option maxRecDepth 20000 in
theorem gX6_fillSheet_X2_addCite : GoodIn wsX6_fillSheet (wsV RX6 234 RX2 yX2_addCite wsX2_addCite) := goodIn_app (goodIn_of _ (by decide +kernel)) ggX6_fillSheet_X2_addCite
theorem dX6_fillSheet_0 : decode cX6_fillSheet 0 = .ok (.aload_n 0, 1) := by decide +kernel
theorem dX6_fillSheet_1 : decode cX6_fillSheet 1 = .ok (.getfield 26, 3) := by decide +kernel
theorem dX6_fillSheet_4 : decode cX6_fillSheet 4 = .ok (.invokevirtual 146, 3) := by decide +kernel
theorem dX6_fillSheet_7 : decode cX6_fillSheet 7 = .ok (.aload_n 0, 1) := by decide +kernel
theorem dX6_fillSheet_8 : decode cX6_fillSheet 8 = .ok (.getfield 36, 3) := by decide +kernel
theorem dX6_fillSheet_11 : decode cX6_fillSheet 11 = .ok (.invokevirtual 227, 3) := by decide +kernel
theorem dX6_fillSheet_14 : decode cX6_fillSheet 14 = .ok (.iconst 0, 1) := by decide +kernel
theorem dX6_fillSheet_15 : decode cX6_fillSheet 15 = .ok (.istore_n 2, 1) := by decide +kernel
theorem dX6_fillSheet_16 : decode cX6_fillSheet 16 = .ok (.iload_n 2, 1) := by decide +kernel
theorem dX6_fillSheet_17 : decode cX6_fillSheet 17 = .ok (.aload_n 0, 1) := by decide +kernel
theorem dX6_fillSheet_18 : decode cX6_fillSheet 18 = .ok (.getfield 26, 3) := by decide +kernel
theorem dX6_fillSheet_21 : decode cX6_fillSheet 21 = .ok (.getfield 87, 3) := by decide +kernel
theorem dX6_fillSheet_24 : decode cX6_fillSheet 24 = .ok (.invokevirtual 98, 3) := by decide +kernel
theorem dX6_fillSheet_27 : decode cX6_fillSheet 27 = .ok (.if_icmp .ge 100, 3) := by decide +kernel
theorem dX6_fillSheet_30 : decode cX6_fillSheet 30 = .ok (.iload_n 2, 1) := by decide +kernel
theorem dX6_fillSheet_31 : decode cX6_fillSheet 31 = .ok (.ifCond .le 12, 3) := by decide +kernel
theorem dX6_fillSheet_34 : decode cX6_fillSheet 34 = .ok (.aload_n 0, 1) := by decide +kernel
theorem dX6_fillSheet_35 : decode cX6_fillSheet 35 = .ok (.getfield 36, 3) := by decide +kernel
theorem dX6_fillSheet_38 : decode cX6_fillSheet 38 = .ok (.bipush 59, 2) := by decide +kernel
theorem dX6_fillSheet_40 : decode cX6_fillSheet 40 = .ok (.invokevirtual 228, 3) := by decide +kernel
theorem dX6_fillSheet_43 : decode cX6_fillSheet 43 = .ok (.iconst 0, 1) := by decide +kernel
theorem dX6_fillSheet_44 : decode cX6_fillSheet 44 = .ok (.istore_n 3, 1) := by decide +kernel
theorem dX6_fillSheet_45 : decode cX6_fillSheet 45 = .ok (.iload_n 3, 1) := by decide +kernel
theorem dX6_fillSheet_46 : decode cX6_fillSheet 46 = .ok (.aload_n 0, 1) := by decide +kernel
theorem dX6_fillSheet_47 : decode cX6_fillSheet 47 = .ok (.getfield 26, 3) := by decide +kernel
theorem dX6_fillSheet_50 : decode cX6_fillSheet 50 = .ok (.getfield 87, 3) := by decide +kernel
theorem dX6_fillSheet_53 : decode cX6_fillSheet 53 = .ok (.iload_n 2, 1) := by decide +kernel
theorem dX6_fillSheet_54 : decode cX6_fillSheet 54 = .ok (.invokevirtual 231, 3) := by decide +kernel
theorem dX6_fillSheet_57 : decode cX6_fillSheet 57 = .ok (.if_icmp .ge 64, 3) := by decide +kernel
theorem dX6_fillSheet_60 : decode cX6_fillSheet 60 = .ok (.iload_n 3, 1) := by decide +kernel
theorem dX6_fillSheet_61 : decode cX6_fillSheet 61 = .ok (.ifCond .le 12, 3) := by decide +kernel
theorem dX6_fillSheet_64 : decode cX6_fillSheet 64 = .ok (.aload_n 0, 1) := by decide +kernel
theorem dX6_fillSheet_65 : decode cX6_fillSheet 65 = .ok (.getfield 36, 3) := by decide +kernel
theorem dX6_fillSheet_68 : decode cX6_fillSheet 68 = .ok (.bipush 44, 2) := by decide +kernel
theorem dX6_fillSheet_70 : decode cX6_fillSheet 70 = .ok (.invokevirtual 228, 3) := by decide +kernel
theorem dX6_fillSheet_73 : decode cX6_fillSheet 73 = .ok (.iload_n 2, 1) := by decide +kernel
theorem dX6_fillSheet_74 : decode cX6_fillSheet 74 = .ok (.iload_n 3, 1) := by decide +kernel
theorem dX6_fillSheet_75 : decode cX6_fillSheet 75 = .ok (.invokestatic 105, 3) := by decide +kernel
theorem dX6_fillSheet_78 : decode cX6_fillSheet 78 = .ok (.istore 4, 2) := by decide +kernel
theorem dX6_fillSheet_80 : decode cX6_fillSheet 80 = .ok (.aload_n 0, 1) := by decide +kernel
theorem dX6_fillSheet_81 : decode cX6_fillSheet 81 = .ok (.getfield 36, 3) := by decide +kernel
theorem dX6_fillSheet_84 : decode cX6_fillSheet 84 = .ok (.iload_n 1, 1) := by decide +kernel
theorem dX6_fillSheet_85 : decode cX6_fillSheet 85 = .ok (.ifCond .ne 18, 3) := by decide +kernel
theorem dX6_fillSheet_88 : decode cX6_fillSheet 88 = .ok (.aload_n 0, 1) := by decide +kernel
theorem dX6_fillSheet_89 : decode cX6_fillSheet 89 = .ok (.getfield 26, 3) := by decide +kernel
theorem dX6_fillSheet_92 : decode cX6_fillSheet 92 = .ok (.getfield 87, 3) := by decide +kernel
theorem dX6_fillSheet_95 : decode cX6_fillSheet 95 = .ok (.iload 4, 2) := by decide +kernel
theorem dX6_fillSheet_97 : decode cX6_fillSheet 97 = .ok (.invokevirtual 109, 3) := by decide +kernel
theorem dX6_fillSheet_100 : decode cX6_fillSheet 100 = .ok (.goto 12, 3) := by decide +kernel
theorem dX6_fillSheet_103 : decode cX6_fillSheet 103 = .ok (.aload_n 0, 1) := by decide +kernel
theorem dX6_fillSheet_104 : decode cX6_fillSheet 104 = .ok (.getfield 26, 3) := by decide +kernel
theorem dX6_fillSheet_107 : decode cX6_fillSheet 107 = .ok (.iload 4, 2) := by decide +kernel
theorem dX6_fillSheet_109 : decode cX6_fillSheet 109 = .ok (.invokevirtual 156, 3) := by decide +kernel
theorem dX6_fillSheet_112 : decode cX6_fillSheet 112 = .ok (.invokevirtual 234, 3) := by decide +kernel
theorem dX6_fillSheet_115 : decode cX6_fillSheet 115 = .ok (.iinc 3 1, 3) := by decide +kernel
theorem dX6_fillSheet_118 : decode cX6_fillSheet 118 = .ok (.goto (-73), 3) := by decide +kernel
theorem dX6_fillSheet_121 : decode cX6_fillSheet 121 = .ok (.iinc 2 1, 3) := by decide +kernel
theorem dX6_fillSheet_124 : decode cX6_fillSheet 124 = .ok (.goto (-108), 3) := by decide +kernel
theorem dX6_fillSheet_127 : decode cX6_fillSheet 127 = .ok (.return_, 1) := by decide +kernel
set_option maxRecDepth 20000 in
theorem ggX6_judge_X6_actsFrom : GoodIn wsX6_judge wsX6_actsFrom := goodIn_r _ [7, 3] (by decide +kernel) (by decide +kernel)
set_option maxRecDepth 20000 in
theorem gX6_judge_X6_actsFrom : GoodIn wsX6_judge (va_wsS RX6 238 yX6_actsFrom wsX6_actsFrom) := goodIn_app (goodIn_of _ (by decide +kernel)) ggX6_judge_X6_actsFrom
set_option maxRecDepth 20000 in
theorem ggX6_judge_X1_copyFrom : GoodIn wsX6_judge wsX1_copyFrom := goodIn_r _ [12, 13, 14, 15, 16, 17, 18, 19, 20, 297, 298, 299, 300] (by decide +kernel) (by decide +kernel)
set_option maxRecDepth 20000 in
theorem gX6_judge_X1_copyFrom : GoodIn wsX6_judge (wsV RX6 90 RX1 yX1_copyFrom wsX1_copyFrom) := goodIn_app (goodIn_of _ (by decide +kernel)) ggX6_judge_X1_copyFrom
set_option maxRecDepth 20000 in
theorem ggX6_judge_X4_perform : GoodIn wsX6_judge wsX4_perform := goodIn_r _ [25, 26, 27, 28, 29, 30, 24, 31, 32, 33, 34, 35, 11, 36, 13, 37, 38, 39, 40, 41, 42, 43, 44, 45, 46, 47, 48, 49, 50, 51, 52, 53, 54, 55, 14, 56, 57, 58, 59, 15, 60, 61, 62, 63, 64, 65, 66, 20, 67, 68, 69, 70, 71, 72, 73, 74, 75, 76, 77, 78, 79, 80, 81, 82, 83, 84, 85, 86, 87, 88, 89, 90, 91, 92, 93, 94, 95, 96, 97, 98, 99, 100, 101, 102, 103, 104, 105, 106, 107, 108, 109, 110, 111, 112, 113, 114, 115, 116, 117, 118, 119, 120, 121, 122, 123, 124, 125, 126, 127, 128, 129, 130, 131, 132, 133, 134, 135, 136, 137, 138, 139, 140, 141, 142, 143, 144, 145, 146, 147, 148, 149, 150, 151, 152, 153, 154, 155, 156, 157, 158, 159, 160, 161, 162, 163, 164, 165, 166, 167, 168, 169, 170, 171, 6, 172, 173, 174, 175, 176, 177, 178, 179, 180, 181, 182, 183, 184, 185, 186, 187, 188, 189, 190, 191, 192, 193, 194, 195, 196, 197, 198, 199, 200, 201, 202, 203, 204, 205, 206, 207, 208, 209, 210, 211, 212, 213, 214, 215, 216, 217, 218, 219, 220, 221, 222, 223, 224, 225, 226, 227, 228, 229, 230, 231, 232, 233, 234, 235, 236, 237, 238, 239, 240, 241, 242, 243, 244, 245, 246, 247, 248, 249, 250, 251, 252, 253, 254, 255, 256, 257, 258, 259, 260, 261, 262, 263, 281, 282, 283, 284, 285, 286, 287, 288, 289, 290, 291, 292, 293, 294, 295, 296, 297, 298, 299, 300] (by decide +kernel) (by decide +kernel)
set_option maxRecDepth 20000 in
theorem gX6_judge_X4_perform : GoodIn wsX6_judge (wsV RX6 244 RX4 yX4_perform wsX4_perform) := goodIn_app (goodIn_of _ (by decide +kernel)) ggX6_judge_X4_perform
theorem dX6_judge_0 : decode cX6_judge 0 = .ok (.iload_n 1, 1) := by decide +kernel
theorem dX6_judge_1 : decode cX6_judge 1 = .ok (.iconst 1, 1) := by decide +kernel
theorem dX6_judge_2 : decode cX6_judge 2 = .ok (.if_icmp .lt 24, 3) := by decide +kernel
theorem dX6_judge_5 : decode cX6_judge 5 = .ok (.iload_n 1, 1) := by decide +kernel
theorem dX6_judge_6 : decode cX6_judge 6 = .ok (.iconst 4, 1) := by decide +kernel
theorem dX6_judge_7 : decode cX6_judge 7 = .ok (.if_icmp .gt 19, 3) := by decide +kernel
theorem dX6_judge_10 : decode cX6_judge 10 = .ok (.lload_n 2, 1) := by decide +kernel
theorem dX6_judge_11 : decode cX6_judge 11 = .ok (.lconst 0, 1) := by decide +kernel
theorem dX6_judge_12 : decode cX6_judge 12 = .ok (.lcmp, 1) := by decide +kernel
theorem dX6_judge_13 : decode cX6_judge 13 = .ok (.ifCond .lt 13, 3) := by decide +kernel
theorem dX6_judge_16 : decode cX6_judge 16 = .ok (.lload_n 2, 1) := by decide +kernel
theorem dX6_judge_17 : decode cX6_judge 17 = .ok (.iload_n 1, 1) := by decide +kernel
theorem dX6_judge_18 : decode cX6_judge 18 = .ok (.invokestatic 238, 3) := by decide +kernel
theorem dX6_judge_21 : decode cX6_judge 21 = .ok (.lconst 0, 1) := by decide +kernel
theorem dX6_judge_22 : decode cX6_judge 22 = .ok (.lcmp, 1) := by decide +kernel
theorem dX6_judge_23 : decode cX6_judge 23 = .ok (.ifCond .eq 6, 3) := by decide +kernel
theorem dX6_judge_26 : decode cX6_judge 26 = .ok (.bipush (-2), 2) := by decide +kernel
theorem dX6_judge_28 : decode cX6_judge 28 = .ok (.ireturn, 1) := by decide +kernel
theorem dX6_judge_29 : decode cX6_judge 29 = .ok (.aload_n 0, 1) := by decide +kernel
theorem dX6_judge_30 : decode cX6_judge 30 = .ok (.getfield 30, 3) := by decide +kernel
theorem dX6_judge_33 : decode cX6_judge 33 = .ok (.getfield 87, 3) := by decide +kernel
theorem dX6_judge_36 : decode cX6_judge 36 = .ok (.aload_n 0, 1) := by decide +kernel
theorem dX6_judge_37 : decode cX6_judge 37 = .ok (.getfield 26, 3) := by decide +kernel
theorem dX6_judge_40 : decode cX6_judge 40 = .ok (.getfield 87, 3) := by decide +kernel
theorem dX6_judge_43 : decode cX6_judge 43 = .ok (.invokevirtual 90, 3) := by decide +kernel
theorem dX6_judge_46 : decode cX6_judge 46 = .ok (.iconst 0, 1) := by decide +kernel
theorem dX6_judge_47 : decode cX6_judge 47 = .ok (.istore 4, 2) := by decide +kernel
theorem dX6_judge_49 : decode cX6_judge 49 = .ok (.iload 4, 2) := by decide +kernel
theorem dX6_judge_51 : decode cX6_judge 51 = .ok (.iload_n 1, 1) := by decide +kernel
theorem dX6_judge_52 : decode cX6_judge 52 = .ok (.if_icmp .ge 41, 3) := by decide +kernel
theorem dX6_judge_55 : decode cX6_judge 55 = .ok (.lload_n 2, 1) := by decide +kernel
theorem dX6_judge_56 : decode cX6_judge 56 = .ok (.iload_n 1, 1) := by decide +kernel
theorem dX6_judge_57 : decode cX6_judge 57 = .ok (.iconst 1, 1) := by decide +kernel
theorem dX6_judge_58 : decode cX6_judge 58 = .ok (.isub, 1) := by decide +kernel
theorem dX6_judge_59 : decode cX6_judge 59 = .ok (.iload 4, 2) := by decide +kernel
theorem dX6_judge_61 : decode cX6_judge 61 = .ok (.isub, 1) := by decide +kernel
theorem dX6_judge_62 : decode cX6_judge 62 = .ok (.invokestatic 238, 3) := by decide +kernel
theorem dX6_judge_65 : decode cX6_judge 65 = .ok (.ldc2_w 242, 3) := by decide +kernel
theorem dX6_judge_68 : decode cX6_judge 68 = .ok (.lrem, 1) := by decide +kernel
theorem dX6_judge_69 : decode cX6_judge 69 = .ok (.l2i, 1) := by decide +kernel
theorem dX6_judge_70 : decode cX6_judge 70 = .ok (.istore 5, 2) := by decide +kernel
theorem dX6_judge_72 : decode cX6_judge 72 = .ok (.aload_n 0, 1) := by decide +kernel
theorem dX6_judge_73 : decode cX6_judge 73 = .ok (.getfield 30, 3) := by decide +kernel
theorem dX6_judge_76 : decode cX6_judge 76 = .ok (.iload 5, 2) := by decide +kernel
theorem dX6_judge_78 : decode cX6_judge 78 = .ok (.invokevirtual 244, 3) := by decide +kernel
theorem dX6_judge_81 : decode cX6_judge 81 = .ok (.ifCond .ne 6, 3) := by decide +kernel
theorem dX6_judge_84 : decode cX6_judge 84 = .ok (.iload 4, 2) := by decide +kernel
theorem dX6_judge_86 : decode cX6_judge 86 = .ok (.ireturn, 1) := by decide +kernel
theorem dX6_judge_87 : decode cX6_judge 87 = .ok (.iinc 4 1, 3) := by decide +kernel
theorem dX6_judge_90 : decode cX6_judge 90 = .ok (.goto (-41), 3) := by decide +kernel
theorem dX6_judge_93 : decode cX6_judge 93 = .ok (.bipush (-9), 2) := by decide +kernel
theorem dX6_judge_95 : decode cX6_judge 95 = .ok (.ireturn, 1) := by decide +kernel
theorem dX6_actsFrom_0 : decode cX6_actsFrom 0 = .ok (.lload_n 0, 1) := by decide +kernel
theorem dX6_actsFrom_1 : decode cX6_actsFrom 1 = .ok (.lstore_n 3, 1) := by decide +kernel
theorem dX6_actsFrom_2 : decode cX6_actsFrom 2 = .ok (.iconst 0, 1) := by decide +kernel
theorem dX6_actsFrom_3 : decode cX6_actsFrom 3 = .ok (.istore 5, 2) := by decide +kernel
theorem dX6_actsFrom_5 : decode cX6_actsFrom 5 = .ok (.iload 5, 2) := by decide +kernel
theorem dX6_actsFrom_7 : decode cX6_actsFrom 7 = .ok (.iload_n 2, 1) := by decide +kernel
theorem dX6_actsFrom_8 : decode cX6_actsFrom 8 = .ok (.if_icmp .ge 15, 3) := by decide +kernel
theorem dX6_actsFrom_11 : decode cX6_actsFrom 11 = .ok (.lload_n 3, 1) := by decide +kernel
theorem dX6_actsFrom_12 : decode cX6_actsFrom 12 = .ok (.ldc2_w 242, 3) := by decide +kernel
theorem dX6_actsFrom_15 : decode cX6_actsFrom 15 = .ok (.ldiv, 1) := by decide +kernel
theorem dX6_actsFrom_16 : decode cX6_actsFrom 16 = .ok (.lstore_n 3, 1) := by decide +kernel
theorem dX6_actsFrom_17 : decode cX6_actsFrom 17 = .ok (.iinc 5 1, 3) := by decide +kernel
theorem dX6_actsFrom_20 : decode cX6_actsFrom 20 = .ok (.goto (-15), 3) := by decide +kernel
theorem dX6_actsFrom_23 : decode cX6_actsFrom 23 = .ok (.lload_n 3, 1) := by decide +kernel
theorem dX6_actsFrom_24 : decode cX6_actsFrom 24 = .ok (.lreturn, 1) := by decide +kernel
theorem dX6_see_0 : decode cX6_see 0 = .ok (.iload_n 1, 1) := by decide +kernel
theorem dX6_see_1 : decode cX6_see 1 = .ok (.ifCond .lt 27, 3) := by decide +kernel
theorem dX6_see_4 : decode cX6_see 4 = .ok (.iload_n 1, 1) := by decide +kernel
theorem dX6_see_5 : decode cX6_see 5 = .ok (.iconst 4, 1) := by decide +kernel
theorem dX6_see_6 : decode cX6_see 6 = .ok (.if_icmp .gt 22, 3) := by decide +kernel
theorem dX6_see_9 : decode cX6_see 9 = .ok (.iload_n 2, 1) := by decide +kernel
theorem dX6_see_10 : decode cX6_see 10 = .ok (.ifCond .lt 18, 3) := by decide +kernel
theorem dX6_see_13 : decode cX6_see 13 = .ok (.iload_n 2, 1) := by decide +kernel
theorem dX6_see_14 : decode cX6_see 14 = .ok (.bipush 9, 2) := by decide +kernel
theorem dX6_see_16 : decode cX6_see 16 = .ok (.if_icmp .gt 12, 3) := by decide +kernel
theorem dX6_see_19 : decode cX6_see 19 = .ok (.iload_n 3, 1) := by decide +kernel
theorem dX6_see_20 : decode cX6_see 20 = .ok (.ifCond .lt 8, 3) := by decide +kernel
theorem dX6_see_23 : decode cX6_see 23 = .ok (.iload_n 3, 1) := by decide +kernel
theorem dX6_see_24 : decode cX6_see 24 = .ok (.iconst 1, 1) := by decide +kernel
theorem dX6_see_25 : decode cX6_see 25 = .ok (.if_icmp .le 6, 3) := by decide +kernel
theorem dX6_see_28 : decode cX6_see 28 = .ok (.bipush (-2), 2) := by decide +kernel
theorem dX6_see_30 : decode cX6_see 30 = .ok (.ireturn, 1) := by decide +kernel
theorem dX6_see_31 : decode cX6_see 31 = .ok (.aload_n 0, 1) := by decide +kernel
theorem dX6_see_32 : decode cX6_see 32 = .ok (.getfield 247, 3) := by decide +kernel
theorem dX6_see_35 : decode cX6_see 35 = .ok (.bipush 6, 2) := by decide +kernel
theorem dX6_see_37 : decode cX6_see 37 = .ok (.if_icmp .lt 6, 3) := by decide +kernel
theorem dX6_see_40 : decode cX6_see 40 = .ok (.bipush (-4), 2) := by decide +kernel
theorem dX6_see_42 : decode cX6_see 42 = .ok (.ireturn, 1) := by decide +kernel
theorem dX6_see_43 : decode cX6_see 43 = .ok (.aload_n 0, 1) := by decide +kernel
theorem dX6_see_44 : decode cX6_see 44 = .ok (.getfield 59, 3) := by decide +kernel
theorem dX6_see_47 : decode cX6_see 47 = .ok (.aload_n 0, 1) := by decide +kernel
theorem dX6_see_48 : decode cX6_see 48 = .ok (.getfield 247, 3) := by decide +kernel
theorem dX6_see_51 : decode cX6_see 51 = .ok (.iload_n 1, 1) := by decide +kernel
theorem dX6_see_52 : decode cX6_see 52 = .ok (.iastore, 1) := by decide +kernel
theorem dX6_see_53 : decode cX6_see 53 = .ok (.aload_n 0, 1) := by decide +kernel
theorem dX6_see_54 : decode cX6_see 54 = .ok (.getfield 62, 3) := by decide +kernel
theorem dX6_see_57 : decode cX6_see 57 = .ok (.aload_n 0, 1) := by decide +kernel
theorem dX6_see_58 : decode cX6_see 58 = .ok (.getfield 247, 3) := by decide +kernel
theorem dX6_see_61 : decode cX6_see 61 = .ok (.iload_n 2, 1) := by decide +kernel
theorem dX6_see_62 : decode cX6_see 62 = .ok (.iastore, 1) := by decide +kernel
theorem dX6_see_63 : decode cX6_see 63 = .ok (.aload_n 0, 1) := by decide +kernel
theorem dX6_see_64 : decode cX6_see 64 = .ok (.getfield 65, 3) := by decide +kernel
theorem dX6_see_67 : decode cX6_see 67 = .ok (.aload_n 0, 1) := by decide +kernel
theorem dX6_see_68 : decode cX6_see 68 = .ok (.getfield 247, 3) := by decide +kernel
theorem dX6_see_71 : decode cX6_see 71 = .ok (.iload_n 3, 1) := by decide +kernel
theorem dX6_see_72 : decode cX6_see 72 = .ok (.iastore, 1) := by decide +kernel
theorem dX6_see_73 : decode cX6_see 73 = .ok (.aload_n 0, 1) := by decide +kernel
theorem dX6_see_74 : decode cX6_see 74 = .ok (.dup, 1) := by decide +kernel
theorem dX6_see_75 : decode cX6_see 75 = .ok (.getfield 247, 3) := by decide +kernel
theorem dX6_see_78 : decode cX6_see 78 = .ok (.iconst 1, 1) := by decide +kernel
theorem dX6_see_79 : decode cX6_see 79 = .ok (.iadd, 1) := by decide +kernel
theorem dX6_see_80 : decode cX6_see 80 = .ok (.putfield 247, 3) := by decide +kernel
theorem dX6_see_83 : decode cX6_see 83 = .ok (.aload_n 0, 1) := by decide +kernel
theorem dX6_see_84 : decode cX6_see 84 = .ok (.getfield 247, 3) := by decide +kernel
theorem dX6_see_87 : decode cX6_see 87 = .ok (.ireturn, 1) := by decide +kernel
theorem dX6_unsee_0 : decode cX6_unsee 0 = .ok (.aload_n 0, 1) := by decide +kernel
theorem dX6_unsee_1 : decode cX6_unsee 1 = .ok (.getfield 247, 3) := by decide +kernel
theorem dX6_unsee_4 : decode cX6_unsee 4 = .ok (.istore_n 1, 1) := by decide +kernel
theorem dX6_unsee_5 : decode cX6_unsee 5 = .ok (.aload_n 0, 1) := by decide +kernel
theorem dX6_unsee_6 : decode cX6_unsee 6 = .ok (.iconst 0, 1) := by decide +kernel
theorem dX6_unsee_7 : decode cX6_unsee 7 = .ok (.putfield 247, 3) := by decide +kernel
theorem dX6_unsee_10 : decode cX6_unsee 10 = .ok (.iload_n 1, 1) := by decide +kernel
theorem dX6_unsee_11 : decode cX6_unsee 11 = .ok (.ireturn, 1) := by decide +kernel
set_option maxRecDepth 20000 in
theorem ggX6_which_X4_study : GoodIn wsX6_which wsX4_study := goodIn_r _ [6, 7, 8, 9, 10, 11, 12, 13, 14, 15, 16, 17, 5, 18, 19, 20, 21, 22, 23, 24, 25, 26, 27, 28, 29, 30, 31, 32, 33, 34, 35, 36, 37, 38, 39, 40, 41, 42, 43, 44, 45, 46, 47, 48, 49, 50, 51, 52, 53, 54, 55, 56, 57, 58, 59, 60, 61, 62, 63, 64, 65, 66, 67, 68, 69, 70, 71, 72, 73, 74, 75, 76, 77, 78, 79, 80, 81, 82, 83, 84, 85, 86, 87, 88, 89, 90, 91, 92, 93, 94, 95, 96, 97, 98, 99, 100, 101, 102, 103, 104, 105, 106, 107, 108, 109, 110, 111, 112, 113, 114, 115, 116, 117, 118, 119, 120, 121, 122, 123, 124, 125, 126, 127, 128, 129, 130, 131, 132, 133, 134, 135, 136, 137, 138, 139, 140, 141, 142, 143, 144, 208, 209, 210, 211, 212, 213, 214, 215, 216, 217, 218, 219, 220, 221, 222, 223, 224, 225, 226, 227] (by decide +kernel) (by decide +kernel)
set_option maxRecDepth 20000 in
theorem gX6_which_X4_study : GoodIn wsX6_which (wsV RX6 146 RX4 yX4_study wsX4_study) := goodIn_app (goodIn_of _ (by decide +kernel)) ggX6_which_X4_study
set_option maxRecDepth 20000 in
theorem ggX6_which_X4_cases : GoodIn wsX6_which wsX4_cases := goodIn_r _ [148, 75, 208, 209, 210, 211, 212, 213, 214, 215, 216, 217, 218, 219, 220, 221, 222, 223] (by decide +kernel) (by decide +kernel)
set_option maxRecDepth 20000 in
theorem gX6_which_X4_cases : GoodIn wsX6_which (wsV RX6 187 RX4 yX4_cases wsX4_cases) := goodIn_app (goodIn_of _ (by decide +kernel)) ggX6_which_X4_cases
set_option maxRecDepth 20000 in
theorem ggX6_which_X6_isPossible : GoodIn wsX6_which wsX6_isPossible := goodIn_r _ [153, 154, 155, 1, 156, 157, 158, 159, 160, 5, 161, 162, 163, 164, 165, 75, 8, 98, 57, 45, 46, 12, 47, 48, 101, 102, 51, 103, 166, 167, 168, 169, 170, 171, 172, 141, 142, 143, 144, 24, 173, 174, 175, 176, 177, 178, 179, 180, 181, 182, 183, 184, 99, 185, 65, 66, 186, 152, 187, 188, 62, 63, 189, 190, 191, 192, 193, 194, 195, 196, 197, 198, 199, 200, 201, 202, 203, 204, 205, 206, 207, 208, 209, 210, 211, 212, 213, 214, 215, 216, 217, 218, 219, 220, 221, 222, 223, 224, 225, 226, 227] (by decide +kernel) (by decide +kernel)
set_option maxRecDepth 20000 in
theorem gX6_which_X6_isPossible : GoodIn wsX6_which (wsV RX6 250 RX6 yX6_isPossible wsX6_isPossible) := goodIn_app (goodIn_of _ (by decide +kernel)) ggX6_which_X6_isPossible
theorem dX6_which_0 : decode cX6_which 0 = .ok (.iload_n 1, 1) := by decide +kernel
theorem dX6_which_1 : decode cX6_which 1 = .ok (.ifCond .lt 8, 3) := by decide +kernel
theorem dX6_which_4 : decode cX6_which 4 = .ok (.iload_n 1, 1) := by decide +kernel
theorem dX6_which_5 : decode cX6_which 5 = .ok (.iconst 1, 1) := by decide +kernel
theorem dX6_which_6 : decode cX6_which 6 = .ok (.if_icmp .le 6, 3) := by decide +kernel
theorem dX6_which_9 : decode cX6_which 9 = .ok (.bipush (-2), 2) := by decide +kernel
theorem dX6_which_11 : decode cX6_which 11 = .ok (.ireturn, 1) := by decide +kernel
theorem dX6_which_12 : decode cX6_which 12 = .ok (.aload_n 0, 1) := by decide +kernel
theorem dX6_which_13 : decode cX6_which 13 = .ok (.getfield 26, 3) := by decide +kernel
theorem dX6_which_16 : decode cX6_which 16 = .ok (.invokevirtual 146, 3) := by decide +kernel
theorem dX6_which_19 : decode cX6_which 19 = .ok (.iconst 0, 1) := by decide +kernel
theorem dX6_which_20 : decode cX6_which 20 = .ok (.istore_n 2, 1) := by decide +kernel
theorem dX6_which_21 : decode cX6_which 21 = .ok (.bipush (-9), 2) := by decide +kernel
theorem dX6_which_23 : decode cX6_which 23 = .ok (.istore_n 3, 1) := by decide +kernel
theorem dX6_which_24 : decode cX6_which 24 = .ok (.aload_n 0, 1) := by decide +kernel
theorem dX6_which_25 : decode cX6_which 25 = .ok (.getfield 26, 3) := by decide +kernel
theorem dX6_which_28 : decode cX6_which 28 = .ok (.invokevirtual 187, 3) := by decide +kernel
theorem dX6_which_31 : decode cX6_which 31 = .ok (.iconst 1, 1) := by decide +kernel
theorem dX6_which_32 : decode cX6_which 32 = .ok (.isub, 1) := by decide +kernel
theorem dX6_which_33 : decode cX6_which 33 = .ok (.istore 4, 2) := by decide +kernel
theorem dX6_which_35 : decode cX6_which 35 = .ok (.iload 4, 2) := by decide +kernel
theorem dX6_which_37 : decode cX6_which 37 = .ok (.ifCond .lt 27, 3) := by decide +kernel
theorem dX6_which_40 : decode cX6_which 40 = .ok (.aload_n 0, 1) := by decide +kernel
theorem dX6_which_41 : decode cX6_which 41 = .ok (.iload 4, 2) := by decide +kernel
theorem dX6_which_43 : decode cX6_which 43 = .ok (.invokevirtual 250, 3) := by decide +kernel
theorem dX6_which_46 : decode cX6_which 46 = .ok (.ifCond .ne 6, 3) := by decide +kernel
theorem dX6_which_49 : decode cX6_which 49 = .ok (.goto 9, 3) := by decide +kernel
theorem dX6_which_52 : decode cX6_which 52 = .ok (.iinc 2 1, 3) := by decide +kernel
theorem dX6_which_55 : decode cX6_which 55 = .ok (.iload 4, 2) := by decide +kernel
theorem dX6_which_57 : decode cX6_which 57 = .ok (.istore_n 3, 1) := by decide +kernel
theorem dX6_which_58 : decode cX6_which 58 = .ok (.iinc 4 (-1), 3) := by decide +kernel
theorem dX6_which_61 : decode cX6_which 61 = .ok (.goto (-26), 3) := by decide +kernel
theorem dX6_which_64 : decode cX6_which 64 = .ok (.iload_n 1, 1) := by decide +kernel
theorem dX6_which_65 : decode cX6_which 65 = .ok (.ifCond .ne 7, 3) := by decide +kernel
theorem dX6_which_68 : decode cX6_which 68 = .ok (.iload_n 2, 1) := by decide +kernel
theorem dX6_which_69 : decode cX6_which 69 = .ok (.goto 4, 3) := by decide +kernel
theorem dX6_which_72 : decode cX6_which 72 = .ok (.iload_n 3, 1) := by decide +kernel
theorem dX6_which_73 : decode cX6_which 73 = .ok (.ireturn, 1) := by decide +kernel
set_option maxRecDepth 20000 in
theorem ggX6_isPossible_X4_isTrueOf : GoodIn wsX6_isPossible wsX4_isTrueOf := goodIn_r _ [10, 11, 12, 13, 9, 14, 15, 16, 17, 18, 19, 20, 21, 22, 23, 24, 25, 26, 27, 28, 29, 30, 31, 32, 33, 34, 35, 36, 37, 38, 39, 40, 41, 42, 43, 44, 45, 46, 47, 48, 49, 50, 51, 52, 53, 54, 55, 56, 57, 58, 59, 60, 61, 62, 63, 81, 82, 83, 84, 85, 86, 87, 88, 89, 90, 91, 92, 93, 94, 95, 96, 97, 98, 99, 100] (by decide +kernel) (by decide +kernel)
set_option maxRecDepth 20000 in
theorem gX6_isPossible_X4_isTrueOf : GoodIn wsX6_isPossible (wsV RX6 253 RX4 yX4_isTrueOf wsX4_isTrueOf) := goodIn_app (goodIn_of _ (by decide +kernel)) ggX6_isPossible_X4_isTrueOf
theorem dX6_isPossible_0 : decode cX6_isPossible 0 = .ok (.iconst 0, 1) := by decide +kernel
theorem dX6_isPossible_1 : decode cX6_isPossible 1 = .ok (.istore_n 2, 1) := by decide +kernel
theorem dX6_isPossible_2 : decode cX6_isPossible 2 = .ok (.iload_n 2, 1) := by decide +kernel
theorem dX6_isPossible_3 : decode cX6_isPossible 3 = .ok (.aload_n 0, 1) := by decide +kernel
theorem dX6_isPossible_4 : decode cX6_isPossible 4 = .ok (.getfield 247, 3) := by decide +kernel
theorem dX6_isPossible_7 : decode cX6_isPossible 7 = .ok (.if_icmp .ge 57, 3) := by decide +kernel
theorem dX6_isPossible_10 : decode cX6_isPossible 10 = .ok (.iload_n 2, 1) := by decide +kernel
theorem dX6_isPossible_11 : decode cX6_isPossible 11 = .ok (.bipush 6, 2) := by decide +kernel
theorem dX6_isPossible_13 : decode cX6_isPossible 13 = .ok (.if_icmp .ge 51, 3) := by decide +kernel
theorem dX6_isPossible_16 : decode cX6_isPossible 16 = .ok (.aload_n 0, 1) := by decide +kernel
theorem dX6_isPossible_17 : decode cX6_isPossible 17 = .ok (.getfield 65, 3) := by decide +kernel
theorem dX6_isPossible_20 : decode cX6_isPossible 20 = .ok (.iload_n 2, 1) := by decide +kernel
theorem dX6_isPossible_21 : decode cX6_isPossible 21 = .ok (.iaload, 1) := by decide +kernel
theorem dX6_isPossible_22 : decode cX6_isPossible 22 = .ok (.iconst 1, 1) := by decide +kernel
theorem dX6_isPossible_23 : decode cX6_isPossible 23 = .ok (.if_icmp .ne 7, 3) := by decide +kernel
theorem dX6_isPossible_26 : decode cX6_isPossible 26 = .ok (.iconst 1, 1) := by decide +kernel
theorem dX6_isPossible_27 : decode cX6_isPossible 27 = .ok (.goto 4, 3) := by decide +kernel
theorem dX6_isPossible_30 : decode cX6_isPossible 30 = .ok (.iconst 0, 1) := by decide +kernel
theorem dX6_isPossible_31 : decode cX6_isPossible 31 = .ok (.istore_n 3, 1) := by decide +kernel
theorem dX6_isPossible_32 : decode cX6_isPossible 32 = .ok (.aload_n 0, 1) := by decide +kernel
theorem dX6_isPossible_33 : decode cX6_isPossible 33 = .ok (.getfield 26, 3) := by decide +kernel
theorem dX6_isPossible_36 : decode cX6_isPossible 36 = .ok (.iload_n 1, 1) := by decide +kernel
theorem dX6_isPossible_37 : decode cX6_isPossible 37 = .ok (.aload_n 0, 1) := by decide +kernel
theorem dX6_isPossible_38 : decode cX6_isPossible 38 = .ok (.getfield 59, 3) := by decide +kernel
theorem dX6_isPossible_41 : decode cX6_isPossible 41 = .ok (.iload_n 2, 1) := by decide +kernel
theorem dX6_isPossible_42 : decode cX6_isPossible 42 = .ok (.iaload, 1) := by decide +kernel
theorem dX6_isPossible_43 : decode cX6_isPossible 43 = .ok (.aload_n 0, 1) := by decide +kernel
theorem dX6_isPossible_44 : decode cX6_isPossible 44 = .ok (.getfield 62, 3) := by decide +kernel
theorem dX6_isPossible_47 : decode cX6_isPossible 47 = .ok (.iload_n 2, 1) := by decide +kernel
theorem dX6_isPossible_48 : decode cX6_isPossible 48 = .ok (.iaload, 1) := by decide +kernel
theorem dX6_isPossible_49 : decode cX6_isPossible 49 = .ok (.invokevirtual 253, 3) := by decide +kernel
theorem dX6_isPossible_52 : decode cX6_isPossible 52 = .ok (.iload_n 3, 1) := by decide +kernel
theorem dX6_isPossible_53 : decode cX6_isPossible 53 = .ok (.if_icmp .eq 5, 3) := by decide +kernel
theorem dX6_isPossible_56 : decode cX6_isPossible 56 = .ok (.iconst 0, 1) := by decide +kernel
theorem dX6_isPossible_57 : decode cX6_isPossible 57 = .ok (.ireturn, 1) := by decide +kernel
theorem dX6_isPossible_58 : decode cX6_isPossible 58 = .ok (.iinc 2 1, 3) := by decide +kernel
theorem dX6_isPossible_61 : decode cX6_isPossible 61 = .ok (.goto (-59), 3) := by decide +kernel
theorem dX6_isPossible_64 : decode cX6_isPossible 64 = .ok (.iconst 1, 1) := by decide +kernel
theorem dX6_isPossible_65 : decode cX6_isPossible 65 = .ok (.ireturn, 1) := by decide +kernel
set_option maxRecDepth 20000 in
theorem ggX6_share_X1_hasNote : GoodIn wsX6_share wsX1_hasNote := goodIn_r _ [7, 8, 219, 220, 221, 222] (by decide +kernel) (by decide +kernel)
set_option maxRecDepth 20000 in
theorem gX6_share_X1_hasNote : GoodIn wsX6_share (wsV RX6 135 RX1 yX1_hasNote wsX1_hasNote) := goodIn_app (goodIn_of _ (by decide +kernel)) ggX6_share_X1_hasNote
set_option maxRecDepth 20000 in
theorem ggX6_share_X6_weighParts : GoodIn wsX6_share wsX6_weighParts := goodIn_r _ [13, 14, 1, 15, 2, 16, 17, 18, 19, 6, 20, 21, 22, 23, 24, 25, 8, 26, 27, 28, 29, 30, 31, 32, 33, 34, 35, 36, 37, 38, 39, 40, 41, 42, 43, 44, 45, 46, 47, 48, 49, 50, 51, 52, 53, 54, 55, 56, 57, 58, 59, 60, 61, 62, 63, 64, 65, 66, 67, 68, 69, 70, 71, 72, 73, 74, 75, 76, 77, 78, 79, 80, 81, 82, 83, 84, 85, 86, 87, 88, 89, 90, 91, 92, 93, 94, 95, 96, 97, 98, 99, 100, 101, 102, 103, 104, 105, 106, 107, 108, 109, 110, 111, 112, 113, 114, 115, 116, 117, 118, 119, 120, 121, 122, 123, 124, 125, 126, 127, 128, 129, 130, 131, 132, 133, 134, 135, 136, 137, 138, 139, 140, 141, 142, 143, 144, 145, 146, 147, 148, 149, 150, 151, 152, 153, 154, 155, 156, 157, 158, 159, 160, 161, 162, 163, 164, 165, 166, 167, 168, 169, 170, 171, 186, 187, 188, 189, 190, 191, 192, 193, 194, 195, 196, 197, 198, 199, 200, 201, 202, 203, 204, 205, 206, 207, 208, 209, 210, 211, 212, 213, 214, 215, 216, 217, 218, 219, 220, 221, 222] (by decide +kernel) (by decide +kernel)
set_option maxRecDepth 20000 in
theorem gX6_share_X6_weighParts : GoodIn wsX6_share (wsV RX6 257 RX6 yX6_weighParts wsX6_weighParts) := goodIn_app (goodIn_of _ (by decide +kernel)) ggX6_share_X6_weighParts
set_option maxRecDepth 20000 in
theorem ggX6_share_X1_notes : GoodIn wsX6_share wsX1_notes := goodIn_r _ [35, 8, 219, 220, 221, 222] (by decide +kernel) (by decide +kernel)
set_option maxRecDepth 20000 in
theorem gX6_share_X1_notes : GoodIn wsX6_share (wsV RX6 98 RX1 yX1_notes wsX1_notes) := goodIn_app (goodIn_of _ (by decide +kernel)) ggX6_share_X1_notes
set_option maxRecDepth 20000 in
theorem ggX6_share_J6_bitCount_0f7a4 : GoodIn wsX6_share wsJ6_bitCount_0f7a4 := goodIn_r _ [152, 153, 154, 155] (by decide +kernel) (by decide +kernel)
set_option maxRecDepth 20000 in
theorem gX6_share_J6_bitCount_0f7a4 : GoodIn wsX6_share (va_wsS RX6 260 yJ6_bitCount_0f7a4 wsJ6_bitCount_0f7a4) := goodIn_app (goodIn_of _ (by decide +kernel)) ggX6_share_J6_bitCount_0f7a4
set_option maxRecDepth 20000 in
theorem ggX6_share_X6_factorial : GoodIn wsX6_share wsX6_factorial := goodIn_r _ [175] (by decide +kernel) (by decide +kernel)
set_option maxRecDepth 20000 in
theorem gX6_share_X6_factorial : GoodIn wsX6_share (va_wsS RX6 265 yX6_factorial wsX6_factorial) := goodIn_app (goodIn_of _ (by decide +kernel)) ggX6_share_X6_factorial
set_option maxRecDepth 20000 in
theorem ggX6_share_X6_partOfFraction : GoodIn wsX6_share wsX6_partOfFraction := goodIn_r _ [178, 179, 180, 181, 182, 183, 184, 12, 185] (by decide +kernel) (by decide +kernel)
set_option maxRecDepth 20000 in
theorem gX6_share_X6_partOfFraction : GoodIn wsX6_share (va_wsS RX6 268 yX6_partOfFraction wsX6_partOfFraction) := goodIn_app (goodIn_of _ (by decide +kernel)) ggX6_share_X6_partOfFraction
theorem dX6_share_0 : decode cX6_share 0 = .ok (.aload_n 0, 1) := by decide +kernel
theorem dX6_share_1 : decode cX6_share 1 = .ok (.getfield 26, 3) := by decide +kernel
theorem dX6_share_4 : decode cX6_share 4 = .ok (.getfield 87, 3) := by decide +kernel
theorem dX6_share_7 : decode cX6_share 7 = .ok (.iload_n 1, 1) := by decide +kernel
theorem dX6_share_8 : decode cX6_share 8 = .ok (.invokevirtual 135, 3) := by decide +kernel
theorem dX6_share_11 : decode cX6_share 11 = .ok (.ifCond .ne 5, 3) := by decide +kernel
theorem dX6_share_14 : decode cX6_share 14 = .ok (.iconst (-1), 1) := by decide +kernel
theorem dX6_share_15 : decode cX6_share 15 = .ok (.ireturn, 1) := by decide +kernel
theorem dX6_share_16 : decode cX6_share 16 = .ok (.aload_n 0, 1) := by decide +kernel
theorem dX6_share_17 : decode cX6_share 17 = .ok (.invokevirtual 257, 3) := by decide +kernel
theorem dX6_share_20 : decode cX6_share 20 = .ok (.aload_n 0, 1) := by decide +kernel
theorem dX6_share_21 : decode cX6_share 21 = .ok (.getfield 26, 3) := by decide +kernel
theorem dX6_share_24 : decode cX6_share 24 = .ok (.getfield 87, 3) := by decide +kernel
theorem dX6_share_27 : decode cX6_share 27 = .ok (.invokevirtual 98, 3) := by decide +kernel
theorem dX6_share_30 : decode cX6_share 30 = .ok (.istore_n 3, 1) := by decide +kernel
theorem dX6_share_31 : decode cX6_share 31 = .ok (.iconst 1, 1) := by decide +kernel
theorem dX6_share_32 : decode cX6_share 32 = .ok (.iload_n 1, 1) := by decide +kernel
theorem dX6_share_33 : decode cX6_share 33 = .ok (.ishl, 1) := by decide +kernel
theorem dX6_share_34 : decode cX6_share 34 = .ok (.istore 4, 2) := by decide +kernel
theorem dX6_share_36 : decode cX6_share 36 = .ok (.iconst 0, 1) := by decide +kernel
theorem dX6_share_37 : decode cX6_share 37 = .ok (.istore 5, 2) := by decide +kernel
theorem dX6_share_39 : decode cX6_share 39 = .ok (.iconst 0, 1) := by decide +kernel
theorem dX6_share_40 : decode cX6_share 40 = .ok (.istore 6, 2) := by decide +kernel
theorem dX6_share_42 : decode cX6_share 42 = .ok (.iload 6, 2) := by decide +kernel
theorem dX6_share_44 : decode cX6_share 44 = .ok (.sipush 256, 3) := by decide +kernel
theorem dX6_share_47 : decode cX6_share 47 = .ok (.if_icmp .ge 78, 3) := by decide +kernel
theorem dX6_share_50 : decode cX6_share 50 = .ok (.iload 6, 2) := by decide +kernel
theorem dX6_share_52 : decode cX6_share 52 = .ok (.iconst 1, 1) := by decide +kernel
theorem dX6_share_53 : decode cX6_share 53 = .ok (.iload_n 3, 1) := by decide +kernel
theorem dX6_share_54 : decode cX6_share 54 = .ok (.ishl, 1) := by decide +kernel
theorem dX6_share_55 : decode cX6_share 55 = .ok (.if_icmp .ge 70, 3) := by decide +kernel
theorem dX6_share_58 : decode cX6_share 58 = .ok (.iload 6, 2) := by decide +kernel
theorem dX6_share_60 : decode cX6_share 60 = .ok (.iload 4, 2) := by decide +kernel
theorem dX6_share_62 : decode cX6_share 62 = .ok (.iand, 1) := by decide +kernel
theorem dX6_share_63 : decode cX6_share 63 = .ok (.ifCond .eq 6, 3) := by decide +kernel
theorem dX6_share_66 : decode cX6_share 66 = .ok (.goto 53, 3) := by decide +kernel
theorem dX6_share_69 : decode cX6_share 69 = .ok (.iload 6, 2) := by decide +kernel
theorem dX6_share_71 : decode cX6_share 71 = .ok (.invokestatic 260, 3) := by decide +kernel
theorem dX6_share_74 : decode cX6_share 74 = .ok (.istore 7, 2) := by decide +kernel
theorem dX6_share_76 : decode cX6_share 76 = .ok (.iload 7, 2) := by decide +kernel
theorem dX6_share_78 : decode cX6_share 78 = .ok (.invokestatic 265, 3) := by decide +kernel
theorem dX6_share_81 : decode cX6_share 81 = .ok (.iload_n 3, 1) := by decide +kernel
theorem dX6_share_82 : decode cX6_share 82 = .ok (.iconst 1, 1) := by decide +kernel
theorem dX6_share_83 : decode cX6_share 83 = .ok (.isub, 1) := by decide +kernel
theorem dX6_share_84 : decode cX6_share 84 = .ok (.iload 7, 2) := by decide +kernel
theorem dX6_share_86 : decode cX6_share 86 = .ok (.isub, 1) := by decide +kernel
theorem dX6_share_87 : decode cX6_share 87 = .ok (.invokestatic 265, 3) := by decide +kernel
theorem dX6_share_90 : decode cX6_share 90 = .ok (.imul, 1) := by decide +kernel
theorem dX6_share_91 : decode cX6_share 91 = .ok (.istore 8, 2) := by decide +kernel
theorem dX6_share_93 : decode cX6_share 93 = .ok (.iload 5, 2) := by decide +kernel
theorem dX6_share_95 : decode cX6_share 95 = .ok (.iload 8, 2) := by decide +kernel
theorem dX6_share_97 : decode cX6_share 97 = .ok (.aload_n 0, 1) := by decide +kernel
theorem dX6_share_98 : decode cX6_share 98 = .ok (.getfield 52, 3) := by decide +kernel
theorem dX6_share_101 : decode cX6_share 101 = .ok (.iload 6, 2) := by decide +kernel
theorem dX6_share_103 : decode cX6_share 103 = .ok (.iload 4, 2) := by decide +kernel
theorem dX6_share_105 : decode cX6_share 105 = .ok (.ior, 1) := by decide +kernel
theorem dX6_share_106 : decode cX6_share 106 = .ok (.iaload, 1) := by decide +kernel
theorem dX6_share_107 : decode cX6_share 107 = .ok (.aload_n 0, 1) := by decide +kernel
theorem dX6_share_108 : decode cX6_share 108 = .ok (.getfield 52, 3) := by decide +kernel
theorem dX6_share_111 : decode cX6_share 111 = .ok (.iload 6, 2) := by decide +kernel
theorem dX6_share_113 : decode cX6_share 113 = .ok (.iaload, 1) := by decide +kernel
theorem dX6_share_114 : decode cX6_share 114 = .ok (.isub, 1) := by decide +kernel
theorem dX6_share_115 : decode cX6_share 115 = .ok (.imul, 1) := by decide +kernel
theorem dX6_share_116 : decode cX6_share 116 = .ok (.iadd, 1) := by decide +kernel
theorem dX6_share_117 : decode cX6_share 117 = .ok (.istore 5, 2) := by decide +kernel
theorem dX6_share_119 : decode cX6_share 119 = .ok (.iinc 6 1, 3) := by decide +kernel
theorem dX6_share_122 : decode cX6_share 122 = .ok (.goto (-80), 3) := by decide +kernel
theorem dX6_share_125 : decode cX6_share 125 = .ok (.iload 5, 2) := by decide +kernel
theorem dX6_share_127 : decode cX6_share 127 = .ok (.iload_n 3, 1) := by decide +kernel
theorem dX6_share_128 : decode cX6_share 128 = .ok (.invokestatic 265, 3) := by decide +kernel
theorem dX6_share_131 : decode cX6_share 131 = .ok (.iload_n 2, 1) := by decide +kernel
theorem dX6_share_132 : decode cX6_share 132 = .ok (.invokestatic 268, 3) := by decide +kernel
theorem dX6_share_135 : decode cX6_share 135 = .ok (.ireturn, 1) := by decide +kernel
set_option maxRecDepth 20000 in
theorem ggX6_lost_X6_weighParts : GoodIn wsX6_lost wsX6_weighParts := goodIn_r _ [7, 8, 1, 9, 10, 2, 11, 12, 13, 14, 15, 16, 17, 18, 19, 20, 21, 22, 23, 24, 25, 26, 27, 28, 29, 30, 31, 32, 33, 34, 35, 36, 37, 38, 39, 40, 41, 42, 43, 44, 45, 46, 47, 48, 49, 50, 51, 52, 53, 54, 55, 56, 57, 58, 59, 60, 61, 62, 63, 64, 65, 66, 67, 68, 69, 70, 71, 72, 73, 74, 75, 76, 77, 78, 79, 80, 81, 82, 83, 84, 85, 86, 87, 88, 89, 90, 91, 92, 93, 94, 95, 96, 97, 98, 99, 100, 101, 102, 103, 104, 105, 106, 107, 108, 109, 110, 111, 112, 113, 114, 115, 116, 117, 118, 119, 120, 121, 122, 123, 124, 125, 126, 127, 128, 129, 130, 131, 132, 133, 134, 135, 136, 137, 138, 139, 140, 141, 142, 143, 144, 145, 146, 147, 148, 149, 150, 151, 152, 153, 154, 155, 156, 157, 158, 159, 160, 161, 162, 163, 164, 165, 166, 167, 182, 183, 184, 185, 186, 187, 188, 189, 190, 191, 192, 193, 194, 195, 196, 197, 198, 199, 200, 201, 202, 203, 204, 205, 206, 207, 208, 209, 210, 211, 212, 213, 214, 215, 216, 217, 218] (by decide +kernel) (by decide +kernel)
set_option maxRecDepth 20000 in
theorem gX6_lost_X6_weighParts : GoodIn wsX6_lost (wsV RX6 257 RX6 yX6_weighParts wsX6_weighParts) := goodIn_app (goodIn_of _ (by decide +kernel)) ggX6_lost_X6_weighParts
set_option maxRecDepth 20000 in
theorem ggX6_lost_X1_notes : GoodIn wsX6_lost wsX1_notes := goodIn_r _ [31, 21, 215, 216, 217, 218] (by decide +kernel) (by decide +kernel)
set_option maxRecDepth 20000 in
theorem gX6_lost_X1_notes : GoodIn wsX6_lost (wsV RX6 98 RX1 yX1_notes wsX1_notes) := goodIn_app (goodIn_of _ (by decide +kernel)) ggX6_lost_X1_notes
set_option maxRecDepth 20000 in
theorem ggX6_lost_J6_bitCount_0f7a4 : GoodIn wsX6_lost wsJ6_bitCount_0f7a4 := goodIn_r _ [148, 149, 150, 151] (by decide +kernel) (by decide +kernel)
set_option maxRecDepth 20000 in
theorem gX6_lost_J6_bitCount_0f7a4 : GoodIn wsX6_lost (va_wsS RX6 260 yJ6_bitCount_0f7a4 wsJ6_bitCount_0f7a4) := goodIn_app (goodIn_of _ (by decide +kernel)) ggX6_lost_J6_bitCount_0f7a4
set_option maxRecDepth 20000 in
theorem ggX6_lost_X6_power : GoodIn wsX6_lost wsX6_power := goodIn_r _ [171] (by decide +kernel) (by decide +kernel)
set_option maxRecDepth 20000 in
theorem gX6_lost_X6_power : GoodIn wsX6_lost (va_wsS RX6 272 yX6_power wsX6_power) := goodIn_app (goodIn_of _ (by decide +kernel)) ggX6_lost_X6_power
set_option maxRecDepth 20000 in
theorem ggX6_lost_X6_partOfFraction : GoodIn wsX6_lost wsX6_partOfFraction := goodIn_r _ [174, 175, 176, 177, 178, 179, 180, 6, 181] (by decide +kernel) (by decide +kernel)
set_option maxRecDepth 20000 in
theorem gX6_lost_X6_partOfFraction : GoodIn wsX6_lost (va_wsS RX6 268 yX6_partOfFraction wsX6_partOfFraction) := goodIn_app (goodIn_of _ (by decide +kernel)) ggX6_lost_X6_partOfFraction
theorem dX6_lost_0 : decode cX6_lost 0 = .ok (.iload_n 1, 1) := by decide +kernel
theorem dX6_lost_1 : decode cX6_lost 1 = .ok (.ifCond .lt 9, 3) := by decide +kernel
theorem dX6_lost_4 : decode cX6_lost 4 = .ok (.iload_n 1, 1) := by decide +kernel
theorem dX6_lost_5 : decode cX6_lost 5 = .ok (.bipush 10, 2) := by decide +kernel
theorem dX6_lost_7 : decode cX6_lost 7 = .ok (.if_icmp .le 6, 3) := by decide +kernel
theorem dX6_lost_10 : decode cX6_lost 10 = .ok (.bipush (-2), 2) := by decide +kernel
theorem dX6_lost_12 : decode cX6_lost 12 = .ok (.ireturn, 1) := by decide +kernel
theorem dX6_lost_13 : decode cX6_lost 13 = .ok (.aload_n 0, 1) := by decide +kernel
theorem dX6_lost_14 : decode cX6_lost 14 = .ok (.invokevirtual 257, 3) := by decide +kernel
theorem dX6_lost_17 : decode cX6_lost 17 = .ok (.aload_n 0, 1) := by decide +kernel
theorem dX6_lost_18 : decode cX6_lost 18 = .ok (.getfield 26, 3) := by decide +kernel
theorem dX6_lost_21 : decode cX6_lost 21 = .ok (.getfield 87, 3) := by decide +kernel
theorem dX6_lost_24 : decode cX6_lost 24 = .ok (.invokevirtual 98, 3) := by decide +kernel
theorem dX6_lost_27 : decode cX6_lost 27 = .ok (.istore_n 3, 1) := by decide +kernel
theorem dX6_lost_28 : decode cX6_lost 28 = .ok (.iconst 0, 1) := by decide +kernel
theorem dX6_lost_29 : decode cX6_lost 29 = .ok (.istore 4, 2) := by decide +kernel
theorem dX6_lost_31 : decode cX6_lost 31 = .ok (.iconst 0, 1) := by decide +kernel
theorem dX6_lost_32 : decode cX6_lost 32 = .ok (.istore 5, 2) := by decide +kernel
theorem dX6_lost_34 : decode cX6_lost 34 = .ok (.iload 5, 2) := by decide +kernel
theorem dX6_lost_36 : decode cX6_lost 36 = .ok (.sipush 256, 3) := by decide +kernel
theorem dX6_lost_39 : decode cX6_lost 39 = .ok (.if_icmp .ge 60, 3) := by decide +kernel
theorem dX6_lost_42 : decode cX6_lost 42 = .ok (.iload 5, 2) := by decide +kernel
theorem dX6_lost_44 : decode cX6_lost 44 = .ok (.iconst 1, 1) := by decide +kernel
theorem dX6_lost_45 : decode cX6_lost 45 = .ok (.iload_n 3, 1) := by decide +kernel
theorem dX6_lost_46 : decode cX6_lost 46 = .ok (.ishl, 1) := by decide +kernel
theorem dX6_lost_47 : decode cX6_lost 47 = .ok (.if_icmp .ge 52, 3) := by decide +kernel
theorem dX6_lost_50 : decode cX6_lost 50 = .ok (.aload_n 0, 1) := by decide +kernel
theorem dX6_lost_51 : decode cX6_lost 51 = .ok (.getfield 56, 3) := by decide +kernel
theorem dX6_lost_54 : decode cX6_lost 54 = .ok (.iload 5, 2) := by decide +kernel
theorem dX6_lost_56 : decode cX6_lost 56 = .ok (.iaload, 1) := by decide +kernel
theorem dX6_lost_57 : decode cX6_lost 57 = .ok (.ifCond .eq 6, 3) := by decide +kernel
theorem dX6_lost_60 : decode cX6_lost 60 = .ok (.goto 33, 3) := by decide +kernel
theorem dX6_lost_63 : decode cX6_lost 63 = .ok (.iload 5, 2) := by decide +kernel
theorem dX6_lost_65 : decode cX6_lost 65 = .ok (.invokestatic 260, 3) := by decide +kernel
theorem dX6_lost_68 : decode cX6_lost 68 = .ok (.istore 6, 2) := by decide +kernel
theorem dX6_lost_70 : decode cX6_lost 70 = .ok (.iload 4, 2) := by decide +kernel
theorem dX6_lost_72 : decode cX6_lost 72 = .ok (.bipush 10, 2) := by decide +kernel
theorem dX6_lost_74 : decode cX6_lost 74 = .ok (.iload_n 1, 1) := by decide +kernel
theorem dX6_lost_75 : decode cX6_lost 75 = .ok (.isub, 1) := by decide +kernel
theorem dX6_lost_76 : decode cX6_lost 76 = .ok (.iload 6, 2) := by decide +kernel
theorem dX6_lost_78 : decode cX6_lost 78 = .ok (.invokestatic 272, 3) := by decide +kernel
theorem dX6_lost_81 : decode cX6_lost 81 = .ok (.iload_n 1, 1) := by decide +kernel
theorem dX6_lost_82 : decode cX6_lost 82 = .ok (.iload_n 3, 1) := by decide +kernel
theorem dX6_lost_83 : decode cX6_lost 83 = .ok (.iload 6, 2) := by decide +kernel
theorem dX6_lost_85 : decode cX6_lost 85 = .ok (.isub, 1) := by decide +kernel
theorem dX6_lost_86 : decode cX6_lost 86 = .ok (.invokestatic 272, 3) := by decide +kernel
theorem dX6_lost_89 : decode cX6_lost 89 = .ok (.imul, 1) := by decide +kernel
theorem dX6_lost_90 : decode cX6_lost 90 = .ok (.iadd, 1) := by decide +kernel
theorem dX6_lost_91 : decode cX6_lost 91 = .ok (.istore 4, 2) := by decide +kernel
theorem dX6_lost_93 : decode cX6_lost 93 = .ok (.iinc 5 1, 3) := by decide +kernel
theorem dX6_lost_96 : decode cX6_lost 96 = .ok (.goto (-62), 3) := by decide +kernel
theorem dX6_lost_99 : decode cX6_lost 99 = .ok (.iload 4, 2) := by decide +kernel
theorem dX6_lost_101 : decode cX6_lost 101 = .ok (.bipush 10, 2) := by decide +kernel
theorem dX6_lost_103 : decode cX6_lost 103 = .ok (.iload_n 3, 1) := by decide +kernel
theorem dX6_lost_104 : decode cX6_lost 104 = .ok (.invokestatic 272, 3) := by decide +kernel
theorem dX6_lost_107 : decode cX6_lost 107 = .ok (.iload_n 2, 1) := by decide +kernel
theorem dX6_lost_108 : decode cX6_lost 108 = .ok (.invokestatic 268, 3) := by decide +kernel
theorem dX6_lost_111 : decode cX6_lost 111 = .ok (.ireturn, 1) := by decide +kernel
set_option maxRecDepth 20000 in
theorem ggX6_weighParts_X1_version : GoodIn wsX6_weighParts wsX1_version := goodIn_r _ [10, 11, 196, 197, 198, 199] (by decide +kernel) (by decide +kernel)
set_option maxRecDepth 20000 in
theorem gX6_weighParts_X1_version : GoodIn wsX6_weighParts (wsV RX6 275 RX1 yX1_version wsX1_version) := goodIn_app (goodIn_of _ (by decide +kernel)) ggX6_weighParts_X1_version
set_option maxRecDepth 20000 in
theorem ggX6_weighParts_X1_copyFrom : GoodIn wsX6_weighParts wsX1_copyFrom := goodIn_r _ [15, 11, 16, 17, 18, 19, 20, 21, 22, 196, 197, 198, 199] (by decide +kernel) (by decide +kernel)
set_option maxRecDepth 20000 in
theorem gX6_weighParts_X1_copyFrom : GoodIn wsX6_weighParts (wsV RX6 90 RX1 yX1_copyFrom wsX1_copyFrom) := goodIn_app (goodIn_of _ (by decide +kernel)) ggX6_weighParts_X1_copyFrom
set_option maxRecDepth 20000 in
theorem ggX6_weighParts_X1_notes : GoodIn wsX6_weighParts wsX1_notes := goodIn_r _ [26, 16, 196, 197, 198, 199] (by decide +kernel) (by decide +kernel)
set_option maxRecDepth 20000 in
theorem gX6_weighParts_X1_notes : GoodIn wsX6_weighParts (wsV RX6 98 RX1 yX1_notes wsX1_notes) := goodIn_app (goodIn_of _ (by decide +kernel)) ggX6_weighParts_X1_notes
set_option maxRecDepth 20000 in
theorem ggX6_weighParts_X4_studyPart : GoodIn wsX6_weighParts wsX4_studyPart := goodIn_r _ [31, 32, 33, 34, 35, 36, 37, 38, 39, 40, 7, 8, 9, 10, 11, 41, 42, 43, 30, 44, 45, 46, 47, 48, 49, 50, 16, 51, 52, 53, 54, 17, 55, 56, 57, 58, 59, 60, 61, 22, 62, 63, 64, 65, 66, 67, 68, 69, 70, 71, 72, 73, 74, 75, 76, 77, 78, 79, 80, 24, 25, 26, 81, 82, 83, 84, 85, 86, 87, 88, 89, 90, 91, 92, 93, 94, 95, 96, 97, 98, 99, 100, 101, 102, 103, 104, 105, 106, 107, 108, 109, 110, 111, 112, 113, 114, 115, 116, 117, 118, 119, 120, 121, 122, 123, 124, 125, 126, 127, 128, 129, 130, 131, 132, 133, 134, 135, 136, 137, 138, 139, 140, 141, 142, 143, 144, 145, 146, 147, 148, 149, 150, 151, 152, 153, 154, 180, 181, 182, 183, 184, 185, 186, 187, 188, 189, 190, 191, 192, 193, 194, 195, 196, 197, 198, 199] (by decide +kernel) (by decide +kernel)
set_option maxRecDepth 20000 in
theorem gX6_weighParts_X4_studyPart : GoodIn wsX6_weighParts (wsV RX6 278 RX4 yX4_studyPart wsX4_studyPart) := goodIn_app (goodIn_of _ (by decide +kernel)) ggX6_weighParts_X4_studyPart
set_option maxRecDepth 20000 in
theorem ggX6_weighParts_X4_alive : GoodIn wsX6_weighParts wsX4_alive := goodIn_r _ [158, 36, 180, 181, 182, 183, 184, 185, 186, 187, 188, 189, 190, 191, 192, 193, 194, 195] (by decide +kernel) (by decide +kernel)
set_option maxRecDepth 20000 in
theorem gX6_weighParts_X4_alive : GoodIn wsX6_weighParts (wsV RX6 281 RX4 yX4_alive wsX4_alive) := goodIn_app (goodIn_of _ (by decide +kernel)) ggX6_weighParts_X4_alive
set_option maxRecDepth 20000 in
theorem ggX6_weighParts_X4_dead : GoodIn wsX6_weighParts wsX4_dead := goodIn_r _ [162, 37, 180, 181, 182, 183, 184, 185, 186, 187, 188, 189, 190, 191, 192, 193, 194, 195] (by decide +kernel) (by decide +kernel)
set_option maxRecDepth 20000 in
theorem gX6_weighParts_X4_dead : GoodIn wsX6_weighParts (wsV RX6 149 RX4 yX4_dead wsX4_dead) := goodIn_app (goodIn_of _ (by decide +kernel)) ggX6_weighParts_X4_dead
theorem dX6_weighParts_0 : decode cX6_weighParts 0 = .ok (.aload_n 0, 1) := by decide +kernel
theorem dX6_weighParts_1 : decode cX6_weighParts 1 = .ok (.getfield 68, 3) := by decide +kernel
theorem dX6_weighParts_4 : decode cX6_weighParts 4 = .ok (.aload_n 0, 1) := by decide +kernel
theorem dX6_weighParts_5 : decode cX6_weighParts 5 = .ok (.getfield 26, 3) := by decide +kernel
theorem dX6_weighParts_8 : decode cX6_weighParts 8 = .ok (.getfield 87, 3) := by decide +kernel
theorem dX6_weighParts_11 : decode cX6_weighParts 11 = .ok (.invokevirtual 275, 3) := by decide +kernel
theorem dX6_weighParts_14 : decode cX6_weighParts 14 = .ok (.if_icmp .ne 4, 3) := by decide +kernel
theorem dX6_weighParts_17 : decode cX6_weighParts 17 = .ok (.return_, 1) := by decide +kernel
theorem dX6_weighParts_18 : decode cX6_weighParts 18 = .ok (.aload_n 0, 1) := by decide +kernel
theorem dX6_weighParts_19 : decode cX6_weighParts 19 = .ok (.getfield 30, 3) := by decide +kernel
theorem dX6_weighParts_22 : decode cX6_weighParts 22 = .ok (.getfield 87, 3) := by decide +kernel
theorem dX6_weighParts_25 : decode cX6_weighParts 25 = .ok (.aload_n 0, 1) := by decide +kernel
theorem dX6_weighParts_26 : decode cX6_weighParts 26 = .ok (.getfield 26, 3) := by decide +kernel
theorem dX6_weighParts_29 : decode cX6_weighParts 29 = .ok (.getfield 87, 3) := by decide +kernel
theorem dX6_weighParts_32 : decode cX6_weighParts 32 = .ok (.invokevirtual 90, 3) := by decide +kernel
theorem dX6_weighParts_35 : decode cX6_weighParts 35 = .ok (.iconst 0, 1) := by decide +kernel
theorem dX6_weighParts_36 : decode cX6_weighParts 36 = .ok (.istore_n 1, 1) := by decide +kernel
theorem dX6_weighParts_37 : decode cX6_weighParts 37 = .ok (.iload_n 1, 1) := by decide +kernel
theorem dX6_weighParts_38 : decode cX6_weighParts 38 = .ok (.sipush 256, 3) := by decide +kernel
theorem dX6_weighParts_41 : decode cX6_weighParts 41 = .ok (.if_icmp .ge 59, 3) := by decide +kernel
theorem dX6_weighParts_44 : decode cX6_weighParts 44 = .ok (.iload_n 1, 1) := by decide +kernel
theorem dX6_weighParts_45 : decode cX6_weighParts 45 = .ok (.iconst 1, 1) := by decide +kernel
theorem dX6_weighParts_46 : decode cX6_weighParts 46 = .ok (.aload_n 0, 1) := by decide +kernel
theorem dX6_weighParts_47 : decode cX6_weighParts 47 = .ok (.getfield 26, 3) := by decide +kernel
theorem dX6_weighParts_50 : decode cX6_weighParts 50 = .ok (.getfield 87, 3) := by decide +kernel
theorem dX6_weighParts_53 : decode cX6_weighParts 53 = .ok (.invokevirtual 98, 3) := by decide +kernel
theorem dX6_weighParts_56 : decode cX6_weighParts 56 = .ok (.ishl, 1) := by decide +kernel
theorem dX6_weighParts_57 : decode cX6_weighParts 57 = .ok (.if_icmp .ge 43, 3) := by decide +kernel
theorem dX6_weighParts_60 : decode cX6_weighParts 60 = .ok (.aload_n 0, 1) := by decide +kernel
theorem dX6_weighParts_61 : decode cX6_weighParts 61 = .ok (.getfield 30, 3) := by decide +kernel
theorem dX6_weighParts_64 : decode cX6_weighParts 64 = .ok (.iload_n 1, 1) := by decide +kernel
theorem dX6_weighParts_65 : decode cX6_weighParts 65 = .ok (.invokevirtual 278, 3) := by decide +kernel
theorem dX6_weighParts_68 : decode cX6_weighParts 68 = .ok (.aload_n 0, 1) := by decide +kernel
theorem dX6_weighParts_69 : decode cX6_weighParts 69 = .ok (.getfield 52, 3) := by decide +kernel
theorem dX6_weighParts_72 : decode cX6_weighParts 72 = .ok (.iload_n 1, 1) := by decide +kernel
theorem dX6_weighParts_73 : decode cX6_weighParts 73 = .ok (.aload_n 0, 1) := by decide +kernel
theorem dX6_weighParts_74 : decode cX6_weighParts 74 = .ok (.getfield 30, 3) := by decide +kernel
theorem dX6_weighParts_77 : decode cX6_weighParts 77 = .ok (.invokevirtual 281, 3) := by decide +kernel
theorem dX6_weighParts_80 : decode cX6_weighParts 80 = .ok (.iastore, 1) := by decide +kernel
theorem dX6_weighParts_81 : decode cX6_weighParts 81 = .ok (.aload_n 0, 1) := by decide +kernel
theorem dX6_weighParts_82 : decode cX6_weighParts 82 = .ok (.getfield 56, 3) := by decide +kernel
theorem dX6_weighParts_85 : decode cX6_weighParts 85 = .ok (.iload_n 1, 1) := by decide +kernel
theorem dX6_weighParts_86 : decode cX6_weighParts 86 = .ok (.aload_n 0, 1) := by decide +kernel
theorem dX6_weighParts_87 : decode cX6_weighParts 87 = .ok (.getfield 30, 3) := by decide +kernel
theorem dX6_weighParts_90 : decode cX6_weighParts 90 = .ok (.invokevirtual 149, 3) := by decide +kernel
theorem dX6_weighParts_93 : decode cX6_weighParts 93 = .ok (.iastore, 1) := by decide +kernel
theorem dX6_weighParts_94 : decode cX6_weighParts 94 = .ok (.iinc 1 1, 3) := by decide +kernel
theorem dX6_weighParts_97 : decode cX6_weighParts 97 = .ok (.goto (-60), 3) := by decide +kernel
theorem dX6_weighParts_100 : decode cX6_weighParts 100 = .ok (.aload_n 0, 1) := by decide +kernel
theorem dX6_weighParts_101 : decode cX6_weighParts 101 = .ok (.aload_n 0, 1) := by decide +kernel
theorem dX6_weighParts_102 : decode cX6_weighParts 102 = .ok (.getfield 26, 3) := by decide +kernel
theorem dX6_weighParts_105 : decode cX6_weighParts 105 = .ok (.getfield 87, 3) := by decide +kernel
theorem dX6_weighParts_108 : decode cX6_weighParts 108 = .ok (.invokevirtual 275, 3) := by decide +kernel
theorem dX6_weighParts_111 : decode cX6_weighParts 111 = .ok (.putfield 68, 3) := by decide +kernel
theorem dX6_weighParts_114 : decode cX6_weighParts 114 = .ok (.return_, 1) := by decide +kernel
theorem dX6_factorial_0 : decode cX6_factorial 0 = .ok (.iconst 1, 1) := by decide +kernel
theorem dX6_factorial_1 : decode cX6_factorial 1 = .ok (.istore_n 1, 1) := by decide +kernel
theorem dX6_factorial_2 : decode cX6_factorial 2 = .ok (.iconst 2, 1) := by decide +kernel
theorem dX6_factorial_3 : decode cX6_factorial 3 = .ok (.istore_n 2, 1) := by decide +kernel
theorem dX6_factorial_4 : decode cX6_factorial 4 = .ok (.iload_n 2, 1) := by decide +kernel
theorem dX6_factorial_5 : decode cX6_factorial 5 = .ok (.iload_n 0, 1) := by decide +kernel
theorem dX6_factorial_6 : decode cX6_factorial 6 = .ok (.if_icmp .gt 19, 3) := by decide +kernel
theorem dX6_factorial_9 : decode cX6_factorial 9 = .ok (.iload_n 2, 1) := by decide +kernel
theorem dX6_factorial_10 : decode cX6_factorial 10 = .ok (.bipush 8, 2) := by decide +kernel
theorem dX6_factorial_12 : decode cX6_factorial 12 = .ok (.if_icmp .gt 13, 3) := by decide +kernel
theorem dX6_factorial_15 : decode cX6_factorial 15 = .ok (.iload_n 1, 1) := by decide +kernel
theorem dX6_factorial_16 : decode cX6_factorial 16 = .ok (.iload_n 2, 1) := by decide +kernel
theorem dX6_factorial_17 : decode cX6_factorial 17 = .ok (.imul, 1) := by decide +kernel
theorem dX6_factorial_18 : decode cX6_factorial 18 = .ok (.istore_n 1, 1) := by decide +kernel
theorem dX6_factorial_19 : decode cX6_factorial 19 = .ok (.iinc 2 1, 3) := by decide +kernel
theorem dX6_factorial_22 : decode cX6_factorial 22 = .ok (.goto (-18), 3) := by decide +kernel
theorem dX6_factorial_25 : decode cX6_factorial 25 = .ok (.iload_n 1, 1) := by decide +kernel
theorem dX6_factorial_26 : decode cX6_factorial 26 = .ok (.ireturn, 1) := by decide +kernel
theorem dX6_power_0 : decode cX6_power 0 = .ok (.iconst 1, 1) := by decide +kernel
theorem dX6_power_1 : decode cX6_power 1 = .ok (.istore_n 2, 1) := by decide +kernel
theorem dX6_power_2 : decode cX6_power 2 = .ok (.iconst 0, 1) := by decide +kernel
theorem dX6_power_3 : decode cX6_power 3 = .ok (.istore_n 3, 1) := by decide +kernel
theorem dX6_power_4 : decode cX6_power 4 = .ok (.iload_n 3, 1) := by decide +kernel
theorem dX6_power_5 : decode cX6_power 5 = .ok (.iload_n 1, 1) := by decide +kernel
theorem dX6_power_6 : decode cX6_power 6 = .ok (.if_icmp .ge 19, 3) := by decide +kernel
theorem dX6_power_9 : decode cX6_power 9 = .ok (.iload_n 3, 1) := by decide +kernel
theorem dX6_power_10 : decode cX6_power 10 = .ok (.bipush 8, 2) := by decide +kernel
theorem dX6_power_12 : decode cX6_power 12 = .ok (.if_icmp .ge 13, 3) := by decide +kernel
theorem dX6_power_15 : decode cX6_power 15 = .ok (.iload_n 2, 1) := by decide +kernel
theorem dX6_power_16 : decode cX6_power 16 = .ok (.iload_n 0, 1) := by decide +kernel
theorem dX6_power_17 : decode cX6_power 17 = .ok (.imul, 1) := by decide +kernel
theorem dX6_power_18 : decode cX6_power 18 = .ok (.istore_n 2, 1) := by decide +kernel
theorem dX6_power_19 : decode cX6_power 19 = .ok (.iinc 3 1, 3) := by decide +kernel
theorem dX6_power_22 : decode cX6_power 22 = .ok (.goto (-18), 3) := by decide +kernel
theorem dX6_power_25 : decode cX6_power 25 = .ok (.iload_n 2, 1) := by decide +kernel
theorem dX6_power_26 : decode cX6_power 26 = .ok (.ireturn, 1) := by decide +kernel
set_option maxRecDepth 20000 in
theorem ggX6_partOfFraction_X6_commonDivisor : GoodIn wsX6_partOfFraction wsX6_commonDivisor := goodIn_r _ [8] (by decide +kernel) (by decide +kernel)
set_option maxRecDepth 20000 in
theorem gX6_partOfFraction_X6_commonDivisor : GoodIn wsX6_partOfFraction (va_wsS RX6 287 yX6_commonDivisor wsX6_commonDivisor) := goodIn_app (goodIn_of _ (by decide +kernel)) ggX6_partOfFraction_X6_commonDivisor
