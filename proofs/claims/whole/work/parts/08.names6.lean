theorem dX7_put_82 : decode cX7_put 82 = .ok (.aload_n 0, 1) := by decide +kernel
theorem dX7_put_83 : decode cX7_put 83 = .ok (.getfield 62, 3) := by decide +kernel
theorem dX7_put_86 : decode cX7_put 86 = .ok (.iload_n 3, 1) := by decide +kernel
theorem dX7_put_87 : decode cX7_put 87 = .ok (.iload_n 3, 1) := by decide +kernel
theorem dX7_put_88 : decode cX7_put 88 = .ok (.iload_n 1, 1) := by decide +kernel
theorem dX7_put_89 : decode cX7_put 89 = .ok (.if_icmp .ge 7, 3) := by decide +kernel
theorem dX7_put_92 : decode cX7_put 92 = .ok (.iload_n 3, 1) := by decide +kernel
theorem dX7_put_93 : decode cX7_put 93 = .ok (.goto 6, 3) := by decide +kernel
theorem dX7_put_96 : decode cX7_put 96 = .ok (.iload_n 3, 1) := by decide +kernel
theorem dX7_put_97 : decode cX7_put 97 = .ok (.iconst 1, 1) := by decide +kernel
theorem dX7_put_98 : decode cX7_put 98 = .ok (.iadd, 1) := by decide +kernel
theorem dX7_put_99 : decode cX7_put 99 = .ok (.iastore, 1) := by decide +kernel
theorem dX7_put_100 : decode cX7_put 100 = .ok (.iinc 3 1, 3) := by decide +kernel
theorem dX7_put_103 : decode cX7_put 103 = .ok (.goto (-27), 3) := by decide +kernel
theorem dX7_put_106 : decode cX7_put 106 = .ok (.iload_n 2, 1) := by decide +kernel
theorem dX7_put_107 : decode cX7_put 107 = .ok (.iconst 1, 1) := by decide +kernel
theorem dX7_put_108 : decode cX7_put 108 = .ok (.if_icmp .ne 17, 3) := by decide +kernel
theorem dX7_put_111 : decode cX7_put 111 = .ok (.aload_n 0, 1) := by decide +kernel
theorem dX7_put_112 : decode cX7_put 112 = .ok (.aload_n 0, 1) := by decide +kernel
theorem dX7_put_113 : decode cX7_put 113 = .ok (.getfield 16, 3) := by decide +kernel
theorem dX7_put_116 : decode cX7_put 116 = .ok (.aload_n 0, 1) := by decide +kernel
theorem dX7_put_117 : decode cX7_put 117 = .ok (.getfield 16, 3) := by decide +kernel
theorem dX7_put_120 : decode cX7_put 120 = .ok (.iconst 0, 1) := by decide +kernel
theorem dX7_put_121 : decode cX7_put 121 = .ok (.iaload, 1) := by decide +kernel
theorem dX7_put_122 : decode cX7_put 122 = .ok (.invokevirtual 270, 3) := by decide +kernel
theorem dX7_put_125 : decode cX7_put 125 = .ok (.aload_n 0, 1) := by decide +kernel
theorem dX7_put_126 : decode cX7_put 126 = .ok (.getfield 16, 3) := by decide +kernel
theorem dX7_put_129 : decode cX7_put 129 = .ok (.iconst 0, 1) := by decide +kernel
theorem dX7_put_130 : decode cX7_put 130 = .ok (.iaload, 1) := by decide +kernel
theorem dX7_put_131 : decode cX7_put 131 = .ok (.istore_n 3, 1) := by decide +kernel
theorem dX7_put_132 : decode cX7_put 132 = .ok (.iload_n 3, 1) := by decide +kernel
theorem dX7_put_133 : decode cX7_put 133 = .ok (.iload_n 1, 1) := by decide +kernel
theorem dX7_put_134 : decode cX7_put 134 = .ok (.if_icmp .le 24, 3) := by decide +kernel
theorem dX7_put_137 : decode cX7_put 137 = .ok (.aload_n 0, 1) := by decide +kernel
theorem dX7_put_138 : decode cX7_put 138 = .ok (.getfield 16, 3) := by decide +kernel
theorem dX7_put_141 : decode cX7_put 141 = .ok (.iload_n 3, 1) := by decide +kernel
theorem dX7_put_142 : decode cX7_put 142 = .ok (.aload_n 0, 1) := by decide +kernel
theorem dX7_put_143 : decode cX7_put 143 = .ok (.getfield 16, 3) := by decide +kernel
theorem dX7_put_146 : decode cX7_put 146 = .ok (.iload_n 3, 1) := by decide +kernel
theorem dX7_put_147 : decode cX7_put 147 = .ok (.iconst 1, 1) := by decide +kernel
theorem dX7_put_148 : decode cX7_put 148 = .ok (.isub, 1) := by decide +kernel
theorem dX7_put_149 : decode cX7_put 149 = .ok (.invokestatic 273, 3) := by decide +kernel
theorem dX7_put_152 : decode cX7_put 152 = .ok (.iinc 3 (-1), 3) := by decide +kernel
theorem dX7_put_155 : decode cX7_put 155 = .ok (.goto (-23), 3) := by decide +kernel
theorem dX7_put_158 : decode cX7_put 158 = .ok (.aload_n 0, 1) := by decide +kernel
theorem dX7_put_159 : decode cX7_put 159 = .ok (.getfield 16, 3) := by decide +kernel
theorem dX7_put_162 : decode cX7_put 162 = .ok (.iload_n 1, 1) := by decide +kernel
theorem dX7_put_163 : decode cX7_put 163 = .ok (.aload_n 0, 1) := by decide +kernel
theorem dX7_put_164 : decode cX7_put 164 = .ok (.getfield 13, 3) := by decide +kernel
theorem dX7_put_167 : decode cX7_put 167 = .ok (.iconst 0, 1) := by decide +kernel
theorem dX7_put_168 : decode cX7_put 168 = .ok (.invokestatic 273, 3) := by decide +kernel
theorem dX7_put_171 : decode cX7_put 171 = .ok (.aload_n 0, 1) := by decide +kernel
theorem dX7_put_172 : decode cX7_put 172 = .ok (.getfield 16, 3) := by decide +kernel
theorem dX7_put_175 : decode cX7_put 175 = .ok (.iconst 0, 1) := by decide +kernel
theorem dX7_put_176 : decode cX7_put 176 = .ok (.dup2, 1) := by decide +kernel
theorem dX7_put_177 : decode cX7_put 177 = .ok (.iaload, 1) := by decide +kernel
theorem dX7_put_178 : decode cX7_put 178 = .ok (.iconst 1, 1) := by decide +kernel
theorem dX7_put_179 : decode cX7_put 179 = .ok (.iadd, 1) := by decide +kernel
theorem dX7_put_180 : decode cX7_put 180 = .ok (.iastore, 1) := by decide +kernel
theorem dX7_put_181 : decode cX7_put 181 = .ok (.aload_n 0, 1) := by decide +kernel
theorem dX7_put_182 : decode cX7_put 182 = .ok (.getfield 16, 3) := by decide +kernel
theorem dX7_put_185 : decode cX7_put 185 = .ok (.iconst 0, 1) := by decide +kernel
theorem dX7_put_186 : decode cX7_put 186 = .ok (.iaload, 1) := by decide +kernel
theorem dX7_put_187 : decode cX7_put 187 = .ok (.ireturn, 1) := by decide +kernel
set_option maxRecDepth 20000 in
theorem ggX7_cutOn_X7_rename : GoodIn wsX7_cutOn wsX7_rename := goodIn_r _ [6, 1, 7, 8, 5, 9, 10, 11, 12, 13, 14, 15, 19, 20, 21, 22, 23, 24, 25, 26, 27, 28, 29, 30, 31, 32, 33, 34, 35, 36, 37, 38, 39, 40, 41, 42, 43, 44, 45, 46] (by decide +kernel) (by decide +kernel)
set_option maxRecDepth 20000 in
theorem gX7_cutOn_X7_rename : GoodIn wsX7_cutOn (wsV RX7 270 RX7 yX7_rename wsX7_rename) := goodIn_app (goodIn_of _ (by decide +kernel)) ggX7_cutOn_X7_rename
set_option maxRecDepth 20000 in
theorem ggX7_cutOn_X7_copyNote : GoodIn wsX7_cutOn wsX7_copyNote := goodIn_r _ [18] (by decide +kernel) (by decide +kernel)
set_option maxRecDepth 20000 in
theorem gX7_cutOn_X7_copyNote : GoodIn wsX7_cutOn (va_wsS RX7 273 yX7_copyNote wsX7_copyNote) := goodIn_app (goodIn_of _ (by decide +kernel)) ggX7_cutOn_X7_copyNote
theorem dX7_cutOn_0 : decode cX7_cutOn 0 = .ok (.iconst 0, 1) := by decide +kernel
theorem dX7_cutOn_1 : decode cX7_cutOn 1 = .ok (.istore 4, 2) := by decide +kernel
theorem dX7_cutOn_3 : decode cX7_cutOn 3 = .ok (.iload 4, 2) := by decide +kernel
theorem dX7_cutOn_5 : decode cX7_cutOn 5 = .ok (.bipush 8, 2) := by decide +kernel
theorem dX7_cutOn_7 : decode cX7_cutOn 7 = .ok (.if_icmp .ge 42, 3) := by decide +kernel
theorem dX7_cutOn_10 : decode cX7_cutOn 10 = .ok (.aload_n 0, 1) := by decide +kernel
theorem dX7_cutOn_11 : decode cX7_cutOn 11 = .ok (.getfield 62, 3) := by decide +kernel
theorem dX7_cutOn_14 : decode cX7_cutOn 14 = .ok (.iload 4, 2) := by decide +kernel
theorem dX7_cutOn_16 : decode cX7_cutOn 16 = .ok (.iload 4, 2) := by decide +kernel
theorem dX7_cutOn_18 : decode cX7_cutOn 18 = .ok (.iload_n 2, 1) := by decide +kernel
theorem dX7_cutOn_19 : decode cX7_cutOn 19 = .ok (.if_icmp .ge 8, 3) := by decide +kernel
theorem dX7_cutOn_22 : decode cX7_cutOn 22 = .ok (.iload 4, 2) := by decide +kernel
theorem dX7_cutOn_24 : decode cX7_cutOn 24 = .ok (.goto 18, 3) := by decide +kernel
theorem dX7_cutOn_27 : decode cX7_cutOn 27 = .ok (.iload 4, 2) := by decide +kernel
theorem dX7_cutOn_29 : decode cX7_cutOn 29 = .ok (.iload_n 2, 1) := by decide +kernel
theorem dX7_cutOn_30 : decode cX7_cutOn 30 = .ok (.if_icmp .ne 8, 3) := by decide +kernel
theorem dX7_cutOn_33 : decode cX7_cutOn 33 = .ok (.bipush (-9), 2) := by decide +kernel
theorem dX7_cutOn_35 : decode cX7_cutOn 35 = .ok (.goto 7, 3) := by decide +kernel
theorem dX7_cutOn_38 : decode cX7_cutOn 38 = .ok (.iload 4, 2) := by decide +kernel
theorem dX7_cutOn_40 : decode cX7_cutOn 40 = .ok (.iconst 1, 1) := by decide +kernel
theorem dX7_cutOn_41 : decode cX7_cutOn 41 = .ok (.isub, 1) := by decide +kernel
theorem dX7_cutOn_42 : decode cX7_cutOn 42 = .ok (.iastore, 1) := by decide +kernel
theorem dX7_cutOn_43 : decode cX7_cutOn 43 = .ok (.iinc 4 1, 3) := by decide +kernel
theorem dX7_cutOn_46 : decode cX7_cutOn 46 = .ok (.goto (-43), 3) := by decide +kernel
theorem dX7_cutOn_49 : decode cX7_cutOn 49 = .ok (.iload_n 3, 1) := by decide +kernel
theorem dX7_cutOn_50 : decode cX7_cutOn 50 = .ok (.iconst 1, 1) := by decide +kernel
theorem dX7_cutOn_51 : decode cX7_cutOn 51 = .ok (.if_icmp .ne 11, 3) := by decide +kernel
theorem dX7_cutOn_54 : decode cX7_cutOn 54 = .ok (.aload_n 0, 1) := by decide +kernel
theorem dX7_cutOn_55 : decode cX7_cutOn 55 = .ok (.aload_n 1, 1) := by decide +kernel
theorem dX7_cutOn_56 : decode cX7_cutOn 56 = .ok (.aload_n 1, 1) := by decide +kernel
theorem dX7_cutOn_57 : decode cX7_cutOn 57 = .ok (.iconst 0, 1) := by decide +kernel
theorem dX7_cutOn_58 : decode cX7_cutOn 58 = .ok (.iaload, 1) := by decide +kernel
theorem dX7_cutOn_59 : decode cX7_cutOn 59 = .ok (.invokevirtual 270, 3) := by decide +kernel
theorem dX7_cutOn_62 : decode cX7_cutOn 62 = .ok (.iload_n 2, 1) := by decide +kernel
theorem dX7_cutOn_63 : decode cX7_cutOn 63 = .ok (.istore 4, 2) := by decide +kernel
theorem dX7_cutOn_65 : decode cX7_cutOn 65 = .ok (.iload 4, 2) := by decide +kernel
theorem dX7_cutOn_67 : decode cX7_cutOn 67 = .ok (.aload_n 1, 1) := by decide +kernel
theorem dX7_cutOn_68 : decode cX7_cutOn 68 = .ok (.iconst 0, 1) := by decide +kernel
theorem dX7_cutOn_69 : decode cX7_cutOn 69 = .ok (.iaload, 1) := by decide +kernel
theorem dX7_cutOn_70 : decode cX7_cutOn 70 = .ok (.iconst 1, 1) := by decide +kernel
theorem dX7_cutOn_71 : decode cX7_cutOn 71 = .ok (.isub, 1) := by decide +kernel
theorem dX7_cutOn_72 : decode cX7_cutOn 72 = .ok (.if_icmp .ge 20, 3) := by decide +kernel
theorem dX7_cutOn_75 : decode cX7_cutOn 75 = .ok (.aload_n 1, 1) := by decide +kernel
theorem dX7_cutOn_76 : decode cX7_cutOn 76 = .ok (.iload 4, 2) := by decide +kernel
theorem dX7_cutOn_78 : decode cX7_cutOn 78 = .ok (.aload_n 1, 1) := by decide +kernel
theorem dX7_cutOn_79 : decode cX7_cutOn 79 = .ok (.iload 4, 2) := by decide +kernel
theorem dX7_cutOn_81 : decode cX7_cutOn 81 = .ok (.iconst 1, 1) := by decide +kernel
theorem dX7_cutOn_82 : decode cX7_cutOn 82 = .ok (.iadd, 1) := by decide +kernel
theorem dX7_cutOn_83 : decode cX7_cutOn 83 = .ok (.invokestatic 273, 3) := by decide +kernel
theorem dX7_cutOn_86 : decode cX7_cutOn 86 = .ok (.iinc 4 1, 3) := by decide +kernel
theorem dX7_cutOn_89 : decode cX7_cutOn 89 = .ok (.goto (-24), 3) := by decide +kernel
theorem dX7_cutOn_92 : decode cX7_cutOn 92 = .ok (.aload_n 1, 1) := by decide +kernel
theorem dX7_cutOn_93 : decode cX7_cutOn 93 = .ok (.iconst 0, 1) := by decide +kernel
theorem dX7_cutOn_94 : decode cX7_cutOn 94 = .ok (.dup2, 1) := by decide +kernel
theorem dX7_cutOn_95 : decode cX7_cutOn 95 = .ok (.iaload, 1) := by decide +kernel
theorem dX7_cutOn_96 : decode cX7_cutOn 96 = .ok (.iconst 1, 1) := by decide +kernel
theorem dX7_cutOn_97 : decode cX7_cutOn 97 = .ok (.isub, 1) := by decide +kernel
theorem dX7_cutOn_98 : decode cX7_cutOn 98 = .ok (.iastore, 1) := by decide +kernel
theorem dX7_cutOn_99 : decode cX7_cutOn 99 = .ok (.return_, 1) := by decide +kernel
set_option maxRecDepth 20000 in
theorem ggX7_cut_X7_in : GoodIn wsX7_cut wsX7_in := goodIn_r _ [6] (by decide +kernel) (by decide +kernel)
set_option maxRecDepth 20000 in
theorem gX7_cut_X7_in : GoodIn wsX7_cut (va_wsS RX7 72 yX7_in wsX7_in) := goodIn_app (goodIn_of _ (by decide +kernel)) ggX7_cut_X7_in
set_option maxRecDepth 20000 in
theorem ggX7_cut_X7_note : GoodIn wsX7_cut wsX7_note := goodIn_r _ [10, 11, 12, 2, 31, 32, 33, 34, 35, 36, 37, 38, 39, 40, 41, 42, 43, 44, 45, 46, 47, 48, 49, 50, 51, 52, 53, 54, 55, 56, 57, 58] (by decide +kernel) (by decide +kernel)
set_option maxRecDepth 20000 in
theorem gX7_cut_X7_note : GoodIn wsX7_cut (wsV RX7 267 RX7 yX7_note wsX7_note) := goodIn_app (goodIn_of _ (by decide +kernel)) ggX7_cut_X7_note
set_option maxRecDepth 20000 in
theorem ggX7_cut_X7_cutOn : GoodIn wsX7_cut wsX7_cutOn := goodIn_r _ [16, 17, 18, 19, 20, 5, 21, 22, 23, 24, 25, 26, 27, 3, 4, 6, 28, 29, 30, 31, 32, 33, 34, 35, 36, 37, 38, 39, 40, 41, 42, 43, 44, 45, 46, 47, 48, 49, 50, 51, 52, 53, 54, 55, 56, 57, 58] (by decide +kernel) (by decide +kernel)
set_option maxRecDepth 20000 in
theorem gX7_cut_X7_cutOn : GoodIn wsX7_cut (wsV RX7 277 RX7 yX7_cutOn wsX7_cutOn) := goodIn_app (goodIn_of _ (by decide +kernel)) ggX7_cut_X7_cutOn
theorem dX7_cut_0 : decode cX7_cut 0 = .ok (.aload_n 0, 1) := by decide +kernel
theorem dX7_cut_1 : decode cX7_cut 1 = .ok (.iconst 0, 1) := by decide +kernel
theorem dX7_cut_2 : decode cX7_cut 2 = .ok (.putfield 68, 3) := by decide +kernel
theorem dX7_cut_5 : decode cX7_cut 5 = .ok (.iload_n 1, 1) := by decide +kernel
theorem dX7_cut_6 : decode cX7_cut 6 = .ok (.i2l, 1) := by decide +kernel
theorem dX7_cut_7 : decode cX7_cut 7 = .ok (.lconst 0, 1) := by decide +kernel
theorem dX7_cut_8 : decode cX7_cut 8 = .ok (.aload_n 0, 1) := by decide +kernel
theorem dX7_cut_9 : decode cX7_cut 9 = .ok (.getfield 16, 3) := by decide +kernel
theorem dX7_cut_12 : decode cX7_cut 12 = .ok (.iconst 0, 1) := by decide +kernel
theorem dX7_cut_13 : decode cX7_cut 13 = .ok (.iaload, 1) := by decide +kernel
theorem dX7_cut_14 : decode cX7_cut 14 = .ok (.iconst 1, 1) := by decide +kernel
theorem dX7_cut_15 : decode cX7_cut 15 = .ok (.isub, 1) := by decide +kernel
theorem dX7_cut_16 : decode cX7_cut 16 = .ok (.i2l, 1) := by decide +kernel
theorem dX7_cut_17 : decode cX7_cut 17 = .ok (.invokestatic 72, 3) := by decide +kernel
theorem dX7_cut_20 : decode cX7_cut 20 = .ok (.ifCond .ne 5, 3) := by decide +kernel
theorem dX7_cut_23 : decode cX7_cut 23 = .ok (.iconst (-1), 1) := by decide +kernel
theorem dX7_cut_24 : decode cX7_cut 24 = .ok (.ireturn, 1) := by decide +kernel
theorem dX7_cut_25 : decode cX7_cut 25 = .ok (.iload_n 2, 1) := by decide +kernel
theorem dX7_cut_26 : decode cX7_cut 26 = .ok (.i2l, 1) := by decide +kernel
theorem dX7_cut_27 : decode cX7_cut 27 = .ok (.lconst 0, 1) := by decide +kernel
theorem dX7_cut_28 : decode cX7_cut 28 = .ok (.lconst 1, 1) := by decide +kernel
theorem dX7_cut_29 : decode cX7_cut 29 = .ok (.invokestatic 72, 3) := by decide +kernel
theorem dX7_cut_32 : decode cX7_cut 32 = .ok (.ifCond .ne 6, 3) := by decide +kernel
theorem dX7_cut_35 : decode cX7_cut 35 = .ok (.bipush (-2), 2) := by decide +kernel
theorem dX7_cut_37 : decode cX7_cut 37 = .ok (.ireturn, 1) := by decide +kernel
theorem dX7_cut_38 : decode cX7_cut 38 = .ok (.aload_n 0, 1) := by decide +kernel
theorem dX7_cut_39 : decode cX7_cut 39 = .ok (.invokevirtual 267, 3) := by decide +kernel
theorem dX7_cut_42 : decode cX7_cut 42 = .ok (.aload_n 0, 1) := by decide +kernel
theorem dX7_cut_43 : decode cX7_cut 43 = .ok (.aload_n 0, 1) := by decide +kernel
theorem dX7_cut_44 : decode cX7_cut 44 = .ok (.getfield 16, 3) := by decide +kernel
theorem dX7_cut_47 : decode cX7_cut 47 = .ok (.iload_n 1, 1) := by decide +kernel
theorem dX7_cut_48 : decode cX7_cut 48 = .ok (.iload_n 2, 1) := by decide +kernel
theorem dX7_cut_49 : decode cX7_cut 49 = .ok (.invokevirtual 277, 3) := by decide +kernel
theorem dX7_cut_52 : decode cX7_cut 52 = .ok (.aload_n 0, 1) := by decide +kernel
theorem dX7_cut_53 : decode cX7_cut 53 = .ok (.getfield 16, 3) := by decide +kernel
theorem dX7_cut_56 : decode cX7_cut 56 = .ok (.iconst 0, 1) := by decide +kernel
theorem dX7_cut_57 : decode cX7_cut 57 = .ok (.iaload, 1) := by decide +kernel
theorem dX7_cut_58 : decode cX7_cut 58 = .ok (.ireturn, 1) := by decide +kernel
set_option maxRecDepth 20000 in
theorem ggX7_moveOn_X7_rename : GoodIn wsX7_moveOn wsX7_rename := goodIn_r _ [7, 1, 8, 9, 6, 10, 11, 12, 13, 14, 15, 16, 23, 24, 25, 26, 27, 28, 29, 30, 31, 32, 33, 34, 35, 36, 37, 38, 39, 40, 41, 42, 43, 44, 45, 46, 47, 48, 49, 50] (by decide +kernel) (by decide +kernel)
set_option maxRecDepth 20000 in
theorem gX7_moveOn_X7_rename : GoodIn wsX7_moveOn (wsV RX7 270 RX7 yX7_rename wsX7_rename) := goodIn_app (goodIn_of _ (by decide +kernel)) ggX7_moveOn_X7_rename
set_option maxRecDepth 20000 in
theorem ggX7_moveOn_X7_lay : GoodIn wsX7_moveOn wsX7_lay := goodIn_r _ [19] (by decide +kernel) (by decide +kernel)
set_option maxRecDepth 20000 in
theorem gX7_moveOn_X7_lay : GoodIn wsX7_moveOn (va_wsS RX7 127 yX7_lay wsX7_lay) := goodIn_app (goodIn_of _ (by decide +kernel)) ggX7_moveOn_X7_lay
set_option maxRecDepth 20000 in
theorem ggX7_moveOn_X7_copyNote : GoodIn wsX7_moveOn wsX7_copyNote := goodIn_r _ [22] (by decide +kernel) (by decide +kernel)
set_option maxRecDepth 20000 in
theorem gX7_moveOn_X7_copyNote : GoodIn wsX7_moveOn (va_wsS RX7 273 yX7_copyNote wsX7_copyNote) := goodIn_app (goodIn_of _ (by decide +kernel)) ggX7_moveOn_X7_copyNote
theorem dX7_moveOn_0 : decode cX7_moveOn 0 = .ok (.iconst 0, 1) := by decide +kernel
theorem dX7_moveOn_1 : decode cX7_moveOn 1 = .ok (.istore 5, 2) := by decide +kernel
theorem dX7_moveOn_3 : decode cX7_moveOn 3 = .ok (.iload 5, 2) := by decide +kernel
theorem dX7_moveOn_5 : decode cX7_moveOn 5 = .ok (.bipush 8, 2) := by decide +kernel
theorem dX7_moveOn_7 : decode cX7_moveOn 7 = .ok (.if_icmp .ge 66, 3) := by decide +kernel
theorem dX7_moveOn_10 : decode cX7_moveOn 10 = .ok (.aload_n 0, 1) := by decide +kernel
theorem dX7_moveOn_11 : decode cX7_moveOn 11 = .ok (.getfield 62, 3) := by decide +kernel
theorem dX7_moveOn_14 : decode cX7_moveOn 14 = .ok (.iload 5, 2) := by decide +kernel
theorem dX7_moveOn_16 : decode cX7_moveOn 16 = .ok (.iload 5, 2) := by decide +kernel
theorem dX7_moveOn_18 : decode cX7_moveOn 18 = .ok (.iload_n 2, 1) := by decide +kernel
theorem dX7_moveOn_19 : decode cX7_moveOn 19 = .ok (.if_icmp .ne 7, 3) := by decide +kernel
theorem dX7_moveOn_22 : decode cX7_moveOn 22 = .ok (.iload_n 3, 1) := by decide +kernel
theorem dX7_moveOn_23 : decode cX7_moveOn 23 = .ok (.goto 43, 3) := by decide +kernel
theorem dX7_moveOn_26 : decode cX7_moveOn 26 = .ok (.iload_n 2, 1) := by decide +kernel
theorem dX7_moveOn_27 : decode cX7_moveOn 27 = .ok (.iload 5, 2) := by decide +kernel
theorem dX7_moveOn_29 : decode cX7_moveOn 29 = .ok (.if_icmp .ge 16, 3) := by decide +kernel
theorem dX7_moveOn_32 : decode cX7_moveOn 32 = .ok (.iload 5, 2) := by decide +kernel
theorem dX7_moveOn_34 : decode cX7_moveOn 34 = .ok (.iload_n 3, 1) := by decide +kernel
theorem dX7_moveOn_35 : decode cX7_moveOn 35 = .ok (.if_icmp .gt 10, 3) := by decide +kernel
theorem dX7_moveOn_38 : decode cX7_moveOn 38 = .ok (.iload 5, 2) := by decide +kernel
theorem dX7_moveOn_40 : decode cX7_moveOn 40 = .ok (.iconst 1, 1) := by decide +kernel
theorem dX7_moveOn_41 : decode cX7_moveOn 41 = .ok (.isub, 1) := by decide +kernel
theorem dX7_moveOn_42 : decode cX7_moveOn 42 = .ok (.goto 24, 3) := by decide +kernel
theorem dX7_moveOn_45 : decode cX7_moveOn 45 = .ok (.iload_n 3, 1) := by decide +kernel
theorem dX7_moveOn_46 : decode cX7_moveOn 46 = .ok (.iload 5, 2) := by decide +kernel
theorem dX7_moveOn_48 : decode cX7_moveOn 48 = .ok (.if_icmp .gt 16, 3) := by decide +kernel
theorem dX7_moveOn_51 : decode cX7_moveOn 51 = .ok (.iload 5, 2) := by decide +kernel
theorem dX7_moveOn_53 : decode cX7_moveOn 53 = .ok (.iload_n 2, 1) := by decide +kernel
theorem dX7_moveOn_54 : decode cX7_moveOn 54 = .ok (.if_icmp .ge 10, 3) := by decide +kernel
theorem dX7_moveOn_57 : decode cX7_moveOn 57 = .ok (.iload 5, 2) := by decide +kernel
theorem dX7_moveOn_59 : decode cX7_moveOn 59 = .ok (.iconst 1, 1) := by decide +kernel
theorem dX7_moveOn_60 : decode cX7_moveOn 60 = .ok (.iadd, 1) := by decide +kernel
theorem dX7_moveOn_61 : decode cX7_moveOn 61 = .ok (.goto 5, 3) := by decide +kernel
theorem dX7_moveOn_64 : decode cX7_moveOn 64 = .ok (.iload 5, 2) := by decide +kernel
theorem dX7_moveOn_66 : decode cX7_moveOn 66 = .ok (.iastore, 1) := by decide +kernel
theorem dX7_moveOn_67 : decode cX7_moveOn 67 = .ok (.iinc 5 1, 3) := by decide +kernel
theorem dX7_moveOn_70 : decode cX7_moveOn 70 = .ok (.goto (-67), 3) := by decide +kernel
theorem dX7_moveOn_73 : decode cX7_moveOn 73 = .ok (.iload 4, 2) := by decide +kernel
theorem dX7_moveOn_75 : decode cX7_moveOn 75 = .ok (.iconst 1, 1) := by decide +kernel
theorem dX7_moveOn_76 : decode cX7_moveOn 76 = .ok (.if_icmp .ne 11, 3) := by decide +kernel
theorem dX7_moveOn_79 : decode cX7_moveOn 79 = .ok (.aload_n 0, 1) := by decide +kernel
theorem dX7_moveOn_80 : decode cX7_moveOn 80 = .ok (.aload_n 1, 1) := by decide +kernel
theorem dX7_moveOn_81 : decode cX7_moveOn 81 = .ok (.aload_n 1, 1) := by decide +kernel
theorem dX7_moveOn_82 : decode cX7_moveOn 82 = .ok (.iconst 0, 1) := by decide +kernel
theorem dX7_moveOn_83 : decode cX7_moveOn 83 = .ok (.iaload, 1) := by decide +kernel
theorem dX7_moveOn_84 : decode cX7_moveOn 84 = .ok (.invokevirtual 270, 3) := by decide +kernel
theorem dX7_moveOn_87 : decode cX7_moveOn 87 = .ok (.aload_n 0, 1) := by decide +kernel
theorem dX7_moveOn_88 : decode cX7_moveOn 88 = .ok (.getfield 22, 3) := by decide +kernel
theorem dX7_moveOn_91 : decode cX7_moveOn 91 = .ok (.aload_n 1, 1) := by decide +kernel
theorem dX7_moveOn_92 : decode cX7_moveOn 92 = .ok (.invokestatic 127, 3) := by decide +kernel
theorem dX7_moveOn_95 : decode cX7_moveOn 95 = .ok (.iconst 0, 1) := by decide +kernel
theorem dX7_moveOn_96 : decode cX7_moveOn 96 = .ok (.istore 5, 2) := by decide +kernel
theorem dX7_moveOn_98 : decode cX7_moveOn 98 = .ok (.iload 5, 2) := by decide +kernel
theorem dX7_moveOn_100 : decode cX7_moveOn 100 = .ok (.aload_n 1, 1) := by decide +kernel
theorem dX7_moveOn_101 : decode cX7_moveOn 101 = .ok (.iconst 0, 1) := by decide +kernel
theorem dX7_moveOn_102 : decode cX7_moveOn 102 = .ok (.iaload, 1) := by decide +kernel
theorem dX7_moveOn_103 : decode cX7_moveOn 103 = .ok (.if_icmp .ge 26, 3) := by decide +kernel
theorem dX7_moveOn_106 : decode cX7_moveOn 106 = .ok (.aload_n 1, 1) := by decide +kernel
theorem dX7_moveOn_107 : decode cX7_moveOn 107 = .ok (.aload_n 0, 1) := by decide +kernel
theorem dX7_moveOn_108 : decode cX7_moveOn 108 = .ok (.getfield 62, 3) := by decide +kernel
theorem dX7_moveOn_111 : decode cX7_moveOn 111 = .ok (.iload 5, 2) := by decide +kernel
theorem dX7_moveOn_113 : decode cX7_moveOn 113 = .ok (.iaload, 1) := by decide +kernel
theorem dX7_moveOn_114 : decode cX7_moveOn 114 = .ok (.aload_n 0, 1) := by decide +kernel
theorem dX7_moveOn_115 : decode cX7_moveOn 115 = .ok (.getfield 22, 3) := by decide +kernel
theorem dX7_moveOn_118 : decode cX7_moveOn 118 = .ok (.iload 5, 2) := by decide +kernel
theorem dX7_moveOn_120 : decode cX7_moveOn 120 = .ok (.invokestatic 273, 3) := by decide +kernel
theorem dX7_moveOn_123 : decode cX7_moveOn 123 = .ok (.iinc 5 1, 3) := by decide +kernel
theorem dX7_moveOn_126 : decode cX7_moveOn 126 = .ok (.goto (-28), 3) := by decide +kernel
theorem dX7_moveOn_129 : decode cX7_moveOn 129 = .ok (.return_, 1) := by decide +kernel
set_option maxRecDepth 20000 in
theorem ggX7_move_X7_in : GoodIn wsX7_move wsX7_in := goodIn_r _ [6] (by decide +kernel) (by decide +kernel)
set_option maxRecDepth 20000 in
theorem gX7_move_X7_in : GoodIn wsX7_move (va_wsS RX7 72 yX7_in wsX7_in) := goodIn_app (goodIn_of _ (by decide +kernel)) ggX7_move_X7_in
set_option maxRecDepth 20000 in
theorem ggX7_move_X7_note : GoodIn wsX7_move wsX7_note := goodIn_r _ [10, 11, 12, 2, 108, 109, 110, 111, 112, 113, 114, 115, 116, 117, 118, 119, 120, 121, 122, 123, 124, 125, 126, 127, 128, 129, 130, 131, 132, 133, 134, 135] (by decide +kernel) (by decide +kernel)
set_option maxRecDepth 20000 in
theorem gX7_move_X7_note : GoodIn wsX7_move (wsV RX7 267 RX7 yX7_note wsX7_note) := goodIn_app (goodIn_of _ (by decide +kernel)) ggX7_move_X7_note
set_option maxRecDepth 20000 in
theorem ggX7_move_X7_moveOn : GoodIn wsX7_move wsX7_moveOn := goodIn_r _ [16, 17, 18, 19, 20, 21, 5, 22, 23, 24, 25, 26, 27, 28, 3, 4, 6, 29, 30, 31, 32, 33, 34, 108, 109, 110, 111, 112, 113, 114, 115, 116, 117, 118, 119, 120, 121, 122, 123, 124, 125, 126, 127, 128, 129, 130, 131, 132, 133, 134, 135] (by decide +kernel) (by decide +kernel)
set_option maxRecDepth 20000 in
theorem gX7_move_X7_moveOn : GoodIn wsX7_move (wsV RX7 281 RX7 yX7_moveOn wsX7_moveOn) := goodIn_app (goodIn_of _ (by decide +kernel)) ggX7_move_X7_moveOn
set_option maxRecDepth 20000 in
theorem ggX7_move_X7_dead : GoodIn wsX7_move wsX7_dead := goodIn_r _ [38, 39, 40, 41, 5, 42, 43, 44, 45, 46, 47, 48, 49, 50, 51, 52, 53, 54, 55, 56, 57, 58, 59, 60, 61, 62, 63, 64, 65, 26, 27, 28, 3, 4, 6, 66, 67, 68, 23, 24, 25, 69, 70, 71, 72, 73, 74, 75, 76, 77, 78, 79, 80, 81, 82, 83, 84, 85, 86, 87, 88, 89, 90, 91, 92, 93, 94, 95, 96, 97, 98, 99, 100, 101, 102, 103, 104, 105, 106, 107, 108, 109, 110, 111, 112, 113, 114, 115, 116, 117, 118, 119, 120, 121, 122, 123, 124, 125, 126, 127, 128, 129, 130, 131, 132, 133, 134, 135] (by decide +kernel) (by decide +kernel)
set_option maxRecDepth 20000 in
theorem gX7_move_X7_dead : GoodIn wsX7_move (wsV RX7 285 RX7 yX7_dead wsX7_dead) := goodIn_app (goodIn_of _ (by decide +kernel)) ggX7_move_X7_dead
theorem dX7_move_0 : decode cX7_move 0 = .ok (.aload_n 0, 1) := by decide +kernel
theorem dX7_move_1 : decode cX7_move 1 = .ok (.iconst 0, 1) := by decide +kernel
theorem dX7_move_2 : decode cX7_move 2 = .ok (.putfield 68, 3) := by decide +kernel
theorem dX7_move_5 : decode cX7_move 5 = .ok (.iload_n 1, 1) := by decide +kernel
theorem dX7_move_6 : decode cX7_move 6 = .ok (.i2l, 1) := by decide +kernel
theorem dX7_move_7 : decode cX7_move 7 = .ok (.lconst 0, 1) := by decide +kernel
theorem dX7_move_8 : decode cX7_move 8 = .ok (.aload_n 0, 1) := by decide +kernel
theorem dX7_move_9 : decode cX7_move 9 = .ok (.getfield 16, 3) := by decide +kernel
theorem dX7_move_12 : decode cX7_move 12 = .ok (.iconst 0, 1) := by decide +kernel
theorem dX7_move_13 : decode cX7_move 13 = .ok (.iaload, 1) := by decide +kernel
theorem dX7_move_14 : decode cX7_move 14 = .ok (.iconst 1, 1) := by decide +kernel
theorem dX7_move_15 : decode cX7_move 15 = .ok (.isub, 1) := by decide +kernel
theorem dX7_move_16 : decode cX7_move 16 = .ok (.i2l, 1) := by decide +kernel
theorem dX7_move_17 : decode cX7_move 17 = .ok (.invokestatic 72, 3) := by decide +kernel
theorem dX7_move_20 : decode cX7_move 20 = .ok (.ifCond .eq 21, 3) := by decide +kernel
theorem dX7_move_23 : decode cX7_move 23 = .ok (.iload_n 2, 1) := by decide +kernel
theorem dX7_move_24 : decode cX7_move 24 = .ok (.i2l, 1) := by decide +kernel
theorem dX7_move_25 : decode cX7_move 25 = .ok (.lconst 0, 1) := by decide +kernel
theorem dX7_move_26 : decode cX7_move 26 = .ok (.aload_n 0, 1) := by decide +kernel
theorem dX7_move_27 : decode cX7_move 27 = .ok (.getfield 16, 3) := by decide +kernel
theorem dX7_move_30 : decode cX7_move 30 = .ok (.iconst 0, 1) := by decide +kernel
theorem dX7_move_31 : decode cX7_move 31 = .ok (.iaload, 1) := by decide +kernel
theorem dX7_move_32 : decode cX7_move 32 = .ok (.iconst 1, 1) := by decide +kernel
theorem dX7_move_33 : decode cX7_move 33 = .ok (.isub, 1) := by decide +kernel
theorem dX7_move_34 : decode cX7_move 34 = .ok (.i2l, 1) := by decide +kernel
theorem dX7_move_35 : decode cX7_move 35 = .ok (.invokestatic 72, 3) := by decide +kernel
theorem dX7_move_38 : decode cX7_move 38 = .ok (.ifCond .ne 5, 3) := by decide +kernel
theorem dX7_move_41 : decode cX7_move 41 = .ok (.iconst (-1), 1) := by decide +kernel
theorem dX7_move_42 : decode cX7_move 42 = .ok (.ireturn, 1) := by decide +kernel
theorem dX7_move_43 : decode cX7_move 43 = .ok (.iload_n 3, 1) := by decide +kernel
theorem dX7_move_44 : decode cX7_move 44 = .ok (.i2l, 1) := by decide +kernel
theorem dX7_move_45 : decode cX7_move 45 = .ok (.lconst 0, 1) := by decide +kernel
theorem dX7_move_46 : decode cX7_move 46 = .ok (.lconst 1, 1) := by decide +kernel
theorem dX7_move_47 : decode cX7_move 47 = .ok (.invokestatic 72, 3) := by decide +kernel
theorem dX7_move_50 : decode cX7_move 50 = .ok (.ifCond .ne 6, 3) := by decide +kernel
theorem dX7_move_53 : decode cX7_move 53 = .ok (.bipush (-2), 2) := by decide +kernel
theorem dX7_move_55 : decode cX7_move 55 = .ok (.ireturn, 1) := by decide +kernel
theorem dX7_move_56 : decode cX7_move 56 = .ok (.aload_n 0, 1) := by decide +kernel
theorem dX7_move_57 : decode cX7_move 57 = .ok (.invokevirtual 267, 3) := by decide +kernel
theorem dX7_move_60 : decode cX7_move 60 = .ok (.aload_n 0, 1) := by decide +kernel
theorem dX7_move_61 : decode cX7_move 61 = .ok (.aload_n 0, 1) := by decide +kernel
theorem dX7_move_62 : decode cX7_move 62 = .ok (.getfield 16, 3) := by decide +kernel
theorem dX7_move_65 : decode cX7_move 65 = .ok (.iload_n 1, 1) := by decide +kernel
theorem dX7_move_66 : decode cX7_move 66 = .ok (.iload_n 2, 1) := by decide +kernel
theorem dX7_move_67 : decode cX7_move 67 = .ok (.iload_n 3, 1) := by decide +kernel
theorem dX7_move_68 : decode cX7_move 68 = .ok (.invokevirtual 281, 3) := by decide +kernel
theorem dX7_move_71 : decode cX7_move 71 = .ok (.aload_n 0, 1) := by decide +kernel
theorem dX7_move_72 : decode cX7_move 72 = .ok (.aload_n 0, 1) := by decide +kernel
theorem dX7_move_73 : decode cX7_move 73 = .ok (.getfield 16, 3) := by decide +kernel
theorem dX7_move_76 : decode cX7_move 76 = .ok (.invokevirtual 285, 3) := by decide +kernel
theorem dX7_move_79 : decode cX7_move 79 = .ok (.ireturn, 1) := by decide +kernel
theorem dX7_putBrief_0 : decode cX7_putBrief 0 = .ok (.iconst 0, 1) := by decide +kernel
theorem dX7_putBrief_1 : decode cX7_putBrief 1 = .ok (.istore_n 3, 1) := by decide +kernel
theorem dX7_putBrief_2 : decode cX7_putBrief 2 = .ok (.iload_n 3, 1) := by decide +kernel
theorem dX7_putBrief_3 : decode cX7_putBrief 3 = .ok (.bipush 8, 2) := by decide +kernel
theorem dX7_putBrief_5 : decode cX7_putBrief 5 = .ok (.if_icmp .ge 26, 3) := by decide +kernel
theorem dX7_putBrief_8 : decode cX7_putBrief 8 = .ok (.aload_n 1, 1) := by decide +kernel
theorem dX7_putBrief_9 : decode cX7_putBrief 9 = .ok (.bipush 9, 2) := by decide +kernel
theorem dX7_putBrief_11 : decode cX7_putBrief 11 = .ok (.bipush 8, 2) := by decide +kernel
theorem dX7_putBrief_13 : decode cX7_putBrief 13 = .ok (.iload_n 2, 1) := by decide +kernel
theorem dX7_putBrief_14 : decode cX7_putBrief 14 = .ok (.imul, 1) := by decide +kernel
theorem dX7_putBrief_15 : decode cX7_putBrief 15 = .ok (.iadd, 1) := by decide +kernel
theorem dX7_putBrief_16 : decode cX7_putBrief 16 = .ok (.iload_n 3, 1) := by decide +kernel
theorem dX7_putBrief_17 : decode cX7_putBrief 17 = .ok (.iadd, 1) := by decide +kernel
theorem dX7_putBrief_18 : decode cX7_putBrief 18 = .ok (.aload_n 0, 1) := by decide +kernel
theorem dX7_putBrief_19 : decode cX7_putBrief 19 = .ok (.getfield 56, 3) := by decide +kernel
theorem dX7_putBrief_22 : decode cX7_putBrief 22 = .ok (.iload_n 3, 1) := by decide +kernel
theorem dX7_putBrief_23 : decode cX7_putBrief 23 = .ok (.iaload, 1) := by decide +kernel
theorem dX7_putBrief_24 : decode cX7_putBrief 24 = .ok (.iastore, 1) := by decide +kernel
theorem dX7_putBrief_25 : decode cX7_putBrief 25 = .ok (.iinc 3 1, 3) := by decide +kernel
theorem dX7_putBrief_28 : decode cX7_putBrief 28 = .ok (.goto (-26), 3) := by decide +kernel
theorem dX7_putBrief_31 : decode cX7_putBrief 31 = .ok (.return_, 1) := by decide +kernel
set_option maxRecDepth 20000 in
theorem ggX7_respell_X7_isThere : GoodIn wsX7_respell wsX7_isThere := goodIn_r _ [8, 9, 10, 7, 11] (by decide +kernel) (by decide +kernel)
set_option maxRecDepth 20000 in
theorem gX7_respell_X7_isThere : GoodIn wsX7_respell (va_wsS RX7 76 yX7_isThere wsX7_isThere) := goodIn_app (goodIn_of _ (by decide +kernel)) ggX7_respell_X7_isThere
set_option maxRecDepth 20000 in
theorem ggX7_respell_X7_in : GoodIn wsX7_respell wsX7_in := goodIn_r _ [11] (by decide +kernel) (by decide +kernel)
set_option maxRecDepth 20000 in
theorem gX7_respell_X7_in : GoodIn wsX7_respell (va_wsS RX7 72 yX7_in wsX7_in) := goodIn_app (goodIn_of _ (by decide +kernel)) ggX7_respell_X7_in
set_option maxRecDepth 20000 in
theorem ggX7_respell_X7_findAll : GoodIn wsX7_respell wsX7_findAll := goodIn_r _ [15, 16, 17, 7, 18, 19, 20, 21, 22, 3, 23, 24, 25, 26, 27, 28, 29, 30, 31, 32, 33, 34, 35, 36, 37, 5, 6, 8, 9, 10, 11, 38, 39, 40, 41, 42, 43, 44, 45, 46, 47, 48, 49, 50, 51, 52, 53, 54, 55, 56, 57, 58, 59, 60, 61, 62, 63, 64, 65, 66, 67, 68, 69, 70, 71, 72, 73, 74, 75, 104, 105, 106, 107, 108, 109, 110, 111, 112, 113, 114, 115, 116, 117, 118, 119, 120, 121, 122, 123, 124, 125, 126, 127, 128, 129, 130, 131] (by decide +kernel) (by decide +kernel)
set_option maxRecDepth 20000 in
theorem gX7_respell_X7_findAll : GoodIn wsX7_respell (wsV RX7 194 RX7 yX7_findAll wsX7_findAll) := goodIn_app (goodIn_of _ (by decide +kernel)) ggX7_respell_X7_findAll
set_option maxRecDepth 20000 in
theorem ggX7_respell_X7_note : GoodIn wsX7_respell wsX7_note := goodIn_r _ [79, 80, 81, 2, 104, 105, 106, 107, 108, 109, 110, 111, 112, 113, 114, 115, 116, 117, 118, 119, 120, 121, 122, 123, 124, 125, 126, 127, 128, 129, 130, 131] (by decide +kernel) (by decide +kernel)
set_option maxRecDepth 20000 in
theorem gX7_respell_X7_note : GoodIn wsX7_respell (wsV RX7 267 RX7 yX7_note wsX7_note) := goodIn_app (goodIn_of _ (by decide +kernel)) ggX7_respell_X7_note
set_option maxRecDepth 20000 in
theorem ggX7_respell_X7_shorten : GoodIn wsX7_respell wsX7_shorten := goodIn_r _ [85, 4, 3, 41, 42, 7, 43, 86, 87, 88, 16, 17, 18, 32, 33, 34, 35, 36, 37, 5, 6, 8, 9, 10, 11, 38, 39, 40, 89, 90, 91, 47, 48, 49, 68, 69, 70, 71, 31, 54, 55, 56, 57, 24, 58, 59, 60, 61, 62, 63, 64, 65, 66, 67, 30, 72, 73, 74, 75, 92, 93, 94, 95, 96, 97, 98, 99, 104, 105, 106, 107, 108, 109, 110, 111, 112, 113, 114, 115, 116, 117, 118, 119, 120, 121, 122, 123, 124, 125, 126, 127, 128, 129, 130, 131] (by decide +kernel) (by decide +kernel)
set_option maxRecDepth 20000 in
theorem gX7_respell_X7_shorten : GoodIn wsX7_respell (wsV RX7 242 RX7 yX7_shorten wsX7_shorten) := goodIn_app (goodIn_of _ (by decide +kernel)) ggX7_respell_X7_shorten
set_option maxRecDepth 20000 in
theorem ggX7_respell_X7_laySpelled : GoodIn wsX7_respell wsX7_laySpelled := goodIn_r _ [99, 4, 31, 41, 42, 7, 43, 104, 105, 106, 107, 108, 109, 110, 111, 112, 113, 114, 115, 116, 117, 118, 119, 120, 121, 122, 123, 124, 125, 126, 127, 128, 129, 130, 131] (by decide +kernel) (by decide +kernel)
set_option maxRecDepth 20000 in
theorem gX7_respell_X7_laySpelled : GoodIn wsX7_respell (wsV RX7 239 RX7 yX7_laySpelled wsX7_laySpelled) := goodIn_app (goodIn_of _ (by decide +kernel)) ggX7_respell_X7_laySpelled
set_option maxRecDepth 20000 in
theorem ggX7_respell_X7_putBrief : GoodIn wsX7_respell wsX7_putBrief := goodIn_r _ [103, 4, 104, 105, 106, 107, 108, 109, 110, 111, 112, 113, 114, 115, 116, 117, 118, 119, 120, 121, 122, 123, 124, 125, 126, 127, 128, 129, 130, 131] (by decide +kernel) (by decide +kernel)
set_option maxRecDepth 20000 in
theorem gX7_respell_X7_putBrief : GoodIn wsX7_respell (wsV RX7 288 RX7 yX7_putBrief wsX7_putBrief) := goodIn_app (goodIn_of _ (by decide +kernel)) ggX7_respell_X7_putBrief
theorem dX7_respell_0 : decode cX7_respell 0 = .ok (.aload_n 0, 1) := by decide +kernel
theorem dX7_respell_1 : decode cX7_respell 1 = .ok (.iconst 0, 1) := by decide +kernel
theorem dX7_respell_2 : decode cX7_respell 2 = .ok (.putfield 68, 3) := by decide +kernel
theorem dX7_respell_5 : decode cX7_respell 5 = .ok (.aload_n 0, 1) := by decide +kernel
theorem dX7_respell_6 : decode cX7_respell 6 = .ok (.getfield 16, 3) := by decide +kernel
theorem dX7_respell_9 : decode cX7_respell 9 = .ok (.iload_n 1, 1) := by decide +kernel
theorem dX7_respell_10 : decode cX7_respell 10 = .ok (.iload_n 2, 1) := by decide +kernel
theorem dX7_respell_11 : decode cX7_respell 11 = .ok (.invokestatic 76, 3) := by decide +kernel
theorem dX7_respell_14 : decode cX7_respell 14 = .ok (.ifCond .ne 5, 3) := by decide +kernel
theorem dX7_respell_17 : decode cX7_respell 17 = .ok (.iconst (-1), 1) := by decide +kernel
theorem dX7_respell_18 : decode cX7_respell 18 = .ok (.ireturn, 1) := by decide +kernel
theorem dX7_respell_19 : decode cX7_respell 19 = .ok (.iload_n 3, 1) := by decide +kernel
theorem dX7_respell_20 : decode cX7_respell 20 = .ok (.i2l, 1) := by decide +kernel
theorem dX7_respell_21 : decode cX7_respell 21 = .ok (.lconst 0, 1) := by decide +kernel
theorem dX7_respell_22 : decode cX7_respell 22 = .ok (.lconst 1, 1) := by decide +kernel
theorem dX7_respell_23 : decode cX7_respell 23 = .ok (.invokestatic 72, 3) := by decide +kernel
theorem dX7_respell_26 : decode cX7_respell 26 = .ok (.ifCond .ne 6, 3) := by decide +kernel
theorem dX7_respell_29 : decode cX7_respell 29 = .ok (.bipush (-2), 2) := by decide +kernel
theorem dX7_respell_31 : decode cX7_respell 31 = .ok (.ireturn, 1) := by decide +kernel
theorem dX7_respell_32 : decode cX7_respell 32 = .ok (.iconst 4, 1) := by decide +kernel
theorem dX7_respell_33 : decode cX7_respell 33 = .ok (.iload_n 1, 1) := by decide +kernel
theorem dX7_respell_34 : decode cX7_respell 34 = .ok (.imul, 1) := by decide +kernel
theorem dX7_respell_35 : decode cX7_respell 35 = .ok (.iload_n 2, 1) := by decide +kernel
theorem dX7_respell_36 : decode cX7_respell 36 = .ok (.iadd, 1) := by decide +kernel
theorem dX7_respell_37 : decode cX7_respell 37 = .ok (.istore 4, 2) := by decide +kernel
theorem dX7_respell_39 : decode cX7_respell 39 = .ok (.aload_n 0, 1) := by decide +kernel
theorem dX7_respell_40 : decode cX7_respell 40 = .ok (.aload_n 0, 1) := by decide +kernel
theorem dX7_respell_41 : decode cX7_respell 41 = .ok (.getfield 16, 3) := by decide +kernel
theorem dX7_respell_44 : decode cX7_respell 44 = .ok (.invokevirtual 194, 3) := by decide +kernel
theorem dX7_respell_47 : decode cX7_respell 47 = .ok (.aload_n 0, 1) := by decide +kernel
theorem dX7_respell_48 : decode cX7_respell 48 = .ok (.getfield 47, 3) := by decide +kernel
theorem dX7_respell_51 : decode cX7_respell 51 = .ok (.iload 4, 2) := by decide +kernel
theorem dX7_respell_53 : decode cX7_respell 53 = .ok (.iaload, 1) := by decide +kernel
theorem dX7_respell_54 : decode cX7_respell 54 = .ok (.bipush (-9), 2) := by decide +kernel
theorem dX7_respell_56 : decode cX7_respell 56 = .ok (.if_icmp .ne 6, 3) := by decide +kernel
theorem dX7_respell_59 : decode cX7_respell 59 = .ok (.bipush (-3), 2) := by decide +kernel
theorem dX7_respell_61 : decode cX7_respell 61 = .ok (.ireturn, 1) := by decide +kernel
theorem dX7_respell_62 : decode cX7_respell 62 = .ok (.aload_n 0, 1) := by decide +kernel
theorem dX7_respell_63 : decode cX7_respell 63 = .ok (.invokevirtual 267, 3) := by decide +kernel
theorem dX7_respell_66 : decode cX7_respell 66 = .ok (.aload_n 0, 1) := by decide +kernel
theorem dX7_respell_67 : decode cX7_respell 67 = .ok (.aload_n 0, 1) := by decide +kernel
theorem dX7_respell_68 : decode cX7_respell 68 = .ok (.getfield 16, 3) := by decide +kernel
theorem dX7_respell_71 : decode cX7_respell 71 = .ok (.iload 4, 2) := by decide +kernel
theorem dX7_respell_73 : decode cX7_respell 73 = .ok (.invokevirtual 242, 3) := by decide +kernel
theorem dX7_respell_76 : decode cX7_respell 76 = .ok (.iload_n 3, 1) := by decide +kernel
theorem dX7_respell_77 : decode cX7_respell 77 = .ok (.iconst 1, 1) := by decide +kernel
theorem dX7_respell_78 : decode cX7_respell 78 = .ok (.if_icmp .ne 18, 3) := by decide +kernel
theorem dX7_respell_81 : decode cX7_respell 81 = .ok (.aload_n 0, 1) := by decide +kernel
theorem dX7_respell_82 : decode cX7_respell 82 = .ok (.aload_n 0, 1) := by decide +kernel
theorem dX7_respell_83 : decode cX7_respell 83 = .ok (.getfield 16, 3) := by decide +kernel
theorem dX7_respell_86 : decode cX7_respell 86 = .ok (.aload_n 0, 1) := by decide +kernel
theorem dX7_respell_87 : decode cX7_respell 87 = .ok (.getfield 47, 3) := by decide +kernel
theorem dX7_respell_90 : decode cX7_respell 90 = .ok (.iload 4, 2) := by decide +kernel
theorem dX7_respell_92 : decode cX7_respell 92 = .ok (.iaload, 1) := by decide +kernel
theorem dX7_respell_93 : decode cX7_respell 93 = .ok (.invokevirtual 239, 3) := by decide +kernel
theorem dX7_respell_96 : decode cX7_respell 96 = .ok (.aload_n 0, 1) := by decide +kernel
theorem dX7_respell_97 : decode cX7_respell 97 = .ok (.aload_n 0, 1) := by decide +kernel
theorem dX7_respell_98 : decode cX7_respell 98 = .ok (.getfield 16, 3) := by decide +kernel
theorem dX7_respell_101 : decode cX7_respell 101 = .ok (.iload 4, 2) := by decide +kernel
theorem dX7_respell_103 : decode cX7_respell 103 = .ok (.invokevirtual 288, 3) := by decide +kernel
theorem dX7_respell_106 : decode cX7_respell 106 = .ok (.aload_n 0, 1) := by decide +kernel
theorem dX7_respell_107 : decode cX7_respell 107 = .ok (.getfield 56, 3) := by decide +kernel
theorem dX7_respell_110 : decode cX7_respell 110 = .ok (.iconst 0, 1) := by decide +kernel
theorem dX7_respell_111 : decode cX7_respell 111 = .ok (.iaload, 1) := by decide +kernel
theorem dX7_respell_112 : decode cX7_respell 112 = .ok (.ireturn, 1) := by decide +kernel
theorem dX7_undo_0 : decode cX7_undo 0 = .ok (.aload_n 0, 1) := by decide +kernel
theorem dX7_undo_1 : decode cX7_undo 1 = .ok (.iconst 0, 1) := by decide +kernel
theorem dX7_undo_2 : decode cX7_undo 2 = .ok (.putfield 68, 3) := by decide +kernel
theorem dX7_undo_5 : decode cX7_undo 5 = .ok (.aload_n 0, 1) := by decide +kernel
theorem dX7_undo_6 : decode cX7_undo 6 = .ok (.getfield 131, 3) := by decide +kernel
theorem dX7_undo_9 : decode cX7_undo 9 = .ok (.ifCond .ne 6, 3) := by decide +kernel
theorem dX7_undo_12 : decode cX7_undo 12 = .ok (.bipush (-3), 2) := by decide +kernel
theorem dX7_undo_14 : decode cX7_undo 14 = .ok (.ireturn, 1) := by decide +kernel
theorem dX7_undo_15 : decode cX7_undo 15 = .ok (.aload_n 0, 1) := by decide +kernel
theorem dX7_undo_16 : decode cX7_undo 16 = .ok (.dup, 1) := by decide +kernel
theorem dX7_undo_17 : decode cX7_undo 17 = .ok (.getfield 131, 3) := by decide +kernel
theorem dX7_undo_20 : decode cX7_undo 20 = .ok (.iconst 1, 1) := by decide +kernel
theorem dX7_undo_21 : decode cX7_undo 21 = .ok (.isub, 1) := by decide +kernel
theorem dX7_undo_22 : decode cX7_undo 22 = .ok (.putfield 131, 3) := by decide +kernel
theorem dX7_undo_25 : decode cX7_undo 25 = .ok (.iconst 0, 1) := by decide +kernel
theorem dX7_undo_26 : decode cX7_undo 26 = .ok (.istore_n 1, 1) := by decide +kernel
theorem dX7_undo_27 : decode cX7_undo 27 = .ok (.iload_n 1, 1) := by decide +kernel
theorem dX7_undo_28 : decode cX7_undo 28 = .ok (.sipush 265, 3) := by decide +kernel
theorem dX7_undo_31 : decode cX7_undo 31 = .ok (.if_icmp .ge 30, 3) := by decide +kernel
theorem dX7_undo_34 : decode cX7_undo 34 = .ok (.aload_n 0, 1) := by decide +kernel
theorem dX7_undo_35 : decode cX7_undo 35 = .ok (.getfield 16, 3) := by decide +kernel
theorem dX7_undo_38 : decode cX7_undo 38 = .ok (.iload_n 1, 1) := by decide +kernel
theorem dX7_undo_39 : decode cX7_undo 39 = .ok (.aload_n 0, 1) := by decide +kernel
theorem dX7_undo_40 : decode cX7_undo 40 = .ok (.getfield 25, 3) := by decide +kernel
theorem dX7_undo_43 : decode cX7_undo 43 = .ok (.sipush 265, 3) := by decide +kernel
theorem dX7_undo_46 : decode cX7_undo 46 = .ok (.aload_n 0, 1) := by decide +kernel
theorem dX7_undo_47 : decode cX7_undo 47 = .ok (.getfield 131, 3) := by decide +kernel
theorem dX7_undo_50 : decode cX7_undo 50 = .ok (.imul, 1) := by decide +kernel
theorem dX7_undo_51 : decode cX7_undo 51 = .ok (.iload_n 1, 1) := by decide +kernel
theorem dX7_undo_52 : decode cX7_undo 52 = .ok (.iadd, 1) := by decide +kernel
theorem dX7_undo_53 : decode cX7_undo 53 = .ok (.iaload, 1) := by decide +kernel
theorem dX7_undo_54 : decode cX7_undo 54 = .ok (.iastore, 1) := by decide +kernel
theorem dX7_undo_55 : decode cX7_undo 55 = .ok (.iinc 1 1, 3) := by decide +kernel
theorem dX7_undo_58 : decode cX7_undo 58 = .ok (.goto (-31), 3) := by decide +kernel
theorem dX7_undo_61 : decode cX7_undo 61 = .ok (.aload_n 0, 1) := by decide +kernel
theorem dX7_undo_62 : decode cX7_undo 62 = .ok (.getfield 131, 3) := by decide +kernel
theorem dX7_undo_65 : decode cX7_undo 65 = .ok (.ireturn, 1) := by decide +kernel
theorem dX7_longPower_0 : decode cX7_longPower 0 = .ok (.lconst 1, 1) := by decide +kernel
theorem dX7_longPower_1 : decode cX7_longPower 1 = .ok (.lstore_n 3, 1) := by decide +kernel
theorem dX7_longPower_2 : decode cX7_longPower 2 = .ok (.iconst 0, 1) := by decide +kernel
theorem dX7_longPower_3 : decode cX7_longPower 3 = .ok (.istore 5, 2) := by decide +kernel
theorem dX7_longPower_5 : decode cX7_longPower 5 = .ok (.iload 5, 2) := by decide +kernel
theorem dX7_longPower_7 : decode cX7_longPower 7 = .ok (.iload_n 2, 1) := by decide +kernel
theorem dX7_longPower_8 : decode cX7_longPower 8 = .ok (.if_icmp .ge 13, 3) := by decide +kernel
theorem dX7_longPower_11 : decode cX7_longPower 11 = .ok (.lload_n 3, 1) := by decide +kernel
theorem dX7_longPower_12 : decode cX7_longPower 12 = .ok (.lload_n 0, 1) := by decide +kernel
theorem dX7_longPower_13 : decode cX7_longPower 13 = .ok (.lmul, 1) := by decide +kernel
theorem dX7_longPower_14 : decode cX7_longPower 14 = .ok (.lstore_n 3, 1) := by decide +kernel
theorem dX7_longPower_15 : decode cX7_longPower 15 = .ok (.iinc 5 1, 3) := by decide +kernel
theorem dX7_longPower_18 : decode cX7_longPower 18 = .ok (.goto (-13), 3) := by decide +kernel
theorem dX7_longPower_21 : decode cX7_longPower 21 = .ok (.lload_n 3, 1) := by decide +kernel
theorem dX7_longPower_22 : decode cX7_longPower 22 = .ok (.lreturn, 1) := by decide +kernel
set_option maxRecDepth 20000 in
theorem ggX7_does_X7_isThere : GoodIn wsX7_does wsX7_isThere := goodIn_r _ [7, 8, 9, 6, 10] (by decide +kernel) (by decide +kernel)
set_option maxRecDepth 20000 in
theorem gX7_does_X7_isThere : GoodIn wsX7_does (va_wsS RX7 76 yX7_isThere wsX7_isThere) := goodIn_app (goodIn_of _ (by decide +kernel)) ggX7_does_X7_isThere
set_option maxRecDepth 20000 in
theorem ggX7_does_X7_in : GoodIn wsX7_does wsX7_in := goodIn_r _ [10] (by decide +kernel) (by decide +kernel)
set_option maxRecDepth 20000 in
theorem gX7_does_X7_in : GoodIn wsX7_does (va_wsS RX7 72 yX7_in wsX7_in) := goodIn_app (goodIn_of _ (by decide +kernel)) ggX7_does_X7_in
set_option maxRecDepth 20000 in
theorem ggX7_does_X7_findAll : GoodIn wsX7_does wsX7_findAll := goodIn_r _ [14, 15, 16, 6, 17, 18, 19, 20, 21, 2, 3, 22, 23, 24, 25, 26, 27, 28, 29, 30, 31, 32, 33, 34, 35, 4, 5, 7, 8, 9, 10, 36, 37, 38, 39, 40, 41, 42, 43, 44, 45, 46, 47, 48, 49, 50, 51, 52, 53, 54, 55, 56, 57, 58, 59, 60, 61, 62, 63, 64, 65, 66, 67, 68, 69, 70, 71, 72, 73, 121, 122, 123, 124, 125, 126, 127, 128, 129, 130, 131, 132, 133, 134, 135, 136, 137, 138, 139, 140, 141, 142, 143, 144, 145, 146, 147, 148] (by decide +kernel) (by decide +kernel)
set_option maxRecDepth 20000 in
theorem gX7_does_X7_findAll : GoodIn wsX7_does (wsV RX7 194 RX7 yX7_findAll wsX7_findAll) := goodIn_app (goodIn_of _ (by decide +kernel)) ggX7_does_X7_findAll
set_option maxRecDepth 20000 in
theorem ggX7_does_X7_moveOn : GoodIn wsX7_does wsX7_moveOn := goodIn_r _ [77, 78, 79, 80, 81, 82, 6, 83, 39, 40, 41, 4, 5, 7, 8, 9, 10, 84, 85, 86, 87, 88, 89, 121, 122, 123, 124, 125, 126, 127, 128, 129, 130, 131, 132, 133, 134, 135, 136, 137, 138, 139, 140, 141, 142, 143, 144, 145, 146, 147, 148] (by decide +kernel) (by decide +kernel)
set_option maxRecDepth 20000 in
theorem gX7_does_X7_moveOn : GoodIn wsX7_does (wsV RX7 281 RX7 yX7_moveOn wsX7_moveOn) := goodIn_app (goodIn_of _ (by decide +kernel)) ggX7_does_X7_moveOn
set_option maxRecDepth 20000 in
theorem ggX7_does_X7_cutOn : GoodIn wsX7_does wsX7_cutOn := goodIn_r _ [93, 78, 80, 81, 82, 6, 83, 39, 40, 41, 4, 5, 7, 8, 9, 10, 87, 88, 89, 121, 122, 123, 124, 125, 126, 127, 128, 129, 130, 131, 132, 133, 134, 135, 136, 137, 138, 139, 140, 141, 142, 143, 144, 145, 146, 147, 148] (by decide +kernel) (by decide +kernel)
set_option maxRecDepth 20000 in
theorem gX7_does_X7_cutOn : GoodIn wsX7_does (wsV RX7 277 RX7 yX7_cutOn wsX7_cutOn) := goodIn_app (goodIn_of _ (by decide +kernel)) ggX7_does_X7_cutOn
set_option maxRecDepth 20000 in
theorem ggX7_does_X7_manyFound : GoodIn wsX7_does wsX7_manyFound := goodIn_r _ [97, 2, 121, 122, 123, 124, 125, 126, 127, 128, 129, 130, 131, 132, 133, 134, 135, 136, 137, 138, 139, 140, 141, 142, 143, 144, 145, 146, 147, 148] (by decide +kernel) (by decide +kernel)
set_option maxRecDepth 20000 in
theorem gX7_does_X7_manyFound : GoodIn wsX7_does (wsV RX7 201 RX7 yX7_manyFound wsX7_manyFound) := goodIn_app (goodIn_of _ (by decide +kernel)) ggX7_does_X7_manyFound
set_option maxRecDepth 20000 in
theorem ggX7_does_X7_shorten : GoodIn wsX7_does wsX7_shorten := goodIn_r _ [101, 102, 2, 39, 40, 6, 41, 103, 104, 105, 15, 16, 17, 30, 31, 32, 33, 34, 35, 4, 5, 7, 8, 9, 10, 36, 37, 38, 106, 107, 108, 45, 46, 47, 66, 67, 68, 69, 29, 52, 53, 54, 55, 22, 56, 57, 58, 59, 60, 61, 62, 63, 64, 65, 28, 70, 71, 72, 73, 109, 110, 111, 112, 113, 114, 115, 116, 121, 122, 123, 124, 125, 126, 127, 128, 129, 130, 131, 132, 133, 134, 135, 136, 137, 138, 139, 140, 141, 142, 143, 144, 145, 146, 147, 148] (by decide +kernel) (by decide +kernel)
set_option maxRecDepth 20000 in
theorem gX7_does_X7_shorten : GoodIn wsX7_does (wsV RX7 242 RX7 yX7_shorten wsX7_shorten) := goodIn_app (goodIn_of _ (by decide +kernel)) ggX7_does_X7_shorten
set_option maxRecDepth 20000 in
theorem ggX7_does_X7_putBrief : GoodIn wsX7_does wsX7_putBrief := goodIn_r _ [120, 102, 121, 122, 123, 124, 125, 126, 127, 128, 129, 130, 131, 132, 133, 134, 135, 136, 137, 138, 139, 140, 141, 142, 143, 144, 145, 146, 147, 148] (by decide +kernel) (by decide +kernel)
set_option maxRecDepth 20000 in
theorem gX7_does_X7_putBrief : GoodIn wsX7_does (wsV RX7 288 RX7 yX7_putBrief wsX7_putBrief) := goodIn_app (goodIn_of _ (by decide +kernel)) ggX7_does_X7_putBrief
theorem dX7_does_0 : decode cX7_does 0 = .ok (.iload_n 1, 1) := by decide +kernel
theorem dX7_does_1 : decode cX7_does 1 = .ok (.bipush 100, 2) := by decide +kernel
theorem dX7_does_3 : decode cX7_does 3 = .ok (.idiv, 1) := by decide +kernel
theorem dX7_does_4 : decode cX7_does 4 = .ok (.bipush 10, 2) := by decide +kernel
theorem dX7_does_6 : decode cX7_does 6 = .ok (.irem, 1) := by decide +kernel
theorem dX7_does_7 : decode cX7_does 7 = .ok (.istore_n 2, 1) := by decide +kernel
theorem dX7_does_8 : decode cX7_does 8 = .ok (.iload_n 1, 1) := by decide +kernel
theorem dX7_does_9 : decode cX7_does 9 = .ok (.bipush 10, 2) := by decide +kernel
theorem dX7_does_11 : decode cX7_does 11 = .ok (.idiv, 1) := by decide +kernel
theorem dX7_does_12 : decode cX7_does 12 = .ok (.bipush 10, 2) := by decide +kernel
theorem dX7_does_14 : decode cX7_does 14 = .ok (.irem, 1) := by decide +kernel
theorem dX7_does_15 : decode cX7_does 15 = .ok (.istore_n 3, 1) := by decide +kernel
theorem dX7_does_16 : decode cX7_does 16 = .ok (.iload_n 1, 1) := by decide +kernel
theorem dX7_does_17 : decode cX7_does 17 = .ok (.bipush 10, 2) := by decide +kernel
theorem dX7_does_19 : decode cX7_does 19 = .ok (.irem, 1) := by decide +kernel
theorem dX7_does_20 : decode cX7_does 20 = .ok (.istore 4, 2) := by decide +kernel
theorem dX7_does_22 : decode cX7_does 22 = .ok (.aload_n 0, 1) := by decide +kernel
theorem dX7_does_23 : decode cX7_does 23 = .ok (.getfield 19, 3) := by decide +kernel
theorem dX7_does_26 : decode cX7_does 26 = .ok (.iload_n 2, 1) := by decide +kernel
theorem dX7_does_27 : decode cX7_does 27 = .ok (.iload_n 3, 1) := by decide +kernel
theorem dX7_does_28 : decode cX7_does 28 = .ok (.invokestatic 76, 3) := by decide +kernel
theorem dX7_does_31 : decode cX7_does 31 = .ok (.istore 5, 2) := by decide +kernel
theorem dX7_does_33 : decode cX7_does 33 = .ok (.iload_n 2, 1) := by decide +kernel
theorem dX7_does_34 : decode cX7_does 34 = .ok (.i2l, 1) := by decide +kernel
theorem dX7_does_35 : decode cX7_does 35 = .ok (.lconst 0, 1) := by decide +kernel
theorem dX7_does_36 : decode cX7_does 36 = .ok (.aload_n 0, 1) := by decide +kernel
theorem dX7_does_37 : decode cX7_does 37 = .ok (.getfield 19, 3) := by decide +kernel
theorem dX7_does_40 : decode cX7_does 40 = .ok (.iconst 0, 1) := by decide +kernel
theorem dX7_does_41 : decode cX7_does 41 = .ok (.iaload, 1) := by decide +kernel
theorem dX7_does_42 : decode cX7_does 42 = .ok (.iconst 1, 1) := by decide +kernel
theorem dX7_does_43 : decode cX7_does 43 = .ok (.isub, 1) := by decide +kernel
theorem dX7_does_44 : decode cX7_does 44 = .ok (.i2l, 1) := by decide +kernel
theorem dX7_does_45 : decode cX7_does 45 = .ok (.invokestatic 72, 3) := by decide +kernel
theorem dX7_does_48 : decode cX7_does 48 = .ok (.istore 6, 2) := by decide +kernel
theorem dX7_does_50 : decode cX7_does 50 = .ok (.iload_n 3, 1) := by decide +kernel
theorem dX7_does_51 : decode cX7_does 51 = .ok (.i2l, 1) := by decide +kernel
theorem dX7_does_52 : decode cX7_does 52 = .ok (.lconst 0, 1) := by decide +kernel
theorem dX7_does_53 : decode cX7_does 53 = .ok (.aload_n 0, 1) := by decide +kernel
theorem dX7_does_54 : decode cX7_does 54 = .ok (.getfield 19, 3) := by decide +kernel
theorem dX7_does_57 : decode cX7_does 57 = .ok (.iconst 0, 1) := by decide +kernel
theorem dX7_does_58 : decode cX7_does 58 = .ok (.iaload, 1) := by decide +kernel
theorem dX7_does_59 : decode cX7_does 59 = .ok (.iconst 1, 1) := by decide +kernel
theorem dX7_does_60 : decode cX7_does 60 = .ok (.isub, 1) := by decide +kernel
theorem dX7_does_61 : decode cX7_does 61 = .ok (.i2l, 1) := by decide +kernel
theorem dX7_does_62 : decode cX7_does 62 = .ok (.invokestatic 72, 3) := by decide +kernel
theorem dX7_does_65 : decode cX7_does 65 = .ok (.istore 7, 2) := by decide +kernel
theorem dX7_does_67 : decode cX7_does 67 = .ok (.iload 5, 2) := by decide +kernel
theorem dX7_does_69 : decode cX7_does 69 = .ok (.ifCond .eq 11, 3) := by decide +kernel
theorem dX7_does_72 : decode cX7_does 72 = .ok (.iconst 4, 1) := by decide +kernel
theorem dX7_does_73 : decode cX7_does 73 = .ok (.iload_n 2, 1) := by decide +kernel
theorem dX7_does_74 : decode cX7_does 74 = .ok (.imul, 1) := by decide +kernel
theorem dX7_does_75 : decode cX7_does 75 = .ok (.iload_n 3, 1) := by decide +kernel
theorem dX7_does_76 : decode cX7_does 76 = .ok (.iadd, 1) := by decide +kernel
theorem dX7_does_77 : decode cX7_does 77 = .ok (.goto 4, 3) := by decide +kernel
theorem dX7_does_80 : decode cX7_does 80 = .ok (.iconst 0, 1) := by decide +kernel
theorem dX7_does_81 : decode cX7_does 81 = .ok (.istore 8, 2) := by decide +kernel
theorem dX7_does_83 : decode cX7_does 83 = .ok (.aload_n 0, 1) := by decide +kernel
theorem dX7_does_84 : decode cX7_does 84 = .ok (.aload_n 0, 1) := by decide +kernel
theorem dX7_does_85 : decode cX7_does 85 = .ok (.getfield 19, 3) := by decide +kernel
theorem dX7_does_88 : decode cX7_does 88 = .ok (.invokevirtual 194, 3) := by decide +kernel
theorem dX7_does_91 : decode cX7_does 91 = .ok (.iload_n 1, 1) := by decide +kernel
theorem dX7_does_92 : decode cX7_does 92 = .ok (.sipush 1000, 3) := by decide +kernel
theorem dX7_does_95 : decode cX7_does 95 = .ok (.idiv, 1) := by decide +kernel
theorem dX7_does_96 : decode cX7_does 96 = .ok (.tableswitch 264 1 6 #[40, 90, 136, 171, 194, 218], 40) := by decide +kernel
theorem dX7_does_136 : decode cX7_does 136 = .ok (.iload 6, 2) := by decide +kernel
theorem dX7_does_138 : decode cX7_does 138 = .ok (.ifCond .eq 26, 3) := by decide +kernel
theorem dX7_does_141 : decode cX7_does 141 = .ok (.iload 7, 2) := by decide +kernel
theorem dX7_does_143 : decode cX7_does 143 = .ok (.ifCond .eq 21, 3) := by decide +kernel
theorem dX7_does_146 : decode cX7_does 146 = .ok (.iload 4, 2) := by decide +kernel
theorem dX7_does_148 : decode cX7_does 148 = .ok (.iconst 2, 1) := by decide +kernel
theorem dX7_does_149 : decode cX7_does 149 = .ok (.if_icmp .ge 15, 3) := by decide +kernel
theorem dX7_does_152 : decode cX7_does 152 = .ok (.aload_n 0, 1) := by decide +kernel
theorem dX7_does_153 : decode cX7_does 153 = .ok (.aload_n 0, 1) := by decide +kernel
theorem dX7_does_154 : decode cX7_does 154 = .ok (.getfield 19, 3) := by decide +kernel
theorem dX7_does_157 : decode cX7_does 157 = .ok (.iload_n 2, 1) := by decide +kernel
theorem dX7_does_158 : decode cX7_does 158 = .ok (.iload_n 3, 1) := by decide +kernel
theorem dX7_does_159 : decode cX7_does 159 = .ok (.iload 4, 2) := by decide +kernel
theorem dX7_does_161 : decode cX7_does 161 = .ok (.invokevirtual 281, 3) := by decide +kernel
theorem dX7_does_164 : decode cX7_does 164 = .ok (.iload 6, 2) := by decide +kernel
theorem dX7_does_166 : decode cX7_does 166 = .ok (.ifCond .eq 18, 3) := by decide +kernel
theorem dX7_does_169 : decode cX7_does 169 = .ok (.iload 7, 2) := by decide +kernel
theorem dX7_does_171 : decode cX7_does 171 = .ok (.ifCond .eq 13, 3) := by decide +kernel
theorem dX7_does_174 : decode cX7_does 174 = .ok (.iload 4, 2) := by decide +kernel
theorem dX7_does_176 : decode cX7_does 176 = .ok (.iconst 2, 1) := by decide +kernel
theorem dX7_does_177 : decode cX7_does 177 = .ok (.if_icmp .ge 7, 3) := by decide +kernel
theorem dX7_does_180 : decode cX7_does 180 = .ok (.iconst 1, 1) := by decide +kernel
theorem dX7_does_181 : decode cX7_does 181 = .ok (.goto 4, 3) := by decide +kernel
theorem dX7_does_184 : decode cX7_does 184 = .ok (.iconst 0, 1) := by decide +kernel
theorem dX7_does_185 : decode cX7_does 185 = .ok (.ireturn, 1) := by decide +kernel
theorem dX7_does_186 : decode cX7_does 186 = .ok (.iload 6, 2) := by decide +kernel
theorem dX7_does_188 : decode cX7_does 188 = .ok (.ifCond .eq 23, 3) := by decide +kernel
theorem dX7_does_191 : decode cX7_does 191 = .ok (.iload_n 3, 1) := by decide +kernel
theorem dX7_does_192 : decode cX7_does 192 = .ok (.iconst 2, 1) := by decide +kernel
theorem dX7_does_193 : decode cX7_does 193 = .ok (.if_icmp .ge 18, 3) := by decide +kernel
theorem dX7_does_196 : decode cX7_does 196 = .ok (.iload 4, 2) := by decide +kernel
theorem dX7_does_198 : decode cX7_does 198 = .ok (.ifCond .ne 13, 3) := by decide +kernel
theorem dX7_does_201 : decode cX7_does 201 = .ok (.aload_n 0, 1) := by decide +kernel
theorem dX7_does_202 : decode cX7_does 202 = .ok (.aload_n 0, 1) := by decide +kernel
theorem dX7_does_203 : decode cX7_does 203 = .ok (.getfield 19, 3) := by decide +kernel
theorem dX7_does_206 : decode cX7_does 206 = .ok (.iload_n 2, 1) := by decide +kernel
theorem dX7_does_207 : decode cX7_does 207 = .ok (.iload_n 3, 1) := by decide +kernel
theorem dX7_does_208 : decode cX7_does 208 = .ok (.invokevirtual 277, 3) := by decide +kernel
theorem dX7_does_211 : decode cX7_does 211 = .ok (.iload 6, 2) := by decide +kernel
theorem dX7_does_213 : decode cX7_does 213 = .ok (.ifCond .eq 17, 3) := by decide +kernel
theorem dX7_does_216 : decode cX7_does 216 = .ok (.iload_n 3, 1) := by decide +kernel
theorem dX7_does_217 : decode cX7_does 217 = .ok (.iconst 2, 1) := by decide +kernel
theorem dX7_does_218 : decode cX7_does 218 = .ok (.if_icmp .ge 12, 3) := by decide +kernel
theorem dX7_does_221 : decode cX7_does 221 = .ok (.iload 4, 2) := by decide +kernel
theorem dX7_does_223 : decode cX7_does 223 = .ok (.ifCond .ne 7, 3) := by decide +kernel
theorem dX7_does_226 : decode cX7_does 226 = .ok (.iconst 1, 1) := by decide +kernel
theorem dX7_does_227 : decode cX7_does 227 = .ok (.goto 4, 3) := by decide +kernel
theorem dX7_does_230 : decode cX7_does 230 = .ok (.iconst 0, 1) := by decide +kernel
theorem dX7_does_231 : decode cX7_does 231 = .ok (.ireturn, 1) := by decide +kernel
theorem dX7_does_232 : decode cX7_does 232 = .ok (.iload 5, 2) := by decide +kernel
theorem dX7_does_234 : decode cX7_does 234 = .ok (.ifCond .eq 31, 3) := by decide +kernel
theorem dX7_does_237 : decode cX7_does 237 = .ok (.aload_n 0, 1) := by decide +kernel
theorem dX7_does_238 : decode cX7_does 238 = .ok (.getfield 47, 3) := by decide +kernel
theorem dX7_does_241 : decode cX7_does 241 = .ok (.iload 8, 2) := by decide +kernel
theorem dX7_does_243 : decode cX7_does 243 = .ok (.iaload, 1) := by decide +kernel
theorem dX7_does_244 : decode cX7_does 244 = .ok (.iload 4, 2) := by decide +kernel
theorem dX7_does_246 : decode cX7_does 246 = .ok (.bipush 9, 2) := by decide +kernel
theorem dX7_does_248 : decode cX7_does 248 = .ok (.if_icmp .ne 8, 3) := by decide +kernel
theorem dX7_does_251 : decode cX7_does 251 = .ok (.bipush (-9), 2) := by decide +kernel
theorem dX7_does_253 : decode cX7_does 253 = .ok (.goto 5, 3) := by decide +kernel
theorem dX7_does_256 : decode cX7_does 256 = .ok (.iload 4, 2) := by decide +kernel
theorem dX7_does_258 : decode cX7_does 258 = .ok (.if_icmp .ne 7, 3) := by decide +kernel
theorem dX7_does_261 : decode cX7_does 261 = .ok (.iconst 1, 1) := by decide +kernel
theorem dX7_does_262 : decode cX7_does 262 = .ok (.goto 4, 3) := by decide +kernel
theorem dX7_does_265 : decode cX7_does 265 = .ok (.iconst 0, 1) := by decide +kernel
theorem dX7_does_266 : decode cX7_does 266 = .ok (.ireturn, 1) := by decide +kernel
theorem dX7_does_267 : decode cX7_does 267 = .ok (.iload 5, 2) := by decide +kernel
theorem dX7_does_269 : decode cX7_does 269 = .ok (.ifCond .eq 19, 3) := by decide +kernel
theorem dX7_does_272 : decode cX7_does 272 = .ok (.aload_n 0, 1) := by decide +kernel
theorem dX7_does_273 : decode cX7_does 273 = .ok (.getfield 50, 3) := by decide +kernel
theorem dX7_does_276 : decode cX7_does 276 = .ok (.iload 8, 2) := by decide +kernel
theorem dX7_does_278 : decode cX7_does 278 = .ok (.iaload, 1) := by decide +kernel
theorem dX7_does_279 : decode cX7_does 279 = .ok (.iload 4, 2) := by decide +kernel
theorem dX7_does_281 : decode cX7_does 281 = .ok (.if_icmp .ne 7, 3) := by decide +kernel
theorem dX7_does_284 : decode cX7_does 284 = .ok (.iconst 1, 1) := by decide +kernel
theorem dX7_does_285 : decode cX7_does 285 = .ok (.goto 4, 3) := by decide +kernel
theorem dX7_does_288 : decode cX7_does 288 = .ok (.iconst 0, 1) := by decide +kernel
theorem dX7_does_289 : decode cX7_does 289 = .ok (.ireturn, 1) := by decide +kernel
theorem dX7_does_290 : decode cX7_does 290 = .ok (.iload_n 2, 1) := by decide +kernel
theorem dX7_does_291 : decode cX7_does 291 = .ok (.ifCond .ne 21, 3) := by decide +kernel
theorem dX7_does_294 : decode cX7_does 294 = .ok (.aload_n 0, 1) := by decide +kernel
theorem dX7_does_295 : decode cX7_does 295 = .ok (.invokevirtual 201, 3) := by decide +kernel
theorem dX7_does_298 : decode cX7_does 298 = .ok (.bipush 10, 2) := by decide +kernel
theorem dX7_does_300 : decode cX7_does 300 = .ok (.iload_n 3, 1) := by decide +kernel
theorem dX7_does_301 : decode cX7_does 301 = .ok (.imul, 1) := by decide +kernel
theorem dX7_does_302 : decode cX7_does 302 = .ok (.iload 4, 2) := by decide +kernel
theorem dX7_does_304 : decode cX7_does 304 = .ok (.iadd, 1) := by decide +kernel
theorem dX7_does_305 : decode cX7_does 305 = .ok (.if_icmp .lt 7, 3) := by decide +kernel
theorem dX7_does_308 : decode cX7_does 308 = .ok (.iconst 1, 1) := by decide +kernel
theorem dX7_does_309 : decode cX7_does 309 = .ok (.goto 4, 3) := by decide +kernel
theorem dX7_does_312 : decode cX7_does 312 = .ok (.iconst 0, 1) := by decide +kernel
theorem dX7_does_313 : decode cX7_does 313 = .ok (.ireturn, 1) := by decide +kernel
theorem dX7_does_314 : decode cX7_does 314 = .ok (.iload 5, 2) := by decide +kernel
theorem dX7_does_316 : decode cX7_does 316 = .ok (.ifCond .eq 20, 3) := by decide +kernel
theorem dX7_does_319 : decode cX7_does 319 = .ok (.iload 4, 2) := by decide +kernel
theorem dX7_does_321 : decode cX7_does 321 = .ok (.ifCond .ne 15, 3) := by decide +kernel
theorem dX7_does_324 : decode cX7_does 324 = .ok (.aload_n 0, 1) := by decide +kernel
theorem dX7_does_325 : decode cX7_does 325 = .ok (.getfield 47, 3) := by decide +kernel
theorem dX7_does_328 : decode cX7_does 328 = .ok (.iload 8, 2) := by decide +kernel
theorem dX7_does_330 : decode cX7_does 330 = .ok (.iaload, 1) := by decide +kernel
theorem dX7_does_331 : decode cX7_does 331 = .ok (.bipush (-9), 2) := by decide +kernel
theorem dX7_does_333 : decode cX7_does 333 = .ok (.if_icmp .ne 5, 3) := by decide +kernel
theorem dX7_does_336 : decode cX7_does 336 = .ok (.iconst 0, 1) := by decide +kernel
theorem dX7_does_337 : decode cX7_does 337 = .ok (.ireturn, 1) := by decide +kernel
theorem dX7_does_338 : decode cX7_does 338 = .ok (.aload_n 0, 1) := by decide +kernel
theorem dX7_does_339 : decode cX7_does 339 = .ok (.aload_n 0, 1) := by decide +kernel
theorem dX7_does_340 : decode cX7_does 340 = .ok (.getfield 19, 3) := by decide +kernel
theorem dX7_does_343 : decode cX7_does 343 = .ok (.iload 8, 2) := by decide +kernel
theorem dX7_does_345 : decode cX7_does 345 = .ok (.invokevirtual 242, 3) := by decide +kernel
theorem dX7_does_348 : decode cX7_does 348 = .ok (.aload_n 0, 1) := by decide +kernel
theorem dX7_does_349 : decode cX7_does 349 = .ok (.aload_n 0, 1) := by decide +kernel
theorem dX7_does_350 : decode cX7_does 350 = .ok (.getfield 19, 3) := by decide +kernel
theorem dX7_does_353 : decode cX7_does 353 = .ok (.iload 8, 2) := by decide +kernel
theorem dX7_does_355 : decode cX7_does 355 = .ok (.invokevirtual 288, 3) := by decide +kernel
theorem dX7_does_358 : decode cX7_does 358 = .ok (.iconst 1, 1) := by decide +kernel
theorem dX7_does_359 : decode cX7_does 359 = .ok (.ireturn, 1) := by decide +kernel
theorem dX7_does_360 : decode cX7_does 360 = .ok (.iconst 0, 1) := by decide +kernel
theorem dX7_does_361 : decode cX7_does 361 = .ok (.ireturn, 1) := by decide +kernel
set_option maxRecDepth 20000 in
theorem ggX7_judge_X7_in : GoodIn wsX7_judge wsX7_in := goodIn_r _ [9] (by decide +kernel) (by decide +kernel)
set_option maxRecDepth 20000 in
theorem gX7_judge_X7_in : GoodIn wsX7_judge (va_wsS RX7 72 yX7_in wsX7_in) := goodIn_app (goodIn_of _ (by decide +kernel)) ggX7_judge_X7_in
set_option maxRecDepth 20000 in
theorem ggX7_judge_X7_longPower : GoodIn wsX7_judge wsX7_longPower := goodIn_r _ [12] (by decide +kernel) (by decide +kernel)
set_option maxRecDepth 20000 in
theorem gX7_judge_X7_longPower : GoodIn wsX7_judge (va_wsS RX7 295 yX7_longPower wsX7_longPower) := goodIn_app (goodIn_of _ (by decide +kernel)) ggX7_judge_X7_longPower
set_option maxRecDepth 20000 in
theorem ggX7_judge_X7_lay : GoodIn wsX7_judge wsX7_lay := goodIn_r _ [15] (by decide +kernel) (by decide +kernel)
set_option maxRecDepth 20000 in
theorem gX7_judge_X7_lay : GoodIn wsX7_judge (va_wsS RX7 127 yX7_lay wsX7_lay) := goodIn_app (goodIn_of _ (by decide +kernel)) ggX7_judge_X7_lay
set_option maxRecDepth 20000 in
theorem ggX7_judge_X7_does : GoodIn wsX7_judge wsX7_does := goodIn_r _ [19, 4, 20, 21, 22, 23, 8, 24, 6, 7, 9, 25, 26, 27, 28, 29, 30, 31, 32, 33, 34, 35, 36, 37, 38, 39, 40, 41, 42, 43, 44, 45, 46, 47, 48, 49, 50, 51, 52, 53, 54, 55, 56, 57, 58, 59, 60, 61, 62, 63, 64, 65, 66, 67, 68, 69, 70, 71, 72, 73, 74, 75, 76, 77, 78, 79, 80, 81, 82, 83, 84, 85, 86, 87, 88, 89, 90, 91, 92, 93, 94, 95, 96, 97, 13, 14, 15, 98, 99, 100, 101, 102, 103, 104, 105, 106, 107, 108, 109, 110, 111, 112, 113, 114, 115, 116, 117, 118, 119, 120, 121, 122, 123, 124, 125, 126, 127, 128, 129, 130, 131, 132, 133, 134, 135, 136, 137, 138, 139, 140, 141, 142, 143, 144, 145, 146, 147, 148, 149, 150, 151, 152, 153, 154, 155, 156, 157, 158, 159] (by decide +kernel) (by decide +kernel)
set_option maxRecDepth 20000 in
theorem gX7_judge_X7_does : GoodIn wsX7_judge (wsV RX7 299 RX7 yX7_does wsX7_does) := goodIn_app (goodIn_of _ (by decide +kernel)) ggX7_judge_X7_does
theorem dX7_judge_0 : decode cX7_judge 0 = .ok (.aload_n 0, 1) := by decide +kernel
theorem dX7_judge_1 : decode cX7_judge 1 = .ok (.iconst 0, 1) := by decide +kernel
theorem dX7_judge_2 : decode cX7_judge 2 = .ok (.putfield 68, 3) := by decide +kernel
theorem dX7_judge_5 : decode cX7_judge 5 = .ok (.iload_n 1, 1) := by decide +kernel
theorem dX7_judge_6 : decode cX7_judge 6 = .ok (.i2l, 1) := by decide +kernel
theorem dX7_judge_7 : decode cX7_judge 7 = .ok (.lconst 1, 1) := by decide +kernel
theorem dX7_judge_8 : decode cX7_judge 8 = .ok (.ldc2_w 291, 3) := by decide +kernel
theorem dX7_judge_11 : decode cX7_judge 11 = .ok (.invokestatic 72, 3) := by decide +kernel
theorem dX7_judge_14 : decode cX7_judge 14 = .ok (.ifCond .eq 20, 3) := by decide +kernel
theorem dX7_judge_17 : decode cX7_judge 17 = .ok (.lload_n 2, 1) := by decide +kernel
theorem dX7_judge_18 : decode cX7_judge 18 = .ok (.lconst 0, 1) := by decide +kernel
theorem dX7_judge_19 : decode cX7_judge 19 = .ok (.ldc2_w 293, 3) := by decide +kernel
theorem dX7_judge_22 : decode cX7_judge 22 = .ok (.iload_n 1, 1) := by decide +kernel
theorem dX7_judge_23 : decode cX7_judge 23 = .ok (.invokestatic 295, 3) := by decide +kernel
theorem dX7_judge_26 : decode cX7_judge 26 = .ok (.lconst 1, 1) := by decide +kernel
theorem dX7_judge_27 : decode cX7_judge 27 = .ok (.lsub, 1) := by decide +kernel
theorem dX7_judge_28 : decode cX7_judge 28 = .ok (.invokestatic 72, 3) := by decide +kernel
theorem dX7_judge_31 : decode cX7_judge 31 = .ok (.ifCond .ne 6, 3) := by decide +kernel
theorem dX7_judge_34 : decode cX7_judge 34 = .ok (.bipush (-2), 2) := by decide +kernel
theorem dX7_judge_36 : decode cX7_judge 36 = .ok (.ireturn, 1) := by decide +kernel
theorem dX7_judge_37 : decode cX7_judge 37 = .ok (.aload_n 0, 1) := by decide +kernel
theorem dX7_judge_38 : decode cX7_judge 38 = .ok (.getfield 19, 3) := by decide +kernel
theorem dX7_judge_41 : decode cX7_judge 41 = .ok (.aload_n 0, 1) := by decide +kernel
theorem dX7_judge_42 : decode cX7_judge 42 = .ok (.getfield 16, 3) := by decide +kernel
theorem dX7_judge_45 : decode cX7_judge 45 = .ok (.invokestatic 127, 3) := by decide +kernel
theorem dX7_judge_48 : decode cX7_judge 48 = .ok (.iconst 0, 1) := by decide +kernel
theorem dX7_judge_49 : decode cX7_judge 49 = .ok (.istore 4, 2) := by decide +kernel
theorem dX7_judge_51 : decode cX7_judge 51 = .ok (.iload 4, 2) := by decide +kernel
theorem dX7_judge_53 : decode cX7_judge 53 = .ok (.iload_n 1, 1) := by decide +kernel
theorem dX7_judge_54 : decode cX7_judge 54 = .ok (.if_icmp .ge 38, 3) := by decide +kernel
theorem dX7_judge_57 : decode cX7_judge 57 = .ok (.aload_n 0, 1) := by decide +kernel
theorem dX7_judge_58 : decode cX7_judge 58 = .ok (.lload_n 2, 1) := by decide +kernel
theorem dX7_judge_59 : decode cX7_judge 59 = .ok (.ldc2_w 293, 3) := by decide +kernel
theorem dX7_judge_62 : decode cX7_judge 62 = .ok (.iload_n 1, 1) := by decide +kernel
theorem dX7_judge_63 : decode cX7_judge 63 = .ok (.iconst 1, 1) := by decide +kernel
theorem dX7_judge_64 : decode cX7_judge 64 = .ok (.isub, 1) := by decide +kernel
theorem dX7_judge_65 : decode cX7_judge 65 = .ok (.iload 4, 2) := by decide +kernel
theorem dX7_judge_67 : decode cX7_judge 67 = .ok (.isub, 1) := by decide +kernel
theorem dX7_judge_68 : decode cX7_judge 68 = .ok (.invokestatic 295, 3) := by decide +kernel
theorem dX7_judge_71 : decode cX7_judge 71 = .ok (.ldiv, 1) := by decide +kernel
theorem dX7_judge_72 : decode cX7_judge 72 = .ok (.ldc2_w 293, 3) := by decide +kernel
theorem dX7_judge_75 : decode cX7_judge 75 = .ok (.lrem, 1) := by decide +kernel
theorem dX7_judge_76 : decode cX7_judge 76 = .ok (.l2i, 1) := by decide +kernel
theorem dX7_judge_77 : decode cX7_judge 77 = .ok (.invokevirtual 299, 3) := by decide +kernel
theorem dX7_judge_80 : decode cX7_judge 80 = .ok (.ifCond .ne 6, 3) := by decide +kernel
theorem dX7_judge_83 : decode cX7_judge 83 = .ok (.iload 4, 2) := by decide +kernel
theorem dX7_judge_85 : decode cX7_judge 85 = .ok (.ireturn, 1) := by decide +kernel
theorem dX7_judge_86 : decode cX7_judge 86 = .ok (.iinc 4 1, 3) := by decide +kernel
theorem dX7_judge_89 : decode cX7_judge 89 = .ok (.goto (-38), 3) := by decide +kernel
theorem dX7_judge_92 : decode cX7_judge 92 = .ok (.bipush (-9), 2) := by decide +kernel
theorem dX7_judge_94 : decode cX7_judge 94 = .ok (.ireturn, 1) := by decide +kernel
set_option maxRecDepth 20000 in
theorem ggX7_see_X7_in : GoodIn wsX7_see wsX7_in := goodIn_r _ [11] (by decide +kernel) (by decide +kernel)
set_option maxRecDepth 20000 in
theorem gX7_see_X7_in : GoodIn wsX7_see (va_wsS RX7 72 yX7_in wsX7_in) := goodIn_app (goodIn_of _ (by decide +kernel)) ggX7_see_X7_in
theorem dX7_see_0 : decode cX7_see 0 = .ok (.aload_n 0, 1) := by decide +kernel
theorem dX7_see_1 : decode cX7_see 1 = .ok (.iconst 0, 1) := by decide +kernel
theorem dX7_see_2 : decode cX7_see 2 = .ok (.putfield 68, 3) := by decide +kernel
theorem dX7_see_5 : decode cX7_see 5 = .ok (.iload_n 1, 1) := by decide +kernel
theorem dX7_see_6 : decode cX7_see 6 = .ok (.i2l, 1) := by decide +kernel
theorem dX7_see_7 : decode cX7_see 7 = .ok (.lconst 0, 1) := by decide +kernel
theorem dX7_see_8 : decode cX7_see 8 = .ok (.ldc2_w 291, 3) := by decide +kernel
theorem dX7_see_11 : decode cX7_see 11 = .ok (.invokestatic 72, 3) := by decide +kernel
theorem dX7_see_14 : decode cX7_see 14 = .ok (.ifCond .eq 25, 3) := by decide +kernel
theorem dX7_see_17 : decode cX7_see 17 = .ok (.iload_n 2, 1) := by decide +kernel
theorem dX7_see_18 : decode cX7_see 18 = .ok (.i2l, 1) := by decide +kernel
theorem dX7_see_19 : decode cX7_see 19 = .ok (.lconst 0, 1) := by decide +kernel
theorem dX7_see_20 : decode cX7_see 20 = .ok (.ldc2_w 302, 3) := by decide +kernel
theorem dX7_see_23 : decode cX7_see 23 = .ok (.invokestatic 72, 3) := by decide +kernel
theorem dX7_see_26 : decode cX7_see 26 = .ok (.ifCond .eq 13, 3) := by decide +kernel
theorem dX7_see_29 : decode cX7_see 29 = .ok (.iload_n 3, 1) := by decide +kernel
theorem dX7_see_30 : decode cX7_see 30 = .ok (.i2l, 1) := by decide +kernel
theorem dX7_see_31 : decode cX7_see 31 = .ok (.lconst 0, 1) := by decide +kernel
theorem dX7_see_32 : decode cX7_see 32 = .ok (.lconst 1, 1) := by decide +kernel
theorem dX7_see_33 : decode cX7_see 33 = .ok (.invokestatic 72, 3) := by decide +kernel
theorem dX7_see_36 : decode cX7_see 36 = .ok (.ifCond .ne 6, 3) := by decide +kernel
theorem dX7_see_39 : decode cX7_see 39 = .ok (.bipush (-2), 2) := by decide +kernel
theorem dX7_see_41 : decode cX7_see 41 = .ok (.ireturn, 1) := by decide +kernel
theorem dX7_see_42 : decode cX7_see 42 = .ok (.aload_n 0, 1) := by decide +kernel
theorem dX7_see_43 : decode cX7_see 43 = .ok (.getfield 304, 3) := by decide +kernel
theorem dX7_see_46 : decode cX7_see 46 = .ok (.bipush 6, 2) := by decide +kernel
theorem dX7_see_48 : decode cX7_see 48 = .ok (.if_icmp .ne 6, 3) := by decide +kernel
theorem dX7_see_51 : decode cX7_see 51 = .ok (.bipush (-4), 2) := by decide +kernel
theorem dX7_see_53 : decode cX7_see 53 = .ok (.ireturn, 1) := by decide +kernel
theorem dX7_see_54 : decode cX7_see 54 = .ok (.aload_n 0, 1) := by decide +kernel
theorem dX7_see_55 : decode cX7_see 55 = .ok (.getfield 35, 3) := by decide +kernel
theorem dX7_see_58 : decode cX7_see 58 = .ok (.aload_n 0, 1) := by decide +kernel
theorem dX7_see_59 : decode cX7_see 59 = .ok (.getfield 304, 3) := by decide +kernel
theorem dX7_see_62 : decode cX7_see 62 = .ok (.iload_n 1, 1) := by decide +kernel
theorem dX7_see_63 : decode cX7_see 63 = .ok (.iastore, 1) := by decide +kernel
theorem dX7_see_64 : decode cX7_see 64 = .ok (.aload_n 0, 1) := by decide +kernel
theorem dX7_see_65 : decode cX7_see 65 = .ok (.getfield 38, 3) := by decide +kernel
theorem dX7_see_68 : decode cX7_see 68 = .ok (.aload_n 0, 1) := by decide +kernel
theorem dX7_see_69 : decode cX7_see 69 = .ok (.getfield 304, 3) := by decide +kernel
theorem dX7_see_72 : decode cX7_see 72 = .ok (.iload_n 2, 1) := by decide +kernel
theorem dX7_see_73 : decode cX7_see 73 = .ok (.iastore, 1) := by decide +kernel
theorem dX7_see_74 : decode cX7_see 74 = .ok (.aload_n 0, 1) := by decide +kernel
theorem dX7_see_75 : decode cX7_see 75 = .ok (.getfield 41, 3) := by decide +kernel
theorem dX7_see_78 : decode cX7_see 78 = .ok (.aload_n 0, 1) := by decide +kernel
theorem dX7_see_79 : decode cX7_see 79 = .ok (.getfield 304, 3) := by decide +kernel
theorem dX7_see_82 : decode cX7_see 82 = .ok (.iload_n 3, 1) := by decide +kernel
theorem dX7_see_83 : decode cX7_see 83 = .ok (.iastore, 1) := by decide +kernel
theorem dX7_see_84 : decode cX7_see 84 = .ok (.aload_n 0, 1) := by decide +kernel
theorem dX7_see_85 : decode cX7_see 85 = .ok (.dup, 1) := by decide +kernel
theorem dX7_see_86 : decode cX7_see 86 = .ok (.getfield 304, 3) := by decide +kernel
theorem dX7_see_89 : decode cX7_see 89 = .ok (.iconst 1, 1) := by decide +kernel
theorem dX7_see_90 : decode cX7_see 90 = .ok (.iadd, 1) := by decide +kernel
theorem dX7_see_91 : decode cX7_see 91 = .ok (.putfield 304, 3) := by decide +kernel
theorem dX7_see_94 : decode cX7_see 94 = .ok (.aload_n 0, 1) := by decide +kernel
theorem dX7_see_95 : decode cX7_see 95 = .ok (.getfield 304, 3) := by decide +kernel
theorem dX7_see_98 : decode cX7_see 98 = .ok (.ireturn, 1) := by decide +kernel
theorem dX7_unsee_0 : decode cX7_unsee 0 = .ok (.aload_n 0, 1) := by decide +kernel
theorem dX7_unsee_1 : decode cX7_unsee 1 = .ok (.iconst 0, 1) := by decide +kernel
theorem dX7_unsee_2 : decode cX7_unsee 2 = .ok (.putfield 68, 3) := by decide +kernel
theorem dX7_unsee_5 : decode cX7_unsee 5 = .ok (.aload_n 0, 1) := by decide +kernel
theorem dX7_unsee_6 : decode cX7_unsee 6 = .ok (.getfield 304, 3) := by decide +kernel
theorem dX7_unsee_9 : decode cX7_unsee 9 = .ok (.istore_n 1, 1) := by decide +kernel
theorem dX7_unsee_10 : decode cX7_unsee 10 = .ok (.aload_n 0, 1) := by decide +kernel
theorem dX7_unsee_11 : decode cX7_unsee 11 = .ok (.iconst 0, 1) := by decide +kernel
theorem dX7_unsee_12 : decode cX7_unsee 12 = .ok (.putfield 304, 3) := by decide +kernel
theorem dX7_unsee_15 : decode cX7_unsee 15 = .ok (.iload_n 1, 1) := by decide +kernel
theorem dX7_unsee_16 : decode cX7_unsee 16 = .ok (.ireturn, 1) := by decide +kernel
set_option maxRecDepth 20000 in
theorem ggX7_hasLike_X7_allNotes : GoodIn wsX7_hasLike wsX7_allNotes := goodIn_r _ [6] (by decide +kernel) (by decide +kernel)
set_option maxRecDepth 20000 in
theorem gX7_hasLike_X7_allNotes : GoodIn wsX7_hasLike (va_wsS RX7 187 yX7_allNotes wsX7_allNotes) := goodIn_app (goodIn_of _ (by decide +kernel)) ggX7_hasLike_X7_allNotes
set_option maxRecDepth 20000 in
theorem ggX7_hasLike_X7_isSpelled : GoodIn wsX7_hasLike wsX7_isSpelled := goodIn_r _ [9, 10, 11, 5, 12, 13, 14, 15, 16, 17, 18, 19, 20, 21, 22, 23, 24] (by decide +kernel) (by decide +kernel)
set_option maxRecDepth 20000 in
theorem gX7_hasLike_X7_isSpelled : GoodIn wsX7_hasLike (va_wsS RX7 146 yX7_isSpelled wsX7_isSpelled) := goodIn_app (goodIn_of _ (by decide +kernel)) ggX7_hasLike_X7_isSpelled
set_option maxRecDepth 20000 in
theorem ggX7_hasLike_X7_ref : GoodIn wsX7_hasLike wsX7_ref := goodIn_r _ [24] (by decide +kernel) (by decide +kernel)
set_option maxRecDepth 20000 in
theorem gX7_hasLike_X7_ref : GoodIn wsX7_hasLike (va_wsS RX7 136 yX7_ref wsX7_ref) := goodIn_app (goodIn_of _ (by decide +kernel)) ggX7_hasLike_X7_ref
theorem dX7_hasLike_0 : decode cX7_hasLike 0 = .ok (.iconst 0, 1) := by decide +kernel
theorem dX7_hasLike_1 : decode cX7_hasLike 1 = .ok (.istore 4, 2) := by decide +kernel
theorem dX7_hasLike_3 : decode cX7_hasLike 3 = .ok (.iconst 0, 1) := by decide +kernel
theorem dX7_hasLike_4 : decode cX7_hasLike 4 = .ok (.istore 5, 2) := by decide +kernel
theorem dX7_hasLike_6 : decode cX7_hasLike 6 = .ok (.iload 5, 2) := by decide +kernel
theorem dX7_hasLike_8 : decode cX7_hasLike 8 = .ok (.bipush 64, 2) := by decide +kernel
theorem dX7_hasLike_10 : decode cX7_hasLike 10 = .ok (.if_icmp .ge 109, 3) := by decide +kernel
theorem dX7_hasLike_13 : decode cX7_hasLike 13 = .ok (.iload 5, 2) := by decide +kernel
theorem dX7_hasLike_15 : decode cX7_hasLike 15 = .ok (.iconst 2, 1) := by decide +kernel
theorem dX7_hasLike_16 : decode cX7_hasLike 16 = .ok (.idiv, 1) := by decide +kernel
theorem dX7_hasLike_17 : decode cX7_hasLike 17 = .ok (.istore 6, 2) := by decide +kernel
theorem dX7_hasLike_19 : decode cX7_hasLike 19 = .ok (.aload_n 0, 1) := by decide +kernel
theorem dX7_hasLike_20 : decode cX7_hasLike 20 = .ok (.getfield 16, 3) := by decide +kernel
theorem dX7_hasLike_23 : decode cX7_hasLike 23 = .ok (.aload_n 0, 1) := by decide +kernel
theorem dX7_hasLike_24 : decode cX7_hasLike 24 = .ok (.getfield 16, 3) := by decide +kernel
theorem dX7_hasLike_27 : decode cX7_hasLike 27 = .ok (.invokestatic 187, 3) := by decide +kernel
theorem dX7_hasLike_30 : decode cX7_hasLike 30 = .ok (.iload 6, 2) := by decide +kernel
theorem dX7_hasLike_32 : decode cX7_hasLike 32 = .ok (.invokestatic 146, 3) := by decide +kernel
theorem dX7_hasLike_35 : decode cX7_hasLike 35 = .ok (.ifCond .eq 78, 3) := by decide +kernel
theorem dX7_hasLike_38 : decode cX7_hasLike 38 = .ok (.aload_n 0, 1) := by decide +kernel
theorem dX7_hasLike_39 : decode cX7_hasLike 39 = .ok (.getfield 47, 3) := by decide +kernel
theorem dX7_hasLike_42 : decode cX7_hasLike 42 = .ok (.iload 6, 2) := by decide +kernel
theorem dX7_hasLike_44 : decode cX7_hasLike 44 = .ok (.iaload, 1) := by decide +kernel
theorem dX7_hasLike_45 : decode cX7_hasLike 45 = .ok (.iload_n 1, 1) := by decide +kernel
theorem dX7_hasLike_46 : decode cX7_hasLike 46 = .ok (.if_icmp .ne 67, 3) := by decide +kernel
theorem dX7_hasLike_49 : decode cX7_hasLike 49 = .ok (.aload_n 0, 1) := by decide +kernel
theorem dX7_hasLike_50 : decode cX7_hasLike 50 = .ok (.getfield 16, 3) := by decide +kernel
theorem dX7_hasLike_53 : decode cX7_hasLike 53 = .ok (.iload 6, 2) := by decide +kernel
theorem dX7_hasLike_55 : decode cX7_hasLike 55 = .ok (.iconst 3, 1) := by decide +kernel
theorem dX7_hasLike_56 : decode cX7_hasLike 56 = .ok (.iload 5, 2) := by decide +kernel
theorem dX7_hasLike_58 : decode cX7_hasLike 58 = .ok (.iconst 2, 1) := by decide +kernel
theorem dX7_hasLike_59 : decode cX7_hasLike 59 = .ok (.irem, 1) := by decide +kernel
theorem dX7_hasLike_60 : decode cX7_hasLike 60 = .ok (.iadd, 1) := by decide +kernel
theorem dX7_hasLike_61 : decode cX7_hasLike 61 = .ok (.invokestatic 136, 3) := by decide +kernel
theorem dX7_hasLike_64 : decode cX7_hasLike 64 = .ok (.istore 7, 2) := by decide +kernel
theorem dX7_hasLike_66 : decode cX7_hasLike 66 = .ok (.iload 4, 2) := by decide +kernel
theorem dX7_hasLike_68 : decode cX7_hasLike 68 = .ok (.ifCond .ne 38, 3) := by decide +kernel
theorem dX7_hasLike_71 : decode cX7_hasLike 71 = .ok (.iload 7, 2) := by decide +kernel
theorem dX7_hasLike_73 : decode cX7_hasLike 73 = .ok (.ifCond .eq 37, 3) := by decide +kernel
theorem dX7_hasLike_76 : decode cX7_hasLike 76 = .ok (.iload_n 2, 1) := by decide +kernel
theorem dX7_hasLike_77 : decode cX7_hasLike 77 = .ok (.iconst 3, 1) := by decide +kernel
theorem dX7_hasLike_78 : decode cX7_hasLike 78 = .ok (.if_icmp .ne 16, 3) := by decide +kernel
theorem dX7_hasLike_81 : decode cX7_hasLike 81 = .ok (.iload 7, 2) := by decide +kernel
theorem dX7_hasLike_83 : decode cX7_hasLike 83 = .ok (.sipush 1000, 3) := by decide +kernel
theorem dX7_hasLike_86 : decode cX7_hasLike 86 = .ok (.idiv, 1) := by decide +kernel
theorem dX7_hasLike_87 : decode cX7_hasLike 87 = .ok (.iload_n 3, 1) := by decide +kernel
theorem dX7_hasLike_88 : decode cX7_hasLike 88 = .ok (.if_icmp .ne 22, 3) := by decide +kernel
theorem dX7_hasLike_91 : decode cX7_hasLike 91 = .ok (.goto 15, 3) := by decide +kernel
theorem dX7_hasLike_94 : decode cX7_hasLike 94 = .ok (.iload 7, 2) := by decide +kernel
theorem dX7_hasLike_96 : decode cX7_hasLike 96 = .ok (.bipush 100, 2) := by decide +kernel
theorem dX7_hasLike_98 : decode cX7_hasLike 98 = .ok (.idiv, 1) := by decide +kernel
theorem dX7_hasLike_99 : decode cX7_hasLike 99 = .ok (.bipush 10, 2) := by decide +kernel
theorem dX7_hasLike_101 : decode cX7_hasLike 101 = .ok (.irem, 1) := by decide +kernel
theorem dX7_hasLike_102 : decode cX7_hasLike 102 = .ok (.iload_n 3, 1) := by decide +kernel
theorem dX7_hasLike_103 : decode cX7_hasLike 103 = .ok (.if_icmp .ne 7, 3) := by decide +kernel
theorem dX7_hasLike_106 : decode cX7_hasLike 106 = .ok (.iconst 1, 1) := by decide +kernel
theorem dX7_hasLike_107 : decode cX7_hasLike 107 = .ok (.goto 4, 3) := by decide +kernel
theorem dX7_hasLike_110 : decode cX7_hasLike 110 = .ok (.iconst 0, 1) := by decide +kernel
theorem dX7_hasLike_111 : decode cX7_hasLike 111 = .ok (.istore 4, 2) := by decide +kernel
theorem dX7_hasLike_113 : decode cX7_hasLike 113 = .ok (.iinc 5 1, 3) := by decide +kernel
theorem dX7_hasLike_116 : decode cX7_hasLike 116 = .ok (.goto (-110), 3) := by decide +kernel
theorem dX7_hasLike_119 : decode cX7_hasLike 119 = .ok (.iload 4, 2) := by decide +kernel
theorem dX7_hasLike_121 : decode cX7_hasLike 121 = .ok (.ireturn, 1) := by decide +kernel
set_option maxRecDepth 20000 in
theorem ggX7_isSo_X7_initial : GoodIn wsX7_isSo wsX7_initial := goodIn_r _ [7, 2, 8, 9, 6, 10, 38, 39, 40, 41, 42, 43, 44, 45, 46, 47, 48, 49, 50, 51, 52, 53, 54, 55, 56, 57, 58, 59, 60, 61, 62, 63, 64, 65] (by decide +kernel) (by decide +kernel)
set_option maxRecDepth 20000 in
theorem gX7_isSo_X7_initial : GoodIn wsX7_isSo (wsV RX7 155 RX7 yX7_initial wsX7_initial) := goodIn_app (goodIn_of _ (by decide +kernel)) ggX7_isSo_X7_initial
set_option maxRecDepth 20000 in
theorem ggX7_isSo_X7_ref : GoodIn wsX7_isSo wsX7_ref := goodIn_r _ [10] (by decide +kernel) (by decide +kernel)
set_option maxRecDepth 20000 in
theorem gX7_isSo_X7_ref : GoodIn wsX7_isSo (va_wsS RX7 136 yX7_ref wsX7_ref) := goodIn_app (goodIn_of _ (by decide +kernel)) ggX7_isSo_X7_ref
set_option maxRecDepth 20000 in
theorem ggX7_isSo_X7_notesOf : GoodIn wsX7_isSo wsX7_notesOf := goodIn_r _ [14, 15, 38, 39, 40, 41, 42, 43, 44, 45, 46, 47, 48, 49, 50, 51, 52, 53, 54, 55, 56, 57, 58, 59, 60, 61, 62, 63, 64, 65] (by decide +kernel) (by decide +kernel)
set_option maxRecDepth 20000 in
theorem gX7_isSo_X7_notesOf : GoodIn wsX7_isSo (wsV RX7 219 RX7 yX7_notesOf wsX7_notesOf) := goodIn_app (goodIn_of _ (by decide +kernel)) ggX7_isSo_X7_notesOf
set_option maxRecDepth 20000 in
theorem ggX7_isSo_X7_has : GoodIn wsX7_isSo wsX7_has := goodIn_r _ [18] (by decide +kernel) (by decide +kernel)
set_option maxRecDepth 20000 in
theorem gX7_isSo_X7_has : GoodIn wsX7_isSo (va_wsS RX7 80 yX7_has wsX7_has) := goodIn_app (goodIn_of _ (by decide +kernel)) ggX7_isSo_X7_has
set_option maxRecDepth 20000 in
theorem ggX7_isSo_X7_hasLike : GoodIn wsX7_isSo wsX7_hasLike := goodIn_r _ [22, 1, 15, 23, 24, 6, 25, 26, 27, 28, 29, 30, 31, 32, 33, 34, 35, 36, 37, 16, 17, 18, 8, 9, 10, 38, 39, 40, 41, 42, 43, 44, 45, 46, 47, 48, 49, 50, 51, 52, 53, 54, 55, 56, 57, 58, 59, 60, 61, 62, 63, 64, 65] (by decide +kernel) (by decide +kernel)
set_option maxRecDepth 20000 in
theorem gX7_isSo_X7_hasLike : GoodIn wsX7_isSo (wsV RX7 307 RX7 yX7_hasLike wsX7_hasLike) := goodIn_app (goodIn_of _ (by decide +kernel)) ggX7_isSo_X7_hasLike
theorem dX7_isSo_0 : decode cX7_isSo 0 = .ok (.iload_n 2, 1) := by decide +kernel
theorem dX7_isSo_1 : decode cX7_isSo 1 = .ok (.tableswitch 94 0 2 #[27, 46, 70], 27) := by decide +kernel
theorem dX7_isSo_28 : decode cX7_isSo 28 = .ok (.aload_n 0, 1) := by decide +kernel
theorem dX7_isSo_29 : decode cX7_isSo 29 = .ok (.aload_n 0, 1) := by decide +kernel
theorem dX7_isSo_30 : decode cX7_isSo 30 = .ok (.getfield 16, 3) := by decide +kernel
theorem dX7_isSo_33 : decode cX7_isSo 33 = .ok (.iload_n 1, 1) := by decide +kernel
theorem dX7_isSo_34 : decode cX7_isSo 34 = .ok (.invokevirtual 155, 3) := by decide +kernel
theorem dX7_isSo_37 : decode cX7_isSo 37 = .ok (.iload_n 3, 1) := by decide +kernel
theorem dX7_isSo_38 : decode cX7_isSo 38 = .ok (.if_icmp .ne 7, 3) := by decide +kernel
theorem dX7_isSo_41 : decode cX7_isSo 41 = .ok (.iconst 1, 1) := by decide +kernel
theorem dX7_isSo_42 : decode cX7_isSo 42 = .ok (.goto 4, 3) := by decide +kernel
theorem dX7_isSo_45 : decode cX7_isSo 45 = .ok (.iconst 0, 1) := by decide +kernel
theorem dX7_isSo_46 : decode cX7_isSo 46 = .ok (.ireturn, 1) := by decide +kernel
theorem dX7_isSo_47 : decode cX7_isSo 47 = .ok (.aload_n 0, 1) := by decide +kernel
theorem dX7_isSo_48 : decode cX7_isSo 48 = .ok (.getfield 16, 3) := by decide +kernel
theorem dX7_isSo_51 : decode cX7_isSo 51 = .ok (.aload_n 0, 1) := by decide +kernel
theorem dX7_isSo_52 : decode cX7_isSo 52 = .ok (.getfield 53, 3) := by decide +kernel
theorem dX7_isSo_55 : decode cX7_isSo 55 = .ok (.iload_n 1, 1) := by decide +kernel
theorem dX7_isSo_56 : decode cX7_isSo 56 = .ok (.iaload, 1) := by decide +kernel
theorem dX7_isSo_57 : decode cX7_isSo 57 = .ok (.iconst 2, 1) := by decide +kernel
theorem dX7_isSo_58 : decode cX7_isSo 58 = .ok (.invokestatic 136, 3) := by decide +kernel
theorem dX7_isSo_61 : decode cX7_isSo 61 = .ok (.iload_n 3, 1) := by decide +kernel
theorem dX7_isSo_62 : decode cX7_isSo 62 = .ok (.if_icmp .ne 7, 3) := by decide +kernel
theorem dX7_isSo_65 : decode cX7_isSo 65 = .ok (.iconst 1, 1) := by decide +kernel
theorem dX7_isSo_66 : decode cX7_isSo 66 = .ok (.goto 4, 3) := by decide +kernel
theorem dX7_isSo_69 : decode cX7_isSo 69 = .ok (.iconst 0, 1) := by decide +kernel
theorem dX7_isSo_70 : decode cX7_isSo 70 = .ok (.ireturn, 1) := by decide +kernel
theorem dX7_isSo_71 : decode cX7_isSo 71 = .ok (.iload_n 3, 1) := by decide +kernel
theorem dX7_isSo_72 : decode cX7_isSo 72 = .ok (.bipush 8, 2) := by decide +kernel
theorem dX7_isSo_74 : decode cX7_isSo 74 = .ok (.if_icmp .ge 19, 3) := by decide +kernel
theorem dX7_isSo_77 : decode cX7_isSo 77 = .ok (.aload_n 0, 1) := by decide +kernel
theorem dX7_isSo_78 : decode cX7_isSo 78 = .ok (.iload_n 1, 1) := by decide +kernel
theorem dX7_isSo_79 : decode cX7_isSo 79 = .ok (.invokevirtual 219, 3) := by decide +kernel
theorem dX7_isSo_82 : decode cX7_isSo 82 = .ok (.iload_n 3, 1) := by decide +kernel
theorem dX7_isSo_83 : decode cX7_isSo 83 = .ok (.invokestatic 80, 3) := by decide +kernel
theorem dX7_isSo_86 : decode cX7_isSo 86 = .ok (.ifCond .eq 7, 3) := by decide +kernel
theorem dX7_isSo_89 : decode cX7_isSo 89 = .ok (.iconst 1, 1) := by decide +kernel
theorem dX7_isSo_90 : decode cX7_isSo 90 = .ok (.goto 4, 3) := by decide +kernel
theorem dX7_isSo_93 : decode cX7_isSo 93 = .ok (.iconst 0, 1) := by decide +kernel
theorem dX7_isSo_94 : decode cX7_isSo 94 = .ok (.ireturn, 1) := by decide +kernel
theorem dX7_isSo_95 : decode cX7_isSo 95 = .ok (.aload_n 0, 1) := by decide +kernel
theorem dX7_isSo_96 : decode cX7_isSo 96 = .ok (.iload_n 1, 1) := by decide +kernel
theorem dX7_isSo_97 : decode cX7_isSo 97 = .ok (.iload_n 2, 1) := by decide +kernel
theorem dX7_isSo_98 : decode cX7_isSo 98 = .ok (.iload_n 3, 1) := by decide +kernel
theorem dX7_isSo_99 : decode cX7_isSo 99 = .ok (.invokevirtual 307, 3) := by decide +kernel
theorem dX7_isSo_102 : decode cX7_isSo 102 = .ok (.ireturn, 1) := by decide +kernel
set_option maxRecDepth 20000 in
theorem ggX7_which_X7_in : GoodIn wsX7_which wsX7_in := goodIn_r _ [11] (by decide +kernel) (by decide +kernel)
set_option maxRecDepth 20000 in
theorem gX7_which_X7_in : GoodIn wsX7_which (va_wsS RX7 72 yX7_in wsX7_in) := goodIn_app (goodIn_of _ (by decide +kernel)) ggX7_which_X7_in
set_option maxRecDepth 20000 in
theorem ggX7_which_X7_findAll : GoodIn wsX7_which wsX7_findAll := goodIn_r _ [15, 16, 17, 10, 18, 19, 20, 21, 22, 23, 24, 25, 26, 27, 28, 29, 30, 3, 31, 32, 33, 34, 35, 36, 37, 38, 39, 40, 8, 9, 11, 41, 42, 43, 44, 45, 46, 47, 48, 49, 50, 51, 52, 53, 54, 55, 56, 57, 58, 59, 60, 61, 62, 63, 64, 65, 66, 67, 68, 69, 70, 71, 72, 73, 74, 75, 76, 77, 78, 91, 92, 93, 94, 95, 96, 97, 98, 99, 100, 101, 102, 103, 104, 105, 106, 107, 108, 109, 110, 111, 112, 113, 114, 115, 116, 117, 118] (by decide +kernel) (by decide +kernel)
set_option maxRecDepth 20000 in
theorem gX7_which_X7_findAll : GoodIn wsX7_which (wsV RX7 194 RX7 yX7_findAll wsX7_findAll) := goodIn_app (goodIn_of _ (by decide +kernel)) ggX7_which_X7_findAll
set_option maxRecDepth 20000 in
theorem ggX7_which_X7_isSo : GoodIn wsX7_which wsX7_isSo := goodIn_r _ [82, 2, 31, 71, 72, 73, 10, 74, 44, 45, 46, 83, 84, 85, 86, 23, 41, 42, 43, 87, 88, 89, 90, 16, 17, 18, 32, 33, 34, 35, 36, 37, 38, 39, 40, 8, 9, 11, 91, 92, 93, 94, 95, 96, 97, 98, 99, 100, 101, 102, 103, 104, 105, 106, 107, 108, 109, 110, 111, 112, 113, 114, 115, 116, 117, 118] (by decide +kernel) (by decide +kernel)
set_option maxRecDepth 20000 in
theorem gX7_which_X7_isSo : GoodIn wsX7_which (wsV RX7 311 RX7 yX7_isSo wsX7_isSo) := goodIn_app (goodIn_of _ (by decide +kernel)) ggX7_which_X7_isSo
theorem dX7_which_0 : decode cX7_which 0 = .ok (.aload_n 0, 1) := by decide +kernel
theorem dX7_which_1 : decode cX7_which 1 = .ok (.iconst 0, 1) := by decide +kernel
theorem dX7_which_2 : decode cX7_which 2 = .ok (.putfield 68, 3) := by decide +kernel
theorem dX7_which_5 : decode cX7_which 5 = .ok (.iload_n 1, 1) := by decide +kernel
theorem dX7_which_6 : decode cX7_which 6 = .ok (.i2l, 1) := by decide +kernel
theorem dX7_which_7 : decode cX7_which 7 = .ok (.lconst 0, 1) := by decide +kernel
theorem dX7_which_8 : decode cX7_which 8 = .ok (.lconst 1, 1) := by decide +kernel
theorem dX7_which_9 : decode cX7_which 9 = .ok (.invokestatic 72, 3) := by decide +kernel
theorem dX7_which_12 : decode cX7_which 12 = .ok (.ifCond .ne 6, 3) := by decide +kernel
theorem dX7_which_15 : decode cX7_which 15 = .ok (.bipush (-2), 2) := by decide +kernel
theorem dX7_which_17 : decode cX7_which 17 = .ok (.ireturn, 1) := by decide +kernel
theorem dX7_which_18 : decode cX7_which 18 = .ok (.aload_n 0, 1) := by decide +kernel
theorem dX7_which_19 : decode cX7_which 19 = .ok (.aload_n 0, 1) := by decide +kernel
theorem dX7_which_20 : decode cX7_which 20 = .ok (.getfield 16, 3) := by decide +kernel
theorem dX7_which_23 : decode cX7_which 23 = .ok (.invokevirtual 194, 3) := by decide +kernel
theorem dX7_which_26 : decode cX7_which 26 = .ok (.iconst 0, 1) := by decide +kernel
theorem dX7_which_27 : decode cX7_which 27 = .ok (.istore_n 2, 1) := by decide +kernel
theorem dX7_which_28 : decode cX7_which 28 = .ok (.bipush (-9), 2) := by decide +kernel
theorem dX7_which_30 : decode cX7_which 30 = .ok (.istore_n 3, 1) := by decide +kernel
theorem dX7_which_31 : decode cX7_which 31 = .ok (.aload_n 0, 1) := by decide +kernel
theorem dX7_which_32 : decode cX7_which 32 = .ok (.getfield 152, 3) := by decide +kernel
theorem dX7_which_35 : decode cX7_which 35 = .ok (.iconst 1, 1) := by decide +kernel
theorem dX7_which_36 : decode cX7_which 36 = .ok (.isub, 1) := by decide +kernel
theorem dX7_which_37 : decode cX7_which 37 = .ok (.istore 4, 2) := by decide +kernel
theorem dX7_which_39 : decode cX7_which 39 = .ok (.iload 4, 2) := by decide +kernel
theorem dX7_which_41 : decode cX7_which 41 = .ok (.ifCond .lt 106, 3) := by decide +kernel
theorem dX7_which_44 : decode cX7_which 44 = .ok (.iconst 1, 1) := by decide +kernel
theorem dX7_which_45 : decode cX7_which 45 = .ok (.istore 5, 2) := by decide +kernel
theorem dX7_which_47 : decode cX7_which 47 = .ok (.iconst 0, 1) := by decide +kernel
theorem dX7_which_48 : decode cX7_which 48 = .ok (.istore 6, 2) := by decide +kernel
theorem dX7_which_50 : decode cX7_which 50 = .ok (.iload 6, 2) := by decide +kernel
theorem dX7_which_52 : decode cX7_which 52 = .ok (.aload_n 0, 1) := by decide +kernel
theorem dX7_which_53 : decode cX7_which 53 = .ok (.getfield 304, 3) := by decide +kernel
theorem dX7_which_56 : decode cX7_which 56 = .ok (.if_icmp .ge 60, 3) := by decide +kernel
theorem dX7_which_59 : decode cX7_which 59 = .ok (.iload 5, 2) := by decide +kernel
theorem dX7_which_61 : decode cX7_which 61 = .ok (.ifCond .eq 46, 3) := by decide +kernel
theorem dX7_which_64 : decode cX7_which 64 = .ok (.aload_n 0, 1) := by decide +kernel
theorem dX7_which_65 : decode cX7_which 65 = .ok (.iload 4, 2) := by decide +kernel
theorem dX7_which_67 : decode cX7_which 67 = .ok (.aload_n 0, 1) := by decide +kernel
theorem dX7_which_68 : decode cX7_which 68 = .ok (.getfield 35, 3) := by decide +kernel
theorem dX7_which_71 : decode cX7_which 71 = .ok (.iload 6, 2) := by decide +kernel
theorem dX7_which_73 : decode cX7_which 73 = .ok (.iaload, 1) := by decide +kernel
theorem dX7_which_74 : decode cX7_which 74 = .ok (.aload_n 0, 1) := by decide +kernel
theorem dX7_which_75 : decode cX7_which 75 = .ok (.getfield 38, 3) := by decide +kernel
theorem dX7_which_78 : decode cX7_which 78 = .ok (.iload 6, 2) := by decide +kernel
theorem dX7_which_80 : decode cX7_which 80 = .ok (.iaload, 1) := by decide +kernel
theorem dX7_which_81 : decode cX7_which 81 = .ok (.invokevirtual 311, 3) := by decide +kernel
theorem dX7_which_84 : decode cX7_which 84 = .ok (.aload_n 0, 1) := by decide +kernel
theorem dX7_which_85 : decode cX7_which 85 = .ok (.getfield 41, 3) := by decide +kernel
theorem dX7_which_88 : decode cX7_which 88 = .ok (.iload 6, 2) := by decide +kernel
theorem dX7_which_90 : decode cX7_which 90 = .ok (.iaload, 1) := by decide +kernel
theorem dX7_which_91 : decode cX7_which 91 = .ok (.iconst 1, 1) := by decide +kernel
theorem dX7_which_92 : decode cX7_which 92 = .ok (.if_icmp .ne 7, 3) := by decide +kernel
theorem dX7_which_95 : decode cX7_which 95 = .ok (.iconst 1, 1) := by decide +kernel
theorem dX7_which_96 : decode cX7_which 96 = .ok (.goto 4, 3) := by decide +kernel
theorem dX7_which_99 : decode cX7_which 99 = .ok (.iconst 0, 1) := by decide +kernel
theorem dX7_which_100 : decode cX7_which 100 = .ok (.if_icmp .ne 7, 3) := by decide +kernel
theorem dX7_which_103 : decode cX7_which 103 = .ok (.iconst 1, 1) := by decide +kernel
theorem dX7_which_104 : decode cX7_which 104 = .ok (.goto 4, 3) := by decide +kernel
theorem dX7_which_107 : decode cX7_which 107 = .ok (.iconst 0, 1) := by decide +kernel
theorem dX7_which_108 : decode cX7_which 108 = .ok (.istore 5, 2) := by decide +kernel
theorem dX7_which_110 : decode cX7_which 110 = .ok (.iinc 6 1, 3) := by decide +kernel
theorem dX7_which_113 : decode cX7_which 113 = .ok (.goto (-63), 3) := by decide +kernel
theorem dX7_which_116 : decode cX7_which 116 = .ok (.iload_n 2, 1) := by decide +kernel
theorem dX7_which_117 : decode cX7_which 117 = .ok (.iload 5, 2) := by decide +kernel
theorem dX7_which_119 : decode cX7_which 119 = .ok (.ifCond .eq 7, 3) := by decide +kernel
theorem dX7_which_122 : decode cX7_which 122 = .ok (.iconst 1, 1) := by decide +kernel
theorem dX7_which_123 : decode cX7_which 123 = .ok (.goto 4, 3) := by decide +kernel
theorem dX7_which_126 : decode cX7_which 126 = .ok (.iconst 0, 1) := by decide +kernel
theorem dX7_which_127 : decode cX7_which 127 = .ok (.iadd, 1) := by decide +kernel
theorem dX7_which_128 : decode cX7_which 128 = .ok (.istore_n 2, 1) := by decide +kernel
theorem dX7_which_129 : decode cX7_which 129 = .ok (.iload 5, 2) := by decide +kernel
theorem dX7_which_131 : decode cX7_which 131 = .ok (.ifCond .eq 8, 3) := by decide +kernel
theorem dX7_which_134 : decode cX7_which 134 = .ok (.iload 4, 2) := by decide +kernel
theorem dX7_which_136 : decode cX7_which 136 = .ok (.goto 4, 3) := by decide +kernel
theorem dX7_which_139 : decode cX7_which 139 = .ok (.iload_n 3, 1) := by decide +kernel
theorem dX7_which_140 : decode cX7_which 140 = .ok (.istore_n 3, 1) := by decide +kernel
theorem dX7_which_141 : decode cX7_which 141 = .ok (.iinc 4 (-1), 3) := by decide +kernel
theorem dX7_which_144 : decode cX7_which 144 = .ok (.goto (-105), 3) := by decide +kernel
theorem dX7_which_147 : decode cX7_which 147 = .ok (.iload_n 1, 1) := by decide +kernel
theorem dX7_which_148 : decode cX7_which 148 = .ok (.ifCond .ne 7, 3) := by decide +kernel
theorem dX7_which_151 : decode cX7_which 151 = .ok (.iload_n 2, 1) := by decide +kernel
theorem dX7_which_152 : decode cX7_which 152 = .ok (.goto 4, 3) := by decide +kernel
theorem dX7_which_155 : decode cX7_which 155 = .ok (.iload_n 3, 1) := by decide +kernel
theorem dX7_which_156 : decode cX7_which 156 = .ok (.ireturn, 1) := by decide +kernel
theorem dX7_divisor_0 : decode cX7_divisor 0 = .ok (.iload_n 0, 1) := by decide +kernel
theorem dX7_divisor_1 : decode cX7_divisor 1 = .ok (.ifCond .ge 8, 3) := by decide +kernel
theorem dX7_divisor_4 : decode cX7_divisor 4 = .ok (.iload_n 0, 1) := by decide +kernel
theorem dX7_divisor_5 : decode cX7_divisor 5 = .ok (.ineg, 1) := by decide +kernel
theorem dX7_divisor_6 : decode cX7_divisor 6 = .ok (.goto 4, 3) := by decide +kernel
theorem dX7_divisor_9 : decode cX7_divisor 9 = .ok (.iload_n 0, 1) := by decide +kernel
theorem dX7_divisor_10 : decode cX7_divisor 10 = .ok (.istore_n 2, 1) := by decide +kernel
theorem dX7_divisor_11 : decode cX7_divisor 11 = .ok (.iload_n 1, 1) := by decide +kernel
theorem dX7_divisor_12 : decode cX7_divisor 12 = .ok (.istore_n 3, 1) := by decide +kernel
theorem dX7_divisor_13 : decode cX7_divisor 13 = .ok (.iload_n 3, 1) := by decide +kernel
theorem dX7_divisor_14 : decode cX7_divisor 14 = .ok (.ifCond .eq 16, 3) := by decide +kernel
theorem dX7_divisor_17 : decode cX7_divisor 17 = .ok (.iload_n 2, 1) := by decide +kernel
theorem dX7_divisor_18 : decode cX7_divisor 18 = .ok (.iload_n 3, 1) := by decide +kernel
theorem dX7_divisor_19 : decode cX7_divisor 19 = .ok (.irem, 1) := by decide +kernel
theorem dX7_divisor_20 : decode cX7_divisor 20 = .ok (.istore 4, 2) := by decide +kernel
theorem dX7_divisor_22 : decode cX7_divisor 22 = .ok (.iload_n 3, 1) := by decide +kernel
theorem dX7_divisor_23 : decode cX7_divisor 23 = .ok (.istore_n 2, 1) := by decide +kernel
theorem dX7_divisor_24 : decode cX7_divisor 24 = .ok (.iload 4, 2) := by decide +kernel
theorem dX7_divisor_26 : decode cX7_divisor 26 = .ok (.istore_n 3, 1) := by decide +kernel
theorem dX7_divisor_27 : decode cX7_divisor 27 = .ok (.goto (-14), 3) := by decide +kernel
theorem dX7_divisor_30 : decode cX7_divisor 30 = .ok (.iload_n 2, 1) := by decide +kernel
theorem dX7_divisor_31 : decode cX7_divisor 31 = .ok (.ireturn, 1) := by decide +kernel
set_option maxRecDepth 20000 in
theorem ggX7_fraction_X7_divisor : GoodIn wsX7_fraction wsX7_divisor := goodIn_r _ [4] (by decide +kernel) (by decide +kernel)
set_option maxRecDepth 20000 in
theorem gX7_fraction_X7_divisor : GoodIn wsX7_fraction (va_wsS RX7 314 yX7_divisor wsX7_divisor) := goodIn_app (goodIn_of _ (by decide +kernel)) ggX7_fraction_X7_divisor
theorem dX7_fraction_0 : decode cX7_fraction 0 = .ok (.iload_n 0, 1) := by decide +kernel
theorem dX7_fraction_1 : decode cX7_fraction 1 = .ok (.iload_n 1, 1) := by decide +kernel
theorem dX7_fraction_2 : decode cX7_fraction 2 = .ok (.invokestatic 314, 3) := by decide +kernel
theorem dX7_fraction_5 : decode cX7_fraction 5 = .ok (.istore_n 3, 1) := by decide +kernel
theorem dX7_fraction_6 : decode cX7_fraction 6 = .ok (.iload_n 2, 1) := by decide +kernel
theorem dX7_fraction_7 : decode cX7_fraction 7 = .ok (.ifCond .eq 9, 3) := by decide +kernel
theorem dX7_fraction_10 : decode cX7_fraction 10 = .ok (.iload_n 0, 1) := by decide +kernel
theorem dX7_fraction_11 : decode cX7_fraction 11 = .ok (.iload_n 3, 1) := by decide +kernel
theorem dX7_fraction_12 : decode cX7_fraction 12 = .ok (.idiv, 1) := by decide +kernel
theorem dX7_fraction_13 : decode cX7_fraction 13 = .ok (.goto 6, 3) := by decide +kernel
theorem dX7_fraction_16 : decode cX7_fraction 16 = .ok (.iload_n 1, 1) := by decide +kernel
theorem dX7_fraction_17 : decode cX7_fraction 17 = .ok (.iload_n 3, 1) := by decide +kernel
theorem dX7_fraction_18 : decode cX7_fraction 18 = .ok (.idiv, 1) := by decide +kernel
theorem dX7_fraction_19 : decode cX7_fraction 19 = .ok (.ireturn, 1) := by decide +kernel
theorem dX7_factorial_0 : decode cX7_factorial 0 = .ok (.iconst 1, 1) := by decide +kernel
theorem dX7_factorial_1 : decode cX7_factorial 1 = .ok (.istore_n 1, 1) := by decide +kernel
theorem dX7_factorial_2 : decode cX7_factorial 2 = .ok (.iconst 2, 1) := by decide +kernel
theorem dX7_factorial_3 : decode cX7_factorial 3 = .ok (.istore_n 2, 1) := by decide +kernel
theorem dX7_factorial_4 : decode cX7_factorial 4 = .ok (.iload_n 2, 1) := by decide +kernel
theorem dX7_factorial_5 : decode cX7_factorial 5 = .ok (.iload_n 0, 1) := by decide +kernel
theorem dX7_factorial_6 : decode cX7_factorial 6 = .ok (.if_icmp .gt 13, 3) := by decide +kernel
theorem dX7_factorial_9 : decode cX7_factorial 9 = .ok (.iload_n 1, 1) := by decide +kernel
theorem dX7_factorial_10 : decode cX7_factorial 10 = .ok (.iload_n 2, 1) := by decide +kernel
theorem dX7_factorial_11 : decode cX7_factorial 11 = .ok (.imul, 1) := by decide +kernel
theorem dX7_factorial_12 : decode cX7_factorial 12 = .ok (.istore_n 1, 1) := by decide +kernel
theorem dX7_factorial_13 : decode cX7_factorial 13 = .ok (.iinc 2 1, 3) := by decide +kernel
theorem dX7_factorial_16 : decode cX7_factorial 16 = .ok (.goto (-12), 3) := by decide +kernel
theorem dX7_factorial_19 : decode cX7_factorial 19 = .ok (.iload_n 1, 1) := by decide +kernel
theorem dX7_factorial_20 : decode cX7_factorial 20 = .ok (.ireturn, 1) := by decide +kernel
set_option maxRecDepth 20000 in
theorem ggX7_share_X7_in : GoodIn wsX7_share wsX7_in := goodIn_r _ [7] (by decide +kernel) (by decide +kernel)
set_option maxRecDepth 20000 in
theorem gX7_share_X7_in : GoodIn wsX7_share (va_wsS RX7 72 yX7_in wsX7_in) := goodIn_app (goodIn_of _ (by decide +kernel)) ggX7_share_X7_in
set_option maxRecDepth 20000 in
theorem ggX7_share_X7_find : GoodIn wsX7_share wsX7_find := goodIn_r _ [11, 12, 13, 14, 15, 16, 17, 6, 18, 19, 20, 21, 22, 23, 24, 25, 26, 27, 28, 29, 30, 4, 5, 7, 31, 32, 33, 34, 35, 36, 37, 38, 39, 40, 41, 42, 43, 44, 45, 46, 47, 48, 49, 50, 51, 52, 53, 54, 55, 56, 57, 58, 59, 60, 61, 62, 63, 64, 65, 66, 67, 68, 85, 86, 87, 88, 89, 90, 91, 92, 93, 94, 95, 96, 97, 98, 99, 100, 101, 102, 103, 104, 105, 106, 107, 108, 109, 110, 111, 112] (by decide +kernel) (by decide +kernel)
set_option maxRecDepth 20000 in
theorem gX7_share_X7_find : GoodIn wsX7_share (wsV RX7 191 RX7 yX7_find wsX7_find) := goodIn_app (goodIn_of _ (by decide +kernel)) ggX7_share_X7_find
set_option maxRecDepth 20000 in
theorem ggX7_share_X7_manyFound : GoodIn wsX7_share wsX7_manyFound := goodIn_r _ [72, 12, 85, 86, 87, 88, 89, 90, 91, 92, 93, 94, 95, 96, 97, 98, 99, 100, 101, 102, 103, 104, 105, 106, 107, 108, 109, 110, 111, 112] (by decide +kernel) (by decide +kernel)
set_option maxRecDepth 20000 in
theorem gX7_share_X7_manyFound : GoodIn wsX7_share (wsV RX7 201 RX7 yX7_manyFound wsX7_manyFound) := goodIn_app (goodIn_of _ (by decide +kernel)) ggX7_share_X7_manyFound
set_option maxRecDepth 20000 in
theorem ggX7_share_X7_ones : GoodIn wsX7_share wsX7_ones := goodIn_r _ [75] (by decide +kernel) (by decide +kernel)
set_option maxRecDepth 20000 in
theorem gX7_share_X7_ones : GoodIn wsX7_share (va_wsS RX7 318 yX7_ones wsX7_ones) := goodIn_app (goodIn_of _ (by decide +kernel)) ggX7_share_X7_ones
set_option maxRecDepth 20000 in
theorem ggX7_share_X7_has : GoodIn wsX7_share wsX7_has := goodIn_r _ [33] (by decide +kernel) (by decide +kernel)
set_option maxRecDepth 20000 in
theorem gX7_share_X7_has : GoodIn wsX7_share (va_wsS RX7 80 yX7_has wsX7_has) := goodIn_app (goodIn_of _ (by decide +kernel)) ggX7_share_X7_has
set_option maxRecDepth 20000 in
theorem ggX7_share_X7_factorial : GoodIn wsX7_share wsX7_factorial := goodIn_r _ [78] (by decide +kernel) (by decide +kernel)
set_option maxRecDepth 20000 in
theorem gX7_share_X7_factorial : GoodIn wsX7_share (va_wsS RX7 321 yX7_factorial wsX7_factorial) := goodIn_app (goodIn_of _ (by decide +kernel)) ggX7_share_X7_factorial
set_option maxRecDepth 20000 in
theorem ggX7_share_X7_fraction : GoodIn wsX7_share wsX7_fraction := goodIn_r _ [81, 82, 83, 6, 84] (by decide +kernel) (by decide +kernel)
set_option maxRecDepth 20000 in
theorem gX7_share_X7_fraction : GoodIn wsX7_share (va_wsS RX7 324 yX7_fraction wsX7_fraction) := goodIn_app (goodIn_of _ (by decide +kernel)) ggX7_share_X7_fraction
theorem dX7_share_0 : decode cX7_share 0 = .ok (.aload_n 0, 1) := by decide +kernel
theorem dX7_share_1 : decode cX7_share 1 = .ok (.iconst 0, 1) := by decide +kernel
theorem dX7_share_2 : decode cX7_share 2 = .ok (.putfield 68, 3) := by decide +kernel
theorem dX7_share_5 : decode cX7_share 5 = .ok (.aload_n 0, 1) := by decide +kernel
theorem dX7_share_6 : decode cX7_share 6 = .ok (.getfield 16, 3) := by decide +kernel
theorem dX7_share_9 : decode cX7_share 9 = .ok (.iconst 0, 1) := by decide +kernel
theorem dX7_share_10 : decode cX7_share 10 = .ok (.iaload, 1) := by decide +kernel
theorem dX7_share_11 : decode cX7_share 11 = .ok (.istore_n 3, 1) := by decide +kernel
theorem dX7_share_12 : decode cX7_share 12 = .ok (.iload_n 1, 1) := by decide +kernel
theorem dX7_share_13 : decode cX7_share 13 = .ok (.i2l, 1) := by decide +kernel
theorem dX7_share_14 : decode cX7_share 14 = .ok (.lconst 0, 1) := by decide +kernel
theorem dX7_share_15 : decode cX7_share 15 = .ok (.iload_n 3, 1) := by decide +kernel
theorem dX7_share_16 : decode cX7_share 16 = .ok (.iconst 1, 1) := by decide +kernel
theorem dX7_share_17 : decode cX7_share 17 = .ok (.isub, 1) := by decide +kernel
theorem dX7_share_18 : decode cX7_share 18 = .ok (.i2l, 1) := by decide +kernel
theorem dX7_share_19 : decode cX7_share 19 = .ok (.invokestatic 72, 3) := by decide +kernel
theorem dX7_share_22 : decode cX7_share 22 = .ok (.ifCond .ne 5, 3) := by decide +kernel
theorem dX7_share_25 : decode cX7_share 25 = .ok (.iconst (-1), 1) := by decide +kernel
theorem dX7_share_26 : decode cX7_share 26 = .ok (.ireturn, 1) := by decide +kernel
theorem dX7_share_27 : decode cX7_share 27 = .ok (.iconst 0, 1) := by decide +kernel
theorem dX7_share_28 : decode cX7_share 28 = .ok (.istore 4, 2) := by decide +kernel
theorem dX7_share_30 : decode cX7_share 30 = .ok (.iload 4, 2) := by decide +kernel
theorem dX7_share_32 : decode cX7_share 32 = .ok (.iconst 1, 1) := by decide +kernel
theorem dX7_share_33 : decode cX7_share 33 = .ok (.iload_n 3, 1) := by decide +kernel
theorem dX7_share_34 : decode cX7_share 34 = .ok (.ishl, 1) := by decide +kernel
theorem dX7_share_35 : decode cX7_share 35 = .ok (.if_icmp .ge 30, 3) := by decide +kernel
theorem dX7_share_38 : decode cX7_share 38 = .ok (.aload_n 0, 1) := by decide +kernel
theorem dX7_share_39 : decode cX7_share 39 = .ok (.aload_n 0, 1) := by decide +kernel
theorem dX7_share_40 : decode cX7_share 40 = .ok (.getfield 16, 3) := by decide +kernel
theorem dX7_share_43 : decode cX7_share 43 = .ok (.iload 4, 2) := by decide +kernel
theorem dX7_share_45 : decode cX7_share 45 = .ok (.invokevirtual 191, 3) := by decide +kernel
theorem dX7_share_48 : decode cX7_share 48 = .ok (.aload_n 0, 1) := by decide +kernel
theorem dX7_share_49 : decode cX7_share 49 = .ok (.getfield 65, 3) := by decide +kernel
theorem dX7_share_52 : decode cX7_share 52 = .ok (.iload 4, 2) := by decide +kernel
theorem dX7_share_54 : decode cX7_share 54 = .ok (.aload_n 0, 1) := by decide +kernel
theorem dX7_share_55 : decode cX7_share 55 = .ok (.invokevirtual 201, 3) := by decide +kernel
theorem dX7_share_58 : decode cX7_share 58 = .ok (.iastore, 1) := by decide +kernel
theorem dX7_share_59 : decode cX7_share 59 = .ok (.iinc 4 1, 3) := by decide +kernel
theorem dX7_share_62 : decode cX7_share 62 = .ok (.goto (-32), 3) := by decide +kernel
theorem dX7_share_65 : decode cX7_share 65 = .ok (.iconst 0, 1) := by decide +kernel
theorem dX7_share_66 : decode cX7_share 66 = .ok (.istore 4, 2) := by decide +kernel
theorem dX7_share_68 : decode cX7_share 68 = .ok (.iconst 0, 1) := by decide +kernel
theorem dX7_share_69 : decode cX7_share 69 = .ok (.istore 5, 2) := by decide +kernel
theorem dX7_share_71 : decode cX7_share 71 = .ok (.iload 5, 2) := by decide +kernel
theorem dX7_share_73 : decode cX7_share 73 = .ok (.iconst 1, 1) := by decide +kernel
theorem dX7_share_74 : decode cX7_share 74 = .ok (.iload_n 3, 1) := by decide +kernel
theorem dX7_share_75 : decode cX7_share 75 = .ok (.ishl, 1) := by decide +kernel
theorem dX7_share_76 : decode cX7_share 76 = .ok (.if_icmp .ge 69, 3) := by decide +kernel
theorem dX7_share_79 : decode cX7_share 79 = .ok (.iload 5, 2) := by decide +kernel
theorem dX7_share_81 : decode cX7_share 81 = .ok (.invokestatic 318, 3) := by decide +kernel
theorem dX7_share_84 : decode cX7_share 84 = .ok (.istore 6, 2) := by decide +kernel
theorem dX7_share_86 : decode cX7_share 86 = .ok (.iload 4, 2) := by decide +kernel
theorem dX7_share_88 : decode cX7_share 88 = .ok (.iload 5, 2) := by decide +kernel
theorem dX7_share_90 : decode cX7_share 90 = .ok (.iload_n 1, 1) := by decide +kernel
theorem dX7_share_91 : decode cX7_share 91 = .ok (.invokestatic 80, 3) := by decide +kernel
theorem dX7_share_94 : decode cX7_share 94 = .ok (.ifCond .eq 7, 3) := by decide +kernel
theorem dX7_share_97 : decode cX7_share 97 = .ok (.iconst 0, 1) := by decide +kernel
theorem dX7_share_98 : decode cX7_share 98 = .ok (.goto 38, 3) := by decide +kernel
theorem dX7_share_101 : decode cX7_share 101 = .ok (.iload 6, 2) := by decide +kernel
theorem dX7_share_103 : decode cX7_share 103 = .ok (.invokestatic 321, 3) := by decide +kernel
theorem dX7_share_106 : decode cX7_share 106 = .ok (.iload_n 3, 1) := by decide +kernel
theorem dX7_share_107 : decode cX7_share 107 = .ok (.iconst 1, 1) := by decide +kernel
theorem dX7_share_108 : decode cX7_share 108 = .ok (.isub, 1) := by decide +kernel
theorem dX7_share_109 : decode cX7_share 109 = .ok (.iload 6, 2) := by decide +kernel
theorem dX7_share_111 : decode cX7_share 111 = .ok (.isub, 1) := by decide +kernel
theorem dX7_share_112 : decode cX7_share 112 = .ok (.invokestatic 321, 3) := by decide +kernel
theorem dX7_share_115 : decode cX7_share 115 = .ok (.imul, 1) := by decide +kernel
theorem dX7_share_116 : decode cX7_share 116 = .ok (.aload_n 0, 1) := by decide +kernel
theorem dX7_share_117 : decode cX7_share 117 = .ok (.getfield 65, 3) := by decide +kernel
theorem dX7_share_120 : decode cX7_share 120 = .ok (.iload 5, 2) := by decide +kernel
theorem dX7_share_122 : decode cX7_share 122 = .ok (.iconst 1, 1) := by decide +kernel
theorem dX7_share_123 : decode cX7_share 123 = .ok (.iload_n 1, 1) := by decide +kernel
theorem dX7_share_124 : decode cX7_share 124 = .ok (.ishl, 1) := by decide +kernel
theorem dX7_share_125 : decode cX7_share 125 = .ok (.ior, 1) := by decide +kernel
theorem dX7_share_126 : decode cX7_share 126 = .ok (.iaload, 1) := by decide +kernel
theorem dX7_share_127 : decode cX7_share 127 = .ok (.aload_n 0, 1) := by decide +kernel
theorem dX7_share_128 : decode cX7_share 128 = .ok (.getfield 65, 3) := by decide +kernel
theorem dX7_share_131 : decode cX7_share 131 = .ok (.iload 5, 2) := by decide +kernel
theorem dX7_share_133 : decode cX7_share 133 = .ok (.iaload, 1) := by decide +kernel
theorem dX7_share_134 : decode cX7_share 134 = .ok (.isub, 1) := by decide +kernel
theorem dX7_share_135 : decode cX7_share 135 = .ok (.imul, 1) := by decide +kernel
theorem dX7_share_136 : decode cX7_share 136 = .ok (.iadd, 1) := by decide +kernel
theorem dX7_share_137 : decode cX7_share 137 = .ok (.istore 4, 2) := by decide +kernel
theorem dX7_share_139 : decode cX7_share 139 = .ok (.iinc 5 1, 3) := by decide +kernel
theorem dX7_share_142 : decode cX7_share 142 = .ok (.goto (-71), 3) := by decide +kernel
theorem dX7_share_145 : decode cX7_share 145 = .ok (.iload 4, 2) := by decide +kernel
theorem dX7_share_147 : decode cX7_share 147 = .ok (.iload_n 3, 1) := by decide +kernel
theorem dX7_share_148 : decode cX7_share 148 = .ok (.invokestatic 321, 3) := by decide +kernel
theorem dX7_share_151 : decode cX7_share 151 = .ok (.iload_n 2, 1) := by decide +kernel
theorem dX7_share_152 : decode cX7_share 152 = .ok (.invokestatic 324, 3) := by decide +kernel
theorem dX7_share_155 : decode cX7_share 155 = .ok (.ireturn, 1) := by decide +kernel
set_option maxRecDepth 20000 in
theorem ggX7_lost_X7_in : GoodIn wsX7_lost wsX7_in := goodIn_r _ [7] (by decide +kernel) (by decide +kernel)
set_option maxRecDepth 20000 in
theorem gX7_lost_X7_in : GoodIn wsX7_lost (va_wsS RX7 72 yX7_in wsX7_in) := goodIn_app (goodIn_of _ (by decide +kernel)) ggX7_lost_X7_in
set_option maxRecDepth 20000 in
theorem ggX7_lost_X7_find : GoodIn wsX7_lost wsX7_find := goodIn_r _ [11, 12, 13, 14, 15, 16, 17, 6, 18, 19, 20, 21, 22, 23, 24, 25, 26, 27, 28, 29, 30, 4, 5, 7, 31, 32, 33, 34, 35, 36, 37, 38, 39, 40, 41, 42, 43, 44, 45, 46, 47, 48, 49, 50, 51, 52, 53, 54, 55, 56, 57, 58, 59, 60, 61, 62, 63, 64, 65, 66, 67, 68, 88, 89, 90, 91, 92, 93, 94, 95, 96, 97, 98, 99, 100, 101, 102, 103, 104, 105, 106, 107, 108, 109, 110, 111, 112, 113, 114, 115] (by decide +kernel) (by decide +kernel)
set_option maxRecDepth 20000 in
theorem gX7_lost_X7_find : GoodIn wsX7_lost (wsV RX7 191 RX7 yX7_find wsX7_find) := goodIn_app (goodIn_of _ (by decide +kernel)) ggX7_lost_X7_find
set_option maxRecDepth 20000 in
theorem ggX7_lost_X7_manyFound : GoodIn wsX7_lost wsX7_manyFound := goodIn_r _ [72, 12, 88, 89, 90, 91, 92, 93, 94, 95, 96, 97, 98, 99, 100, 101, 102, 103, 104, 105, 106, 107, 108, 109, 110, 111, 112, 113, 114, 115] (by decide +kernel) (by decide +kernel)
set_option maxRecDepth 20000 in
theorem gX7_lost_X7_manyFound : GoodIn wsX7_lost (wsV RX7 201 RX7 yX7_manyFound wsX7_manyFound) := goodIn_app (goodIn_of _ (by decide +kernel)) ggX7_lost_X7_manyFound
set_option maxRecDepth 20000 in
theorem ggX7_lost_X7_manyRefs : GoodIn wsX7_lost wsX7_manyRefs := goodIn_r _ [75, 25, 26, 6, 27, 28, 29, 30, 4, 5, 7, 31, 32, 33] (by decide +kernel) (by decide +kernel)
set_option maxRecDepth 20000 in
theorem gX7_lost_X7_manyRefs : GoodIn wsX7_lost (va_wsS RX7 198 yX7_manyRefs wsX7_manyRefs) := goodIn_app (goodIn_of _ (by decide +kernel)) ggX7_lost_X7_manyRefs
set_option maxRecDepth 20000 in
theorem ggX7_lost_X7_ones : GoodIn wsX7_lost wsX7_ones := goodIn_r _ [78] (by decide +kernel) (by decide +kernel)
set_option maxRecDepth 20000 in
theorem gX7_lost_X7_ones : GoodIn wsX7_lost (va_wsS RX7 318 yX7_ones wsX7_ones) := goodIn_app (goodIn_of _ (by decide +kernel)) ggX7_lost_X7_ones
set_option maxRecDepth 20000 in
theorem ggX7_lost_X7_power : GoodIn wsX7_lost wsX7_power := goodIn_r _ [81] (by decide +kernel) (by decide +kernel)
set_option maxRecDepth 20000 in
theorem gX7_lost_X7_power : GoodIn wsX7_lost (va_wsS RX7 330 yX7_power wsX7_power) := goodIn_app (goodIn_of _ (by decide +kernel)) ggX7_lost_X7_power
set_option maxRecDepth 20000 in
theorem ggX7_lost_X7_fraction : GoodIn wsX7_lost wsX7_fraction := goodIn_r _ [84, 85, 86, 6, 87] (by decide +kernel) (by decide +kernel)
set_option maxRecDepth 20000 in
theorem gX7_lost_X7_fraction : GoodIn wsX7_lost (va_wsS RX7 324 yX7_fraction wsX7_fraction) := goodIn_app (goodIn_of _ (by decide +kernel)) ggX7_lost_X7_fraction
theorem dX7_lost_0 : decode cX7_lost 0 = .ok (.aload_n 0, 1) := by decide +kernel
theorem dX7_lost_1 : decode cX7_lost 1 = .ok (.iconst 0, 1) := by decide +kernel
theorem dX7_lost_2 : decode cX7_lost 2 = .ok (.putfield 68, 3) := by decide +kernel
theorem dX7_lost_5 : decode cX7_lost 5 = .ok (.iload_n 1, 1) := by decide +kernel
theorem dX7_lost_6 : decode cX7_lost 6 = .ok (.i2l, 1) := by decide +kernel
theorem dX7_lost_7 : decode cX7_lost 7 = .ok (.lconst 0, 1) := by decide +kernel
theorem dX7_lost_8 : decode cX7_lost 8 = .ok (.ldc2_w 328, 3) := by decide +kernel
theorem dX7_lost_11 : decode cX7_lost 11 = .ok (.invokestatic 72, 3) := by decide +kernel
theorem dX7_lost_14 : decode cX7_lost 14 = .ok (.ifCond .ne 6, 3) := by decide +kernel
theorem dX7_lost_17 : decode cX7_lost 17 = .ok (.bipush (-2), 2) := by decide +kernel
theorem dX7_lost_19 : decode cX7_lost 19 = .ok (.ireturn, 1) := by decide +kernel
theorem dX7_lost_20 : decode cX7_lost 20 = .ok (.aload_n 0, 1) := by decide +kernel
theorem dX7_lost_21 : decode cX7_lost 21 = .ok (.getfield 16, 3) := by decide +kernel
theorem dX7_lost_24 : decode cX7_lost 24 = .ok (.iconst 0, 1) := by decide +kernel
theorem dX7_lost_25 : decode cX7_lost 25 = .ok (.iaload, 1) := by decide +kernel
theorem dX7_lost_26 : decode cX7_lost 26 = .ok (.istore_n 3, 1) := by decide +kernel
theorem dX7_lost_27 : decode cX7_lost 27 = .ok (.iconst 0, 1) := by decide +kernel
theorem dX7_lost_28 : decode cX7_lost 28 = .ok (.istore 4, 2) := by decide +kernel
theorem dX7_lost_30 : decode cX7_lost 30 = .ok (.iconst 0, 1) := by decide +kernel
theorem dX7_lost_31 : decode cX7_lost 31 = .ok (.istore 5, 2) := by decide +kernel
theorem dX7_lost_33 : decode cX7_lost 33 = .ok (.iload 5, 2) := by decide +kernel
theorem dX7_lost_35 : decode cX7_lost 35 = .ok (.iconst 1, 1) := by decide +kernel
theorem dX7_lost_36 : decode cX7_lost 36 = .ok (.iload_n 3, 1) := by decide +kernel
theorem dX7_lost_37 : decode cX7_lost 37 = .ok (.ishl, 1) := by decide +kernel
theorem dX7_lost_38 : decode cX7_lost 38 = .ok (.if_icmp .ge 80, 3) := by decide +kernel
theorem dX7_lost_41 : decode cX7_lost 41 = .ok (.aload_n 0, 1) := by decide +kernel
theorem dX7_lost_42 : decode cX7_lost 42 = .ok (.aload_n 0, 1) := by decide +kernel
theorem dX7_lost_43 : decode cX7_lost 43 = .ok (.getfield 16, 3) := by decide +kernel
theorem dX7_lost_46 : decode cX7_lost 46 = .ok (.iload 5, 2) := by decide +kernel
theorem dX7_lost_48 : decode cX7_lost 48 = .ok (.invokevirtual 191, 3) := by decide +kernel
theorem dX7_lost_51 : decode cX7_lost 51 = .ok (.aload_n 0, 1) := by decide +kernel
theorem dX7_lost_52 : decode cX7_lost 52 = .ok (.invokevirtual 201, 3) := by decide +kernel
theorem dX7_lost_55 : decode cX7_lost 55 = .ok (.aload_n 0, 1) := by decide +kernel
theorem dX7_lost_56 : decode cX7_lost 56 = .ok (.getfield 16, 3) := by decide +kernel
theorem dX7_lost_59 : decode cX7_lost 59 = .ok (.iload 5, 2) := by decide +kernel
theorem dX7_lost_61 : decode cX7_lost 61 = .ok (.invokestatic 198, 3) := by decide +kernel
theorem dX7_lost_64 : decode cX7_lost 64 = .ok (.if_icmp .ne 7, 3) := by decide +kernel
theorem dX7_lost_67 : decode cX7_lost 67 = .ok (.iconst 1, 1) := by decide +kernel
theorem dX7_lost_68 : decode cX7_lost 68 = .ok (.goto 4, 3) := by decide +kernel
theorem dX7_lost_71 : decode cX7_lost 71 = .ok (.iconst 0, 1) := by decide +kernel
theorem dX7_lost_72 : decode cX7_lost 72 = .ok (.istore 6, 2) := by decide +kernel
theorem dX7_lost_74 : decode cX7_lost 74 = .ok (.iload 4, 2) := by decide +kernel
theorem dX7_lost_76 : decode cX7_lost 76 = .ok (.iload 6, 2) := by decide +kernel
theorem dX7_lost_78 : decode cX7_lost 78 = .ok (.ifCond .eq 30, 3) := by decide +kernel
theorem dX7_lost_81 : decode cX7_lost 81 = .ok (.bipush 10, 2) := by decide +kernel
theorem dX7_lost_83 : decode cX7_lost 83 = .ok (.iload_n 1, 1) := by decide +kernel
theorem dX7_lost_84 : decode cX7_lost 84 = .ok (.isub, 1) := by decide +kernel
theorem dX7_lost_85 : decode cX7_lost 85 = .ok (.iload 5, 2) := by decide +kernel
theorem dX7_lost_87 : decode cX7_lost 87 = .ok (.invokestatic 318, 3) := by decide +kernel
theorem dX7_lost_90 : decode cX7_lost 90 = .ok (.invokestatic 330, 3) := by decide +kernel
theorem dX7_lost_93 : decode cX7_lost 93 = .ok (.iload_n 1, 1) := by decide +kernel
theorem dX7_lost_94 : decode cX7_lost 94 = .ok (.iload_n 3, 1) := by decide +kernel
theorem dX7_lost_95 : decode cX7_lost 95 = .ok (.iload 5, 2) := by decide +kernel
theorem dX7_lost_97 : decode cX7_lost 97 = .ok (.invokestatic 318, 3) := by decide +kernel
theorem dX7_lost_100 : decode cX7_lost 100 = .ok (.isub, 1) := by decide +kernel
theorem dX7_lost_101 : decode cX7_lost 101 = .ok (.invokestatic 330, 3) := by decide +kernel
theorem dX7_lost_104 : decode cX7_lost 104 = .ok (.imul, 1) := by decide +kernel
theorem dX7_lost_105 : decode cX7_lost 105 = .ok (.goto 4, 3) := by decide +kernel
theorem dX7_lost_108 : decode cX7_lost 108 = .ok (.iconst 0, 1) := by decide +kernel
theorem dX7_lost_109 : decode cX7_lost 109 = .ok (.iadd, 1) := by decide +kernel
theorem dX7_lost_110 : decode cX7_lost 110 = .ok (.istore 4, 2) := by decide +kernel
theorem dX7_lost_112 : decode cX7_lost 112 = .ok (.iinc 5 1, 3) := by decide +kernel
theorem dX7_lost_115 : decode cX7_lost 115 = .ok (.goto (-82), 3) := by decide +kernel
theorem dX7_lost_118 : decode cX7_lost 118 = .ok (.iload 4, 2) := by decide +kernel
theorem dX7_lost_120 : decode cX7_lost 120 = .ok (.bipush 10, 2) := by decide +kernel
theorem dX7_lost_122 : decode cX7_lost 122 = .ok (.iload_n 3, 1) := by decide +kernel
theorem dX7_lost_123 : decode cX7_lost 123 = .ok (.invokestatic 330, 3) := by decide +kernel
theorem dX7_lost_126 : decode cX7_lost 126 = .ok (.iload_n 2, 1) := by decide +kernel
theorem dX7_lost_127 : decode cX7_lost 127 = .ok (.invokestatic 324, 3) := by decide +kernel
theorem dX7_lost_130 : decode cX7_lost 130 = .ok (.ireturn, 1) := by decide +kernel
theorem dX7_seed_0 : decode cX7_seed 0 = .ok (.aload_n 0, 1) := by decide +kernel
theorem dX7_seed_1 : decode cX7_seed 1 = .ok (.iconst 0, 1) := by decide +kernel
theorem dX7_seed_2 : decode cX7_seed 2 = .ok (.putfield 68, 3) := by decide +kernel
theorem dX7_seed_5 : decode cX7_seed 5 = .ok (.aload_n 0, 1) := by decide +kernel
theorem dX7_seed_6 : decode cX7_seed 6 = .ok (.getfield 333, 3) := by decide +kernel
theorem dX7_seed_9 : decode cX7_seed 9 = .ok (.lstore_n 3, 1) := by decide +kernel
theorem dX7_seed_10 : decode cX7_seed 10 = .ok (.aload_n 0, 1) := by decide +kernel
theorem dX7_seed_11 : decode cX7_seed 11 = .ok (.lload_n 1, 1) := by decide +kernel
theorem dX7_seed_12 : decode cX7_seed 12 = .ok (.putfield 333, 3) := by decide +kernel
theorem dX7_seed_15 : decode cX7_seed 15 = .ok (.lload_n 3, 1) := by decide +kernel
theorem dX7_seed_16 : decode cX7_seed 16 = .ok (.lreturn, 1) := by decide +kernel
set_option maxRecDepth 20000 in
theorem ggX7_drawn_X7_in : GoodIn wsX7_drawn wsX7_in := goodIn_r _ [11] (by decide +kernel) (by decide +kernel)
set_option maxRecDepth 20000 in
theorem gX7_drawn_X7_in : GoodIn wsX7_drawn (va_wsS RX7 72 yX7_in wsX7_in) := goodIn_app (goodIn_of _ (by decide +kernel)) ggX7_drawn_X7_in
set_option maxRecDepth 20000 in
theorem ggX7_drawn_X7_lay : GoodIn wsX7_drawn wsX7_lay := goodIn_r _ [14] (by decide +kernel) (by decide +kernel)
set_option maxRecDepth 20000 in
theorem gX7_drawn_X7_lay : GoodIn wsX7_drawn (va_wsS RX7 127 yX7_lay wsX7_lay) := goodIn_app (goodIn_of _ (by decide +kernel)) ggX7_drawn_X7_lay
set_option maxRecDepth 20000 in
theorem ggX7_drawn_X7_moveOn : GoodIn wsX7_drawn wsX7_moveOn := goodIn_r _ [18, 19, 20, 21, 22, 23, 10, 24, 25, 26, 27, 28, 29, 30, 8, 9, 11, 12, 13, 14, 31, 32, 33, 100, 101, 102, 103, 104, 105, 106, 107, 108, 109, 110, 111, 112, 113, 114, 115, 116, 117, 118, 119, 120, 121, 122, 123, 124, 125, 126, 127] (by decide +kernel) (by decide +kernel)
set_option maxRecDepth 20000 in
theorem gX7_drawn_X7_moveOn : GoodIn wsX7_drawn (wsV RX7 281 RX7 yX7_moveOn wsX7_moveOn) := goodIn_app (goodIn_of _ (by decide +kernel)) ggX7_drawn_X7_moveOn
set_option maxRecDepth 20000 in
theorem ggX7_drawn_X7_findAll : GoodIn wsX7_drawn wsX7_findAll := goodIn_r _ [37, 38, 39, 10, 40, 41, 42, 43, 44, 45, 46, 47, 48, 49, 50, 51, 52, 53, 54, 55, 56, 57, 58, 59, 60, 28, 29, 30, 8, 9, 11, 61, 62, 63, 25, 26, 27, 64, 65, 66, 67, 68, 69, 70, 71, 72, 73, 74, 75, 76, 77, 78, 79, 80, 81, 82, 83, 84, 85, 86, 87, 88, 89, 90, 91, 92, 93, 94, 95, 100, 101, 102, 103, 104, 105, 106, 107, 108, 109, 110, 111, 112, 113, 114, 115, 116, 117, 118, 119, 120, 121, 122, 123, 124, 125, 126, 127] (by decide +kernel) (by decide +kernel)
set_option maxRecDepth 20000 in
theorem gX7_drawn_X7_findAll : GoodIn wsX7_drawn (wsV RX7 194 RX7 yX7_findAll wsX7_findAll) := goodIn_app (goodIn_of _ (by decide +kernel)) ggX7_drawn_X7_findAll
set_option maxRecDepth 20000 in
theorem ggX7_drawn_X7_manyFound : GoodIn wsX7_drawn wsX7_manyFound := goodIn_r _ [99, 45, 100, 101, 102, 103, 104, 105, 106, 107, 108, 109, 110, 111, 112, 113, 114, 115, 116, 117, 118, 119, 120, 121, 122, 123, 124, 125, 126, 127] (by decide +kernel) (by decide +kernel)
set_option maxRecDepth 20000 in
theorem gX7_drawn_X7_manyFound : GoodIn wsX7_drawn (wsV RX7 201 RX7 yX7_manyFound wsX7_manyFound) := goodIn_app (goodIn_of _ (by decide +kernel)) ggX7_drawn_X7_manyFound
theorem dX7_drawn_0 : decode cX7_drawn 0 = .ok (.aload_n 0, 1) := by decide +kernel
theorem dX7_drawn_1 : decode cX7_drawn 1 = .ok (.iconst 0, 1) := by decide +kernel
theorem dX7_drawn_2 : decode cX7_drawn 2 = .ok (.putfield 68, 3) := by decide +kernel
theorem dX7_drawn_5 : decode cX7_drawn 5 = .ok (.iload_n 1, 1) := by decide +kernel
theorem dX7_drawn_6 : decode cX7_drawn 6 = .ok (.i2l, 1) := by decide +kernel
theorem dX7_drawn_7 : decode cX7_drawn 7 = .ok (.lconst 1, 1) := by decide +kernel
theorem dX7_drawn_8 : decode cX7_drawn 8 = .ok (.ldc2_w 337, 3) := by decide +kernel
theorem dX7_drawn_11 : decode cX7_drawn 11 = .ok (.invokestatic 72, 3) := by decide +kernel
theorem dX7_drawn_14 : decode cX7_drawn 14 = .ok (.ifCond .ne 6, 3) := by decide +kernel
theorem dX7_drawn_17 : decode cX7_drawn 17 = .ok (.bipush (-2), 2) := by decide +kernel
theorem dX7_drawn_19 : decode cX7_drawn 19 = .ok (.ireturn, 1) := by decide +kernel
theorem dX7_drawn_20 : decode cX7_drawn 20 = .ok (.aload_n 0, 1) := by decide +kernel
theorem dX7_drawn_21 : decode cX7_drawn 21 = .ok (.getfield 19, 3) := by decide +kernel
theorem dX7_drawn_24 : decode cX7_drawn 24 = .ok (.aload_n 0, 1) := by decide +kernel
theorem dX7_drawn_25 : decode cX7_drawn 25 = .ok (.getfield 16, 3) := by decide +kernel
theorem dX7_drawn_28 : decode cX7_drawn 28 = .ok (.invokestatic 127, 3) := by decide +kernel
theorem dX7_drawn_31 : decode cX7_drawn 31 = .ok (.aload_n 0, 1) := by decide +kernel
theorem dX7_drawn_32 : decode cX7_drawn 32 = .ok (.getfield 16, 3) := by decide +kernel
theorem dX7_drawn_35 : decode cX7_drawn 35 = .ok (.iconst 0, 1) := by decide +kernel
theorem dX7_drawn_36 : decode cX7_drawn 36 = .ok (.iaload, 1) := by decide +kernel
theorem dX7_drawn_37 : decode cX7_drawn 37 = .ok (.istore_n 2, 1) := by decide +kernel
theorem dX7_drawn_38 : decode cX7_drawn 38 = .ok (.iconst 0, 1) := by decide +kernel
theorem dX7_drawn_39 : decode cX7_drawn 39 = .ok (.istore_n 3, 1) := by decide +kernel
theorem dX7_drawn_40 : decode cX7_drawn 40 = .ok (.iconst 0, 1) := by decide +kernel
theorem dX7_drawn_41 : decode cX7_drawn 41 = .ok (.istore 4, 2) := by decide +kernel
theorem dX7_drawn_43 : decode cX7_drawn 43 = .ok (.iload 4, 2) := by decide +kernel
theorem dX7_drawn_45 : decode cX7_drawn 45 = .ok (.iload_n 1, 1) := by decide +kernel
theorem dX7_drawn_46 : decode cX7_drawn 46 = .ok (.if_icmp .ge 81, 3) := by decide +kernel
theorem dX7_drawn_49 : decode cX7_drawn 49 = .ok (.aload_n 0, 1) := by decide +kernel
theorem dX7_drawn_50 : decode cX7_drawn 50 = .ok (.aload_n 0, 1) := by decide +kernel
theorem dX7_drawn_51 : decode cX7_drawn 51 = .ok (.getfield 333, 3) := by decide +kernel
theorem dX7_drawn_54 : decode cX7_drawn 54 = .ok (.ldc2_w 339, 3) := by decide +kernel
theorem dX7_drawn_57 : decode cX7_drawn 57 = .ok (.lmul, 1) := by decide +kernel
theorem dX7_drawn_58 : decode cX7_drawn 58 = .ok (.ldc2_w 341, 3) := by decide +kernel
theorem dX7_drawn_61 : decode cX7_drawn 61 = .ok (.ladd, 1) := by decide +kernel
theorem dX7_drawn_62 : decode cX7_drawn 62 = .ok (.putfield 333, 3) := by decide +kernel
theorem dX7_drawn_65 : decode cX7_drawn 65 = .ok (.aload_n 0, 1) := by decide +kernel
theorem dX7_drawn_66 : decode cX7_drawn 66 = .ok (.getfield 333, 3) := by decide +kernel
theorem dX7_drawn_69 : decode cX7_drawn 69 = .ok (.bipush 33, 2) := by decide +kernel
theorem dX7_drawn_71 : decode cX7_drawn 71 = .ok (.lushr, 1) := by decide +kernel
theorem dX7_drawn_72 : decode cX7_drawn 72 = .ok (.l2i, 1) := by decide +kernel
theorem dX7_drawn_73 : decode cX7_drawn 73 = .ok (.istore 5, 2) := by decide +kernel
theorem dX7_drawn_75 : decode cX7_drawn 75 = .ok (.iload_n 2, 1) := by decide +kernel
theorem dX7_drawn_76 : decode cX7_drawn 76 = .ok (.ifCond .le 30, 3) := by decide +kernel
theorem dX7_drawn_79 : decode cX7_drawn 79 = .ok (.aload_n 0, 1) := by decide +kernel
theorem dX7_drawn_80 : decode cX7_drawn 80 = .ok (.aload_n 0, 1) := by decide +kernel
theorem dX7_drawn_81 : decode cX7_drawn 81 = .ok (.getfield 19, 3) := by decide +kernel
theorem dX7_drawn_84 : decode cX7_drawn 84 = .ok (.iload 5, 2) := by decide +kernel
theorem dX7_drawn_86 : decode cX7_drawn 86 = .ok (.iload_n 2, 1) := by decide +kernel
theorem dX7_drawn_87 : decode cX7_drawn 87 = .ok (.irem, 1) := by decide +kernel
theorem dX7_drawn_88 : decode cX7_drawn 88 = .ok (.iload 5, 2) := by decide +kernel
theorem dX7_drawn_90 : decode cX7_drawn 90 = .ok (.bipush 16, 2) := by decide +kernel
theorem dX7_drawn_92 : decode cX7_drawn 92 = .ok (.idiv, 1) := by decide +kernel
theorem dX7_drawn_93 : decode cX7_drawn 93 = .ok (.iload_n 2, 1) := by decide +kernel
theorem dX7_drawn_94 : decode cX7_drawn 94 = .ok (.irem, 1) := by decide +kernel
theorem dX7_drawn_95 : decode cX7_drawn 95 = .ok (.iload 5, 2) := by decide +kernel
theorem dX7_drawn_97 : decode cX7_drawn 97 = .ok (.sipush 256, 3) := by decide +kernel
theorem dX7_drawn_100 : decode cX7_drawn 100 = .ok (.idiv, 1) := by decide +kernel
theorem dX7_drawn_101 : decode cX7_drawn 101 = .ok (.iconst 2, 1) := by decide +kernel
theorem dX7_drawn_102 : decode cX7_drawn 102 = .ok (.irem, 1) := by decide +kernel
theorem dX7_drawn_103 : decode cX7_drawn 103 = .ok (.invokevirtual 281, 3) := by decide +kernel
theorem dX7_drawn_106 : decode cX7_drawn 106 = .ok (.aload_n 0, 1) := by decide +kernel
theorem dX7_drawn_107 : decode cX7_drawn 107 = .ok (.aload_n 0, 1) := by decide +kernel
theorem dX7_drawn_108 : decode cX7_drawn 108 = .ok (.getfield 19, 3) := by decide +kernel
theorem dX7_drawn_111 : decode cX7_drawn 111 = .ok (.invokevirtual 194, 3) := by decide +kernel
theorem dX7_drawn_114 : decode cX7_drawn 114 = .ok (.iload_n 3, 1) := by decide +kernel
theorem dX7_drawn_115 : decode cX7_drawn 115 = .ok (.aload_n 0, 1) := by decide +kernel
theorem dX7_drawn_116 : decode cX7_drawn 116 = .ok (.invokevirtual 201, 3) := by decide +kernel
theorem dX7_drawn_119 : decode cX7_drawn 119 = .ok (.iadd, 1) := by decide +kernel
theorem dX7_drawn_120 : decode cX7_drawn 120 = .ok (.istore_n 3, 1) := by decide +kernel
theorem dX7_drawn_121 : decode cX7_drawn 121 = .ok (.iinc 4 1, 3) := by decide +kernel
theorem dX7_drawn_124 : decode cX7_drawn 124 = .ok (.goto (-81), 3) := by decide +kernel
theorem dX7_drawn_127 : decode cX7_drawn 127 = .ok (.iload_n 3, 1) := by decide +kernel
theorem dX7_drawn_128 : decode cX7_drawn 128 = .ok (.ireturn, 1) := by decide +kernel
set_option maxRecDepth 20000 in
theorem ggX7_keep_X7_in : GoodIn wsX7_keep wsX7_in := goodIn_r _ [8] (by decide +kernel) (by decide +kernel)
set_option maxRecDepth 20000 in
theorem gX7_keep_X7_in : GoodIn wsX7_keep (va_wsS RX7 72 yX7_in wsX7_in) := goodIn_app (goodIn_of _ (by decide +kernel)) ggX7_keep_X7_in
theorem dX7_keep_0 : decode cX7_keep 0 = .ok (.aload_n 0, 1) := by decide +kernel
theorem dX7_keep_1 : decode cX7_keep 1 = .ok (.iconst 0, 1) := by decide +kernel
theorem dX7_keep_2 : decode cX7_keep 2 = .ok (.putfield 68, 3) := by decide +kernel
theorem dX7_keep_5 : decode cX7_keep 5 = .ok (.iload_n 1, 1) := by decide +kernel
theorem dX7_keep_6 : decode cX7_keep 6 = .ok (.i2l, 1) := by decide +kernel
theorem dX7_keep_7 : decode cX7_keep 7 = .ok (.lconst 0, 1) := by decide +kernel
theorem dX7_keep_8 : decode cX7_keep 8 = .ok (.lconst 1, 1) := by decide +kernel
theorem dX7_keep_9 : decode cX7_keep 9 = .ok (.invokestatic 72, 3) := by decide +kernel
theorem dX7_keep_12 : decode cX7_keep 12 = .ok (.ifCond .ne 5, 3) := by decide +kernel
theorem dX7_keep_15 : decode cX7_keep 15 = .ok (.iconst (-1), 1) := by decide +kernel
theorem dX7_keep_16 : decode cX7_keep 16 = .ok (.ireturn, 1) := by decide +kernel
theorem dX7_keep_17 : decode cX7_keep 17 = .ok (.aload_n 0, 1) := by decide +kernel
theorem dX7_keep_18 : decode cX7_keep 18 = .ok (.getfield 31, 3) := by decide +kernel
theorem dX7_keep_21 : decode cX7_keep 21 = .ok (.iload_n 1, 1) := by decide +kernel
theorem dX7_keep_22 : decode cX7_keep 22 = .ok (.iconst 1, 1) := by decide +kernel
theorem dX7_keep_23 : decode cX7_keep 23 = .ok (.bastore, 1) := by decide +kernel
theorem dX7_keep_24 : decode cX7_keep 24 = .ok (.iconst 0, 1) := by decide +kernel
theorem dX7_keep_25 : decode cX7_keep 25 = .ok (.istore_n 2, 1) := by decide +kernel
theorem dX7_keep_26 : decode cX7_keep 26 = .ok (.iload_n 2, 1) := by decide +kernel
theorem dX7_keep_27 : decode cX7_keep 27 = .ok (.sipush 265, 3) := by decide +kernel
theorem dX7_keep_30 : decode cX7_keep 30 = .ok (.if_icmp .ge 27, 3) := by decide +kernel
theorem dX7_keep_33 : decode cX7_keep 33 = .ok (.aload_n 0, 1) := by decide +kernel
theorem dX7_keep_34 : decode cX7_keep 34 = .ok (.getfield 28, 3) := by decide +kernel
theorem dX7_keep_37 : decode cX7_keep 37 = .ok (.sipush 265, 3) := by decide +kernel
theorem dX7_keep_40 : decode cX7_keep 40 = .ok (.iload_n 1, 1) := by decide +kernel
theorem dX7_keep_41 : decode cX7_keep 41 = .ok (.imul, 1) := by decide +kernel
theorem dX7_keep_42 : decode cX7_keep 42 = .ok (.iload_n 2, 1) := by decide +kernel
theorem dX7_keep_43 : decode cX7_keep 43 = .ok (.iadd, 1) := by decide +kernel
theorem dX7_keep_44 : decode cX7_keep 44 = .ok (.aload_n 0, 1) := by decide +kernel
theorem dX7_keep_45 : decode cX7_keep 45 = .ok (.getfield 16, 3) := by decide +kernel
theorem dX7_keep_48 : decode cX7_keep 48 = .ok (.iload_n 2, 1) := by decide +kernel
theorem dX7_keep_49 : decode cX7_keep 49 = .ok (.iaload, 1) := by decide +kernel
theorem dX7_keep_50 : decode cX7_keep 50 = .ok (.iastore, 1) := by decide +kernel
theorem dX7_keep_51 : decode cX7_keep 51 = .ok (.iinc 2 1, 3) := by decide +kernel
theorem dX7_keep_54 : decode cX7_keep 54 = .ok (.goto (-28), 3) := by decide +kernel
theorem dX7_keep_57 : decode cX7_keep 57 = .ok (.aload_n 0, 1) := by decide +kernel
theorem dX7_keep_58 : decode cX7_keep 58 = .ok (.getfield 16, 3) := by decide +kernel
theorem dX7_keep_61 : decode cX7_keep 61 = .ok (.iconst 0, 1) := by decide +kernel
theorem dX7_keep_62 : decode cX7_keep 62 = .ok (.iaload, 1) := by decide +kernel
theorem dX7_keep_63 : decode cX7_keep 63 = .ok (.ireturn, 1) := by decide +kernel
set_option maxRecDepth 20000 in
theorem ggX7_again_X7_in : GoodIn wsX7_again wsX7_in := goodIn_r _ [9] (by decide +kernel) (by decide +kernel)
set_option maxRecDepth 20000 in
theorem gX7_again_X7_in : GoodIn wsX7_again (va_wsS RX7 72 yX7_in wsX7_in) := goodIn_app (goodIn_of _ (by decide +kernel)) ggX7_again_X7_in
theorem dX7_again_0 : decode cX7_again 0 = .ok (.aload_n 0, 1) := by decide +kernel
theorem dX7_again_1 : decode cX7_again 1 = .ok (.iconst 0, 1) := by decide +kernel
theorem dX7_again_2 : decode cX7_again 2 = .ok (.putfield 68, 3) := by decide +kernel
theorem dX7_again_5 : decode cX7_again 5 = .ok (.iload_n 1, 1) := by decide +kernel
theorem dX7_again_6 : decode cX7_again 6 = .ok (.i2l, 1) := by decide +kernel
theorem dX7_again_7 : decode cX7_again 7 = .ok (.lconst 0, 1) := by decide +kernel
theorem dX7_again_8 : decode cX7_again 8 = .ok (.lconst 1, 1) := by decide +kernel
theorem dX7_again_9 : decode cX7_again 9 = .ok (.invokestatic 72, 3) := by decide +kernel
theorem dX7_again_12 : decode cX7_again 12 = .ok (.ifCond .ne 5, 3) := by decide +kernel
theorem dX7_again_15 : decode cX7_again 15 = .ok (.iconst (-1), 1) := by decide +kernel
theorem dX7_again_16 : decode cX7_again 16 = .ok (.ireturn, 1) := by decide +kernel
theorem dX7_again_17 : decode cX7_again 17 = .ok (.aload_n 0, 1) := by decide +kernel
theorem dX7_again_18 : decode cX7_again 18 = .ok (.getfield 31, 3) := by decide +kernel
theorem dX7_again_21 : decode cX7_again 21 = .ok (.iload_n 1, 1) := by decide +kernel
theorem dX7_again_22 : decode cX7_again 22 = .ok (.baload, 1) := by decide +kernel
theorem dX7_again_23 : decode cX7_again 23 = .ok (.ifCond .ne 6, 3) := by decide +kernel
theorem dX7_again_26 : decode cX7_again 26 = .ok (.bipush (-3), 2) := by decide +kernel
theorem dX7_again_28 : decode cX7_again 28 = .ok (.ireturn, 1) := by decide +kernel
theorem dX7_again_29 : decode cX7_again 29 = .ok (.iconst 0, 1) := by decide +kernel
theorem dX7_again_30 : decode cX7_again 30 = .ok (.istore_n 2, 1) := by decide +kernel
theorem dX7_again_31 : decode cX7_again 31 = .ok (.iload_n 2, 1) := by decide +kernel
theorem dX7_again_32 : decode cX7_again 32 = .ok (.sipush 265, 3) := by decide +kernel
theorem dX7_again_35 : decode cX7_again 35 = .ok (.if_icmp .ge 27, 3) := by decide +kernel
theorem dX7_again_38 : decode cX7_again 38 = .ok (.aload_n 0, 1) := by decide +kernel
theorem dX7_again_39 : decode cX7_again 39 = .ok (.getfield 16, 3) := by decide +kernel
theorem dX7_again_42 : decode cX7_again 42 = .ok (.iload_n 2, 1) := by decide +kernel
theorem dX7_again_43 : decode cX7_again 43 = .ok (.aload_n 0, 1) := by decide +kernel
theorem dX7_again_44 : decode cX7_again 44 = .ok (.getfield 28, 3) := by decide +kernel
theorem dX7_again_47 : decode cX7_again 47 = .ok (.sipush 265, 3) := by decide +kernel
theorem dX7_again_50 : decode cX7_again 50 = .ok (.iload_n 1, 1) := by decide +kernel
theorem dX7_again_51 : decode cX7_again 51 = .ok (.imul, 1) := by decide +kernel
theorem dX7_again_52 : decode cX7_again 52 = .ok (.iload_n 2, 1) := by decide +kernel
theorem dX7_again_53 : decode cX7_again 53 = .ok (.iadd, 1) := by decide +kernel
theorem dX7_again_54 : decode cX7_again 54 = .ok (.iaload, 1) := by decide +kernel
theorem dX7_again_55 : decode cX7_again 55 = .ok (.iastore, 1) := by decide +kernel
theorem dX7_again_56 : decode cX7_again 56 = .ok (.iinc 2 1, 3) := by decide +kernel
theorem dX7_again_59 : decode cX7_again 59 = .ok (.goto (-28), 3) := by decide +kernel
theorem dX7_again_62 : decode cX7_again 62 = .ok (.aload_n 0, 1) := by decide +kernel
theorem dX7_again_63 : decode cX7_again 63 = .ok (.iconst 0, 1) := by decide +kernel
theorem dX7_again_64 : decode cX7_again 64 = .ok (.putfield 131, 3) := by decide +kernel
theorem dX7_again_67 : decode cX7_again 67 = .ok (.aload_n 0, 1) := by decide +kernel
theorem dX7_again_68 : decode cX7_again 68 = .ok (.getfield 16, 3) := by decide +kernel
theorem dX7_again_71 : decode cX7_again 71 = .ok (.iconst 0, 1) := by decide +kernel
theorem dX7_again_72 : decode cX7_again 72 = .ok (.iaload, 1) := by decide +kernel
theorem dX7_again_73 : decode cX7_again 73 = .ok (.ireturn, 1) := by decide +kernel
set_option maxRecDepth 20000 in
theorem ggX7_manyClash_X7_findAll : GoodIn wsX7_manyClash wsX7_findAll := goodIn_r _ [7, 8, 9, 6, 10, 11, 12, 13, 14, 15, 16, 17, 18, 19, 20, 21, 22, 2, 23, 24, 25, 26, 27, 28, 29, 30, 31, 32, 33, 34, 35, 36, 37, 38, 39, 40, 41, 42, 43, 44, 45, 46, 47, 48, 49, 50, 51, 52, 53, 54, 55, 56, 57, 58, 59, 60, 61, 62, 63, 64, 65, 66, 67, 68, 69, 70, 71, 72, 73, 78, 79, 80, 81, 82, 83, 84, 85, 86, 87, 88, 89, 90, 91, 92, 93, 94, 95, 96, 97, 98, 99, 100, 101, 102, 103, 104, 105] (by decide +kernel) (by decide +kernel)
set_option maxRecDepth 20000 in
theorem gX7_manyClash_X7_findAll : GoodIn wsX7_manyClash (wsV RX7 194 RX7 yX7_findAll wsX7_findAll) := goodIn_app (goodIn_of _ (by decide +kernel)) ggX7_manyClash_X7_findAll
set_option maxRecDepth 20000 in
theorem ggX7_manyClash_X7_clashes : GoodIn wsX7_manyClash wsX7_clashes := goodIn_r _ [77, 1, 15, 23, 8, 9, 6, 10, 24, 25, 26, 27, 28, 29, 30, 31, 32, 33, 34, 35, 36, 37, 38, 39, 40, 41, 78, 79, 80, 81, 82, 83, 84, 85, 86, 87, 88, 89, 90, 91, 92, 93, 94, 95, 96, 97, 98, 99, 100, 101, 102, 103, 104, 105] (by decide +kernel) (by decide +kernel)
set_option maxRecDepth 20000 in
theorem gX7_manyClash_X7_clashes : GoodIn wsX7_manyClash (wsV RX7 216 RX7 yX7_clashes wsX7_clashes) := goodIn_app (goodIn_of _ (by decide +kernel)) ggX7_manyClash_X7_clashes
theorem dX7_manyClash_0 : decode cX7_manyClash 0 = .ok (.aload_n 0, 1) := by decide +kernel
theorem dX7_manyClash_1 : decode cX7_manyClash 1 = .ok (.aload_n 0, 1) := by decide +kernel
theorem dX7_manyClash_2 : decode cX7_manyClash 2 = .ok (.getfield 16, 3) := by decide +kernel
theorem dX7_manyClash_5 : decode cX7_manyClash 5 = .ok (.invokevirtual 194, 3) := by decide +kernel
theorem dX7_manyClash_8 : decode cX7_manyClash 8 = .ok (.iconst 0, 1) := by decide +kernel
theorem dX7_manyClash_9 : decode cX7_manyClash 9 = .ok (.istore_n 1, 1) := by decide +kernel
theorem dX7_manyClash_10 : decode cX7_manyClash 10 = .ok (.iconst 0, 1) := by decide +kernel
theorem dX7_manyClash_11 : decode cX7_manyClash 11 = .ok (.istore_n 2, 1) := by decide +kernel
theorem dX7_manyClash_12 : decode cX7_manyClash 12 = .ok (.iload_n 2, 1) := by decide +kernel
theorem dX7_manyClash_13 : decode cX7_manyClash 13 = .ok (.aload_n 0, 1) := by decide +kernel
theorem dX7_manyClash_14 : decode cX7_manyClash 14 = .ok (.getfield 152, 3) := by decide +kernel
theorem dX7_manyClash_17 : decode cX7_manyClash 17 = .ok (.if_icmp .ge 25, 3) := by decide +kernel
theorem dX7_manyClash_20 : decode cX7_manyClash 20 = .ok (.iload_n 1, 1) := by decide +kernel
theorem dX7_manyClash_21 : decode cX7_manyClash 21 = .ok (.aload_n 0, 1) := by decide +kernel
theorem dX7_manyClash_22 : decode cX7_manyClash 22 = .ok (.iload_n 2, 1) := by decide +kernel
theorem dX7_manyClash_23 : decode cX7_manyClash 23 = .ok (.invokevirtual 216, 3) := by decide +kernel
theorem dX7_manyClash_26 : decode cX7_manyClash 26 = .ok (.ifCond .eq 7, 3) := by decide +kernel
theorem dX7_manyClash_29 : decode cX7_manyClash 29 = .ok (.iconst 1, 1) := by decide +kernel
theorem dX7_manyClash_30 : decode cX7_manyClash 30 = .ok (.goto 4, 3) := by decide +kernel
theorem dX7_manyClash_33 : decode cX7_manyClash 33 = .ok (.iconst 0, 1) := by decide +kernel
theorem dX7_manyClash_34 : decode cX7_manyClash 34 = .ok (.iadd, 1) := by decide +kernel
theorem dX7_manyClash_35 : decode cX7_manyClash 35 = .ok (.istore_n 1, 1) := by decide +kernel
theorem dX7_manyClash_36 : decode cX7_manyClash 36 = .ok (.iinc 2 1, 3) := by decide +kernel
theorem dX7_manyClash_39 : decode cX7_manyClash 39 = .ok (.goto (-27), 3) := by decide +kernel
theorem dX7_manyClash_42 : decode cX7_manyClash 42 = .ok (.iload_n 1, 1) := by decide +kernel
theorem dX7_manyClash_43 : decode cX7_manyClash 43 = .ok (.ireturn, 1) := by decide +kernel
set_option maxRecDepth 20000 in
theorem ggX7_count_X7_findAll : GoodIn wsX7_count wsX7_findAll := goodIn_r _ [11, 12, 13, 10, 14, 15, 16, 17, 18, 19, 20, 21, 22, 23, 24, 25, 26, 4, 27, 28, 29, 30, 31, 32, 33, 34, 35, 36, 37, 38, 39, 40, 41, 42, 43, 44, 45, 46, 47, 48, 49, 50, 51, 52, 53, 54, 55, 56, 57, 58, 59, 60, 61, 62, 63, 64, 65, 66, 67, 68, 69, 70, 71, 72, 73, 74, 75, 76, 77, 97, 98, 99, 100, 101, 102, 103, 104, 105, 106, 107, 108, 109, 110, 111, 112, 113, 114, 115, 116, 117, 118, 119, 120, 121, 122, 123, 124] (by decide +kernel) (by decide +kernel)
set_option maxRecDepth 20000 in
theorem gX7_count_X7_findAll : GoodIn wsX7_count (wsV RX7 194 RX7 yX7_findAll wsX7_findAll) := goodIn_app (goodIn_of _ (by decide +kernel)) ggX7_count_X7_findAll
set_option maxRecDepth 20000 in
theorem ggX7_count_X7_allNotes : GoodIn wsX7_count wsX7_allNotes := goodIn_r _ [14] (by decide +kernel) (by decide +kernel)
set_option maxRecDepth 20000 in
theorem gX7_count_X7_allNotes : GoodIn wsX7_count (va_wsS RX7 187 yX7_allNotes wsX7_allNotes) := goodIn_app (goodIn_of _ (by decide +kernel)) ggX7_count_X7_allNotes
set_option maxRecDepth 20000 in
theorem ggX7_count_X7_manyRefs : GoodIn wsX7_count wsX7_manyRefs := goodIn_r _ [80, 31, 32, 10, 33, 34, 35, 36, 37, 38, 39, 40, 41, 42] (by decide +kernel) (by decide +kernel)
set_option maxRecDepth 20000 in
theorem gX7_count_X7_manyRefs : GoodIn wsX7_count (va_wsS RX7 198 yX7_manyRefs wsX7_manyRefs) := goodIn_app (goodIn_of _ (by decide +kernel)) ggX7_count_X7_manyRefs
set_option maxRecDepth 20000 in
theorem ggX7_count_X7_dead : GoodIn wsX7_count wsX7_dead := goodIn_r _ [84, 7, 8, 9, 10, 11, 12, 13, 14, 15, 16, 17, 18, 19, 20, 21, 22, 23, 24, 25, 26, 4, 27, 28, 29, 30, 31, 32, 33, 34, 35, 36, 37, 38, 39, 40, 41, 42, 43, 44, 45, 46, 47, 48, 49, 50, 51, 52, 53, 54, 55, 56, 57, 58, 59, 60, 61, 62, 63, 64, 65, 66, 67, 68, 69, 70, 71, 72, 73, 74, 75, 76, 77, 78, 79, 80, 85, 86, 87, 88, 97, 98, 99, 100, 101, 102, 103, 104, 105, 106, 107, 108, 109, 110, 111, 112, 113, 114, 115, 116, 117, 118, 119, 120, 121, 122, 123, 124] (by decide +kernel) (by decide +kernel)
set_option maxRecDepth 20000 in
theorem gX7_count_X7_dead : GoodIn wsX7_count (wsV RX7 285 RX7 yX7_dead wsX7_dead) := goodIn_app (goodIn_of _ (by decide +kernel)) ggX7_count_X7_dead
set_option maxRecDepth 20000 in
theorem ggX7_count_X7_manyClash : GoodIn wsX7_count wsX7_manyClash := goodIn_r _ [92, 2, 4, 7, 8, 9, 10, 11, 12, 13, 14, 15, 16, 17, 18, 19, 20, 21, 22, 23, 24, 25, 26, 27, 28, 29, 30, 31, 32, 33, 34, 35, 36, 37, 38, 39, 40, 41, 42, 43, 44, 45, 46, 47, 48, 49, 50, 51, 52, 53, 54, 55, 56, 57, 58, 59, 60, 61, 62, 63, 64, 65, 66, 67, 68, 69, 70, 71, 72, 73, 74, 75, 76, 77, 93, 94, 95, 96, 97, 98, 99, 100, 101, 102, 103, 104, 105, 106, 107, 108, 109, 110, 111, 112, 113, 114, 115, 116, 117, 118, 119, 120, 121, 122, 123, 124] (by decide +kernel) (by decide +kernel)
set_option maxRecDepth 20000 in
theorem gX7_count_X7_manyClash : GoodIn wsX7_count (wsV RX7 343 RX7 yX7_manyClash wsX7_manyClash) := goodIn_app (goodIn_of _ (by decide +kernel)) ggX7_count_X7_manyClash
theorem dX7_count_0 : decode cX7_count 0 = .ok (.aload_n 0, 1) := by decide +kernel
theorem dX7_count_1 : decode cX7_count 1 = .ok (.iconst 0, 1) := by decide +kernel
theorem dX7_count_2 : decode cX7_count 2 = .ok (.putfield 68, 3) := by decide +kernel
theorem dX7_count_5 : decode cX7_count 5 = .ok (.aload_n 0, 1) := by decide +kernel
theorem dX7_count_6 : decode cX7_count 6 = .ok (.aload_n 0, 1) := by decide +kernel
theorem dX7_count_7 : decode cX7_count 7 = .ok (.getfield 16, 3) := by decide +kernel
theorem dX7_count_10 : decode cX7_count 10 = .ok (.invokevirtual 194, 3) := by decide +kernel
theorem dX7_count_13 : decode cX7_count 13 = .ok (.iload_n 1, 1) := by decide +kernel
theorem dX7_count_14 : decode cX7_count 14 = .ok (.tableswitch 102 0 7 #[46, 51, 58, 73, 78, 87, 92, 97], 46) := by decide +kernel
theorem dX7_count_60 : decode cX7_count 60 = .ok (.aload_n 0, 1) := by decide +kernel
theorem dX7_count_61 : decode cX7_count 61 = .ok (.getfield 86, 3) := by decide +kernel
theorem dX7_count_64 : decode cX7_count 64 = .ok (.ireturn, 1) := by decide +kernel
theorem dX7_count_65 : decode cX7_count 65 = .ok (.aload_n 0, 1) := by decide +kernel
theorem dX7_count_66 : decode cX7_count 66 = .ok (.getfield 16, 3) := by decide +kernel
theorem dX7_count_69 : decode cX7_count 69 = .ok (.iconst 0, 1) := by decide +kernel
theorem dX7_count_70 : decode cX7_count 70 = .ok (.iaload, 1) := by decide +kernel
theorem dX7_count_71 : decode cX7_count 71 = .ok (.ireturn, 1) := by decide +kernel
theorem dX7_count_72 : decode cX7_count 72 = .ok (.aload_n 0, 1) := by decide +kernel
theorem dX7_count_73 : decode cX7_count 73 = .ok (.getfield 16, 3) := by decide +kernel
theorem dX7_count_76 : decode cX7_count 76 = .ok (.aload_n 0, 1) := by decide +kernel
theorem dX7_count_77 : decode cX7_count 77 = .ok (.getfield 16, 3) := by decide +kernel
theorem dX7_count_80 : decode cX7_count 80 = .ok (.invokestatic 187, 3) := by decide +kernel
theorem dX7_count_83 : decode cX7_count 83 = .ok (.invokestatic 198, 3) := by decide +kernel
theorem dX7_count_86 : decode cX7_count 86 = .ok (.ireturn, 1) := by decide +kernel
theorem dX7_count_87 : decode cX7_count 87 = .ok (.aload_n 0, 1) := by decide +kernel
theorem dX7_count_88 : decode cX7_count 88 = .ok (.getfield 152, 3) := by decide +kernel
theorem dX7_count_91 : decode cX7_count 91 = .ok (.ireturn, 1) := by decide +kernel
theorem dX7_count_92 : decode cX7_count 92 = .ok (.aload_n 0, 1) := by decide +kernel
theorem dX7_count_93 : decode cX7_count 93 = .ok (.aload_n 0, 1) := by decide +kernel
theorem dX7_count_94 : decode cX7_count 94 = .ok (.getfield 16, 3) := by decide +kernel
theorem dX7_count_97 : decode cX7_count 97 = .ok (.invokevirtual 285, 3) := by decide +kernel
theorem dX7_count_100 : decode cX7_count 100 = .ok (.ireturn, 1) := by decide +kernel
theorem dX7_count_101 : decode cX7_count 101 = .ok (.aload_n 0, 1) := by decide +kernel
theorem dX7_count_102 : decode cX7_count 102 = .ok (.invokevirtual 343, 3) := by decide +kernel
theorem dX7_count_105 : decode cX7_count 105 = .ok (.ireturn, 1) := by decide +kernel
theorem dX7_count_106 : decode cX7_count 106 = .ok (.aload_n 0, 1) := by decide +kernel
theorem dX7_count_107 : decode cX7_count 107 = .ok (.getfield 131, 3) := by decide +kernel
theorem dX7_count_110 : decode cX7_count 110 = .ok (.ireturn, 1) := by decide +kernel
theorem dX7_count_111 : decode cX7_count 111 = .ok (.aload_n 0, 1) := by decide +kernel
theorem dX7_count_112 : decode cX7_count 112 = .ok (.getfield 304, 3) := by decide +kernel
theorem dX7_count_115 : decode cX7_count 115 = .ok (.ireturn, 1) := by decide +kernel
theorem dX7_count_116 : decode cX7_count 116 = .ok (.bipush (-2), 2) := by decide +kernel
theorem dX7_count_118 : decode cX7_count 118 = .ok (.ireturn, 1) := by decide +kernel
