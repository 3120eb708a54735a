theorem dX0_makeFull_0 : decode cX0_makeFull 0 = .ok (.lconst 0, 1) := by decide +kernel
theorem dX0_makeFull_1 : decode cX0_makeFull 1 = .ok (.iload_n 0, 1) := by decide +kernel
theorem dX0_makeFull_2 : decode cX0_makeFull 2 = .ok (.i2l, 1) := by decide +kernel
theorem dX0_makeFull_3 : decode cX0_makeFull 3 = .ok (.iconst 2, 1) := by decide +kernel
theorem dX0_makeFull_4 : decode cX0_makeFull 4 = .ok (.lshl, 1) := by decide +kernel
theorem dX0_makeFull_5 : decode cX0_makeFull 5 = .ok (.lor, 1) := by decide +kernel
theorem dX0_makeFull_6 : decode cX0_makeFull 6 = .ok (.iload_n 1, 1) := by decide +kernel
theorem dX0_makeFull_7 : decode cX0_makeFull 7 = .ok (.i2l, 1) := by decide +kernel
theorem dX0_makeFull_8 : decode cX0_makeFull 8 = .ok (.iconst 5, 1) := by decide +kernel
theorem dX0_makeFull_9 : decode cX0_makeFull 9 = .ok (.lshl, 1) := by decide +kernel
theorem dX0_makeFull_10 : decode cX0_makeFull 10 = .ok (.lor, 1) := by decide +kernel
theorem dX0_makeFull_11 : decode cX0_makeFull 11 = .ok (.lstore 4, 2) := by decide +kernel
theorem dX0_makeFull_13 : decode cX0_makeFull 13 = .ok (.lload 4, 2) := by decide +kernel
theorem dX0_makeFull_15 : decode cX0_makeFull 15 = .ok (.iload_n 2, 1) := by decide +kernel
theorem dX0_makeFull_16 : decode cX0_makeFull 16 = .ok (.i2l, 1) := by decide +kernel
theorem dX0_makeFull_17 : decode cX0_makeFull 17 = .ok (.bipush 8, 2) := by decide +kernel
theorem dX0_makeFull_19 : decode cX0_makeFull 19 = .ok (.lshl, 1) := by decide +kernel
theorem dX0_makeFull_20 : decode cX0_makeFull 20 = .ok (.lor, 1) := by decide +kernel
theorem dX0_makeFull_21 : decode cX0_makeFull 21 = .ok (.iload_n 3, 1) := by decide +kernel
theorem dX0_makeFull_22 : decode cX0_makeFull 22 = .ok (.i2l, 1) := by decide +kernel
theorem dX0_makeFull_23 : decode cX0_makeFull 23 = .ok (.bipush 22, 2) := by decide +kernel
theorem dX0_makeFull_25 : decode cX0_makeFull 25 = .ok (.lshl, 1) := by decide +kernel
theorem dX0_makeFull_26 : decode cX0_makeFull 26 = .ok (.lor, 1) := by decide +kernel
theorem dX0_makeFull_27 : decode cX0_makeFull 27 = .ok (.lreturn, 1) := by decide +kernel
theorem dX0_makeShort_0 : decode cX0_makeShort 0 = .ok (.lconst 1, 1) := by decide +kernel
theorem dX0_makeShort_1 : decode cX0_makeShort 1 = .ok (.iload_n 0, 1) := by decide +kernel
theorem dX0_makeShort_2 : decode cX0_makeShort 2 = .ok (.i2l, 1) := by decide +kernel
theorem dX0_makeShort_3 : decode cX0_makeShort 3 = .ok (.iconst 2, 1) := by decide +kernel
theorem dX0_makeShort_4 : decode cX0_makeShort 4 = .ok (.lshl, 1) := by decide +kernel
theorem dX0_makeShort_5 : decode cX0_makeShort 5 = .ok (.lor, 1) := by decide +kernel
theorem dX0_makeShort_6 : decode cX0_makeShort 6 = .ok (.lreturn, 1) := by decide +kernel
theorem dX0_makeSame_0 : decode cX0_makeSame 0 = .ok (.ldc2_w 11, 3) := by decide +kernel
theorem dX0_makeSame_3 : decode cX0_makeSame 3 = .ok (.lreturn, 1) := by decide +kernel
theorem dX0_makeAbove_0 : decode cX0_makeAbove 0 = .ok (.ldc2_w 13, 3) := by decide +kernel
theorem dX0_makeAbove_3 : decode cX0_makeAbove 3 = .ok (.iload_n 1, 1) := by decide +kernel
theorem dX0_makeAbove_4 : decode cX0_makeAbove 4 = .ok (.i2l, 1) := by decide +kernel
theorem dX0_makeAbove_5 : decode cX0_makeAbove 5 = .ok (.iconst 2, 1) := by decide +kernel
theorem dX0_makeAbove_6 : decode cX0_makeAbove 6 = .ok (.lshl, 1) := by decide +kernel
theorem dX0_makeAbove_7 : decode cX0_makeAbove 7 = .ok (.lor, 1) := by decide +kernel
theorem dX0_makeAbove_8 : decode cX0_makeAbove 8 = .ok (.iload_n 0, 1) := by decide +kernel
theorem dX0_makeAbove_9 : decode cX0_makeAbove 9 = .ok (.i2l, 1) := by decide +kernel
theorem dX0_makeAbove_10 : decode cX0_makeAbove 10 = .ok (.bipush 43, 2) := by decide +kernel
theorem dX0_makeAbove_12 : decode cX0_makeAbove 12 = .ok (.lshl, 1) := by decide +kernel
theorem dX0_makeAbove_13 : decode cX0_makeAbove 13 = .ok (.lor, 1) := by decide +kernel
theorem dX0_makeAbove_14 : decode cX0_makeAbove 14 = .ok (.lreturn, 1) := by decide +kernel
theorem dX0_withPin_0 : decode cX0_withPin 0 = .ok (.lload_n 0, 1) := by decide +kernel
theorem dX0_withPin_1 : decode cX0_withPin 1 = .ok (.ldc2_w 15, 3) := by decide +kernel
theorem dX0_withPin_4 : decode cX0_withPin 4 = .ok (.land, 1) := by decide +kernel
theorem dX0_withPin_5 : decode cX0_withPin 5 = .ok (.iload_n 2, 1) := by decide +kernel
theorem dX0_withPin_6 : decode cX0_withPin 6 = .ok (.i2l, 1) := by decide +kernel
theorem dX0_withPin_7 : decode cX0_withPin 7 = .ok (.bipush 36, 2) := by decide +kernel
theorem dX0_withPin_9 : decode cX0_withPin 9 = .ok (.lshl, 1) := by decide +kernel
theorem dX0_withPin_10 : decode cX0_withPin 10 = .ok (.lor, 1) := by decide +kernel
theorem dX0_withPin_11 : decode cX0_withPin 11 = .ok (.lreturn, 1) := by decide +kernel
theorem dX0_withNumber_0 : decode cX0_withNumber 0 = .ok (.lload_n 0, 1) := by decide +kernel
theorem dX0_withNumber_1 : decode cX0_withNumber 1 = .ok (.ldc2_w 17, 3) := by decide +kernel
theorem dX0_withNumber_4 : decode cX0_withNumber 4 = .ok (.land, 1) := by decide +kernel
theorem dX0_withNumber_5 : decode cX0_withNumber 5 = .ok (.iload_n 2, 1) := by decide +kernel
theorem dX0_withNumber_6 : decode cX0_withNumber 6 = .ok (.i2l, 1) := by decide +kernel
theorem dX0_withNumber_7 : decode cX0_withNumber 7 = .ok (.bipush 43, 2) := by decide +kernel
theorem dX0_withNumber_9 : decode cX0_withNumber 9 = .ok (.lshl, 1) := by decide +kernel
theorem dX0_withNumber_10 : decode cX0_withNumber 10 = .ok (.lor, 1) := by decide +kernel
theorem dX0_withNumber_11 : decode cX0_withNumber 11 = .ok (.lreturn, 1) := by decide +kernel
theorem dX0_form_0 : decode cX0_form 0 = .ok (.lload_n 0, 1) := by decide +kernel
theorem dX0_form_1 : decode cX0_form 1 = .ok (.l2i, 1) := by decide +kernel
theorem dX0_form_2 : decode cX0_form 2 = .ok (.iconst 3, 1) := by decide +kernel
theorem dX0_form_3 : decode cX0_form 3 = .ok (.iand, 1) := by decide +kernel
theorem dX0_form_4 : decode cX0_form 4 = .ok (.ireturn, 1) := by decide +kernel
theorem dX0_first_0 : decode cX0_first 0 = .ok (.lload_n 0, 1) := by decide +kernel
theorem dX0_first_1 : decode cX0_first 1 = .ok (.iconst 2, 1) := by decide +kernel
theorem dX0_first_2 : decode cX0_first 2 = .ok (.lshr, 1) := by decide +kernel
theorem dX0_first_3 : decode cX0_first 3 = .ok (.l2i, 1) := by decide +kernel
theorem dX0_first_4 : decode cX0_first 4 = .ok (.bipush 7, 2) := by decide +kernel
theorem dX0_first_6 : decode cX0_first 6 = .ok (.iand, 1) := by decide +kernel
theorem dX0_first_7 : decode cX0_first 7 = .ok (.ireturn, 1) := by decide +kernel
theorem dX0_second_0 : decode cX0_second 0 = .ok (.lload_n 0, 1) := by decide +kernel
theorem dX0_second_1 : decode cX0_second 1 = .ok (.iconst 5, 1) := by decide +kernel
theorem dX0_second_2 : decode cX0_second 2 = .ok (.lshr, 1) := by decide +kernel
theorem dX0_second_3 : decode cX0_second 3 = .ok (.l2i, 1) := by decide +kernel
theorem dX0_second_4 : decode cX0_second 4 = .ok (.bipush 7, 2) := by decide +kernel
theorem dX0_second_6 : decode cX0_second 6 = .ok (.iand, 1) := by decide +kernel
theorem dX0_second_7 : decode cX0_second 7 = .ok (.ireturn, 1) := by decide +kernel
theorem dX0_report_0 : decode cX0_report 0 = .ok (.lload_n 0, 1) := by decide +kernel
theorem dX0_report_1 : decode cX0_report 1 = .ok (.bipush 8, 2) := by decide +kernel
theorem dX0_report_3 : decode cX0_report 3 = .ok (.lshr, 1) := by decide +kernel
theorem dX0_report_4 : decode cX0_report 4 = .ok (.l2i, 1) := by decide +kernel
theorem dX0_report_5 : decode cX0_report 5 = .ok (.sipush 16383, 3) := by decide +kernel
theorem dX0_report_8 : decode cX0_report 8 = .ok (.iand, 1) := by decide +kernel
theorem dX0_report_9 : decode cX0_report 9 = .ok (.ireturn, 1) := by decide +kernel
theorem dX0_other_0 : decode cX0_other 0 = .ok (.lload_n 0, 1) := by decide +kernel
theorem dX0_other_1 : decode cX0_other 1 = .ok (.bipush 22, 2) := by decide +kernel
theorem dX0_other_3 : decode cX0_other 3 = .ok (.lshr, 1) := by decide +kernel
theorem dX0_other_4 : decode cX0_other 4 = .ok (.l2i, 1) := by decide +kernel
theorem dX0_other_5 : decode cX0_other 5 = .ok (.sipush 16383, 3) := by decide +kernel
theorem dX0_other_8 : decode cX0_other 8 = .ok (.iand, 1) := by decide +kernel
theorem dX0_other_9 : decode cX0_other 9 = .ok (.ireturn, 1) := by decide +kernel
theorem dX0_pin_0 : decode cX0_pin 0 = .ok (.lload_n 0, 1) := by decide +kernel
theorem dX0_pin_1 : decode cX0_pin 1 = .ok (.bipush 36, 2) := by decide +kernel
theorem dX0_pin_3 : decode cX0_pin 3 = .ok (.lshr, 1) := by decide +kernel
theorem dX0_pin_4 : decode cX0_pin 4 = .ok (.l2i, 1) := by decide +kernel
theorem dX0_pin_5 : decode cX0_pin 5 = .ok (.bipush 127, 2) := by decide +kernel
theorem dX0_pin_7 : decode cX0_pin 7 = .ok (.iand, 1) := by decide +kernel
theorem dX0_pin_8 : decode cX0_pin 8 = .ok (.ireturn, 1) := by decide +kernel
theorem dX0_number_0 : decode cX0_number 0 = .ok (.lload_n 0, 1) := by decide +kernel
theorem dX0_number_1 : decode cX0_number 1 = .ok (.bipush 43, 2) := by decide +kernel
theorem dX0_number_3 : decode cX0_number 3 = .ok (.lshr, 1) := by decide +kernel
theorem dX0_number_4 : decode cX0_number 4 = .ok (.l2i, 1) := by decide +kernel
theorem dX0_number_5 : decode cX0_number 5 = .ok (.bipush 15, 2) := by decide +kernel
theorem dX0_number_7 : decode cX0_number 7 = .ok (.iand, 1) := by decide +kernel
theorem dX0_number_8 : decode cX0_number 8 = .ok (.ireturn, 1) := by decide +kernel
set_option maxRecDepth 20000 in
theorem ggX0_has_X0_report : GoodIn wsX0_has wsX0_report := goodIn_r _ [4] (by decide +kernel) (by decide +kernel)
set_option maxRecDepth 20000 in
theorem gX0_has_X0_report : GoodIn wsX0_has (va_wsS RX0 19 yX0_report wsX0_report) := goodIn_app (goodIn_of _ (by decide +kernel)) ggX0_has_X0_report
set_option maxRecDepth 20000 in
theorem ggX0_has_X0_other : GoodIn wsX0_has wsX0_other := goodIn_r _ [7] (by decide +kernel) (by decide +kernel)
set_option maxRecDepth 20000 in
theorem gX0_has_X0_other : GoodIn wsX0_has (va_wsS RX0 23 yX0_other wsX0_other) := goodIn_app (goodIn_of _ (by decide +kernel)) ggX0_has_X0_other
theorem dX0_has_0 : decode cX0_has 0 = .ok (.iload_n 2, 1) := by decide +kernel
theorem dX0_has_1 : decode cX0_has 1 = .ok (.ifCond .eq 23, 3) := by decide +kernel
theorem dX0_has_4 : decode cX0_has 4 = .ok (.lload_n 0, 1) := by decide +kernel
theorem dX0_has_5 : decode cX0_has 5 = .ok (.invokestatic 19, 3) := by decide +kernel
theorem dX0_has_8 : decode cX0_has 8 = .ok (.iload_n 2, 1) := by decide +kernel
theorem dX0_has_9 : decode cX0_has 9 = .ok (.if_icmp .eq 11, 3) := by decide +kernel
theorem dX0_has_12 : decode cX0_has 12 = .ok (.lload_n 0, 1) := by decide +kernel
theorem dX0_has_13 : decode cX0_has 13 = .ok (.invokestatic 23, 3) := by decide +kernel
theorem dX0_has_16 : decode cX0_has 16 = .ok (.iload_n 2, 1) := by decide +kernel
theorem dX0_has_17 : decode cX0_has 17 = .ok (.if_icmp .ne 7, 3) := by decide +kernel
theorem dX0_has_20 : decode cX0_has 20 = .ok (.iconst 1, 1) := by decide +kernel
theorem dX0_has_21 : decode cX0_has 21 = .ok (.goto 4, 3) := by decide +kernel
theorem dX0_has_24 : decode cX0_has 24 = .ok (.iconst 0, 1) := by decide +kernel
theorem dX0_has_25 : decode cX0_has 25 = .ok (.ireturn, 1) := by decide +kernel
set_option maxRecDepth 20000 in
theorem ggX0_haveCommonReport_X0_other : GoodIn wsX0_haveCommonReport wsX0_other := goodIn_r _ [4] (by decide +kernel) (by decide +kernel)
set_option maxRecDepth 20000 in
theorem gX0_haveCommonReport_X0_other : GoodIn wsX0_haveCommonReport (va_wsS RX0 23 yX0_other wsX0_other) := goodIn_app (goodIn_of _ (by decide +kernel)) ggX0_haveCommonReport_X0_other
set_option maxRecDepth 20000 in
theorem ggX0_haveCommonReport_X0_report : GoodIn wsX0_haveCommonReport wsX0_report := goodIn_r _ [7] (by decide +kernel) (by decide +kernel)
set_option maxRecDepth 20000 in
theorem gX0_haveCommonReport_X0_report : GoodIn wsX0_haveCommonReport (va_wsS RX0 19 yX0_report wsX0_report) := goodIn_app (goodIn_of _ (by decide +kernel)) ggX0_haveCommonReport_X0_report
theorem dX0_haveCommonReport_0 : decode cX0_haveCommonReport 0 = .ok (.lload_n 0, 1) := by decide +kernel
theorem dX0_haveCommonReport_1 : decode cX0_haveCommonReport 1 = .ok (.invokestatic 23, 3) := by decide +kernel
theorem dX0_haveCommonReport_4 : decode cX0_haveCommonReport 4 = .ok (.istore 4, 2) := by decide +kernel
theorem dX0_haveCommonReport_6 : decode cX0_haveCommonReport 6 = .ok (.lload_n 0, 1) := by decide +kernel
theorem dX0_haveCommonReport_7 : decode cX0_haveCommonReport 7 = .ok (.invokestatic 19, 3) := by decide +kernel
theorem dX0_haveCommonReport_10 : decode cX0_haveCommonReport 10 = .ok (.lload_n 2, 1) := by decide +kernel
theorem dX0_haveCommonReport_11 : decode cX0_haveCommonReport 11 = .ok (.invokestatic 19, 3) := by decide +kernel
theorem dX0_haveCommonReport_14 : decode cX0_haveCommonReport 14 = .ok (.if_icmp .eq 14, 3) := by decide +kernel
theorem dX0_haveCommonReport_17 : decode cX0_haveCommonReport 17 = .ok (.lload_n 0, 1) := by decide +kernel
theorem dX0_haveCommonReport_18 : decode cX0_haveCommonReport 18 = .ok (.invokestatic 19, 3) := by decide +kernel
theorem dX0_haveCommonReport_21 : decode cX0_haveCommonReport 21 = .ok (.lload_n 2, 1) := by decide +kernel
theorem dX0_haveCommonReport_22 : decode cX0_haveCommonReport 22 = .ok (.invokestatic 23, 3) := by decide +kernel
theorem dX0_haveCommonReport_25 : decode cX0_haveCommonReport 25 = .ok (.if_icmp .ne 5, 3) := by decide +kernel
theorem dX0_haveCommonReport_28 : decode cX0_haveCommonReport 28 = .ok (.iconst 1, 1) := by decide +kernel
theorem dX0_haveCommonReport_29 : decode cX0_haveCommonReport 29 = .ok (.ireturn, 1) := by decide +kernel
theorem dX0_haveCommonReport_30 : decode cX0_haveCommonReport 30 = .ok (.iload 4, 2) := by decide +kernel
theorem dX0_haveCommonReport_32 : decode cX0_haveCommonReport 32 = .ok (.ifCond .eq 25, 3) := by decide +kernel
theorem dX0_haveCommonReport_35 : decode cX0_haveCommonReport 35 = .ok (.iload 4, 2) := by decide +kernel
theorem dX0_haveCommonReport_37 : decode cX0_haveCommonReport 37 = .ok (.lload_n 2, 1) := by decide +kernel
theorem dX0_haveCommonReport_38 : decode cX0_haveCommonReport 38 = .ok (.invokestatic 19, 3) := by decide +kernel
theorem dX0_haveCommonReport_41 : decode cX0_haveCommonReport 41 = .ok (.if_icmp .eq 12, 3) := by decide +kernel
theorem dX0_haveCommonReport_44 : decode cX0_haveCommonReport 44 = .ok (.iload 4, 2) := by decide +kernel
theorem dX0_haveCommonReport_46 : decode cX0_haveCommonReport 46 = .ok (.lload_n 2, 1) := by decide +kernel
theorem dX0_haveCommonReport_47 : decode cX0_haveCommonReport 47 = .ok (.invokestatic 23, 3) := by decide +kernel
theorem dX0_haveCommonReport_50 : decode cX0_haveCommonReport 50 = .ok (.if_icmp .ne 7, 3) := by decide +kernel
theorem dX0_haveCommonReport_53 : decode cX0_haveCommonReport 53 = .ok (.iconst 1, 1) := by decide +kernel
theorem dX0_haveCommonReport_54 : decode cX0_haveCommonReport 54 = .ok (.goto 4, 3) := by decide +kernel
theorem dX0_haveCommonReport_57 : decode cX0_haveCommonReport 57 = .ok (.iconst 0, 1) := by decide +kernel
theorem dX0_haveCommonReport_58 : decode cX0_haveCommonReport 58 = .ok (.ireturn, 1) := by decide +kernel
set_option maxRecDepth 20000 in
theorem ggX0_hasAllOf_X0_report : GoodIn wsX0_hasAllOf wsX0_report := goodIn_r _ [4] (by decide +kernel) (by decide +kernel)
set_option maxRecDepth 20000 in
theorem gX0_hasAllOf_X0_report : GoodIn wsX0_hasAllOf (va_wsS RX0 19 yX0_report wsX0_report) := goodIn_app (goodIn_of _ (by decide +kernel)) ggX0_hasAllOf_X0_report
set_option maxRecDepth 20000 in
theorem ggX0_hasAllOf_X0_other : GoodIn wsX0_hasAllOf wsX0_other := goodIn_r _ [7] (by decide +kernel) (by decide +kernel)
set_option maxRecDepth 20000 in
theorem gX0_hasAllOf_X0_other : GoodIn wsX0_hasAllOf (va_wsS RX0 23 yX0_other wsX0_other) := goodIn_app (goodIn_of _ (by decide +kernel)) ggX0_hasAllOf_X0_other
theorem dX0_hasAllOf_0 : decode cX0_hasAllOf 0 = .ok (.lload_n 2, 1) := by decide +kernel
theorem dX0_hasAllOf_1 : decode cX0_hasAllOf 1 = .ok (.invokestatic 19, 3) := by decide +kernel
theorem dX0_hasAllOf_4 : decode cX0_hasAllOf 4 = .ok (.istore 4, 2) := by decide +kernel
theorem dX0_hasAllOf_6 : decode cX0_hasAllOf 6 = .ok (.lload_n 2, 1) := by decide +kernel
theorem dX0_hasAllOf_7 : decode cX0_hasAllOf 7 = .ok (.invokestatic 23, 3) := by decide +kernel
theorem dX0_hasAllOf_10 : decode cX0_hasAllOf 10 = .ok (.istore 5, 2) := by decide +kernel
theorem dX0_hasAllOf_12 : decode cX0_hasAllOf 12 = .ok (.iload 4, 2) := by decide +kernel
theorem dX0_hasAllOf_14 : decode cX0_hasAllOf 14 = .ok (.lload_n 0, 1) := by decide +kernel
theorem dX0_hasAllOf_15 : decode cX0_hasAllOf 15 = .ok (.invokestatic 19, 3) := by decide +kernel
theorem dX0_hasAllOf_18 : decode cX0_hasAllOf 18 = .ok (.if_icmp .eq 14, 3) := by decide +kernel
theorem dX0_hasAllOf_21 : decode cX0_hasAllOf 21 = .ok (.iload 4, 2) := by decide +kernel
theorem dX0_hasAllOf_23 : decode cX0_hasAllOf 23 = .ok (.lload_n 0, 1) := by decide +kernel
theorem dX0_hasAllOf_24 : decode cX0_hasAllOf 24 = .ok (.invokestatic 23, 3) := by decide +kernel
theorem dX0_hasAllOf_27 : decode cX0_hasAllOf 27 = .ok (.if_icmp .eq 5, 3) := by decide +kernel
theorem dX0_hasAllOf_30 : decode cX0_hasAllOf 30 = .ok (.iconst 0, 1) := by decide +kernel
theorem dX0_hasAllOf_31 : decode cX0_hasAllOf 31 = .ok (.ireturn, 1) := by decide +kernel
theorem dX0_hasAllOf_32 : decode cX0_hasAllOf 32 = .ok (.iload 5, 2) := by decide +kernel
theorem dX0_hasAllOf_34 : decode cX0_hasAllOf 34 = .ok (.ifCond .eq 21, 3) := by decide +kernel
theorem dX0_hasAllOf_37 : decode cX0_hasAllOf 37 = .ok (.iload 5, 2) := by decide +kernel
theorem dX0_hasAllOf_39 : decode cX0_hasAllOf 39 = .ok (.lload_n 0, 1) := by decide +kernel
theorem dX0_hasAllOf_40 : decode cX0_hasAllOf 40 = .ok (.invokestatic 19, 3) := by decide +kernel
theorem dX0_hasAllOf_43 : decode cX0_hasAllOf 43 = .ok (.if_icmp .eq 12, 3) := by decide +kernel
theorem dX0_hasAllOf_46 : decode cX0_hasAllOf 46 = .ok (.iload 5, 2) := by decide +kernel
theorem dX0_hasAllOf_48 : decode cX0_hasAllOf 48 = .ok (.lload_n 0, 1) := by decide +kernel
theorem dX0_hasAllOf_49 : decode cX0_hasAllOf 49 = .ok (.invokestatic 23, 3) := by decide +kernel
theorem dX0_hasAllOf_52 : decode cX0_hasAllOf 52 = .ok (.if_icmp .ne 7, 3) := by decide +kernel
theorem dX0_hasAllOf_55 : decode cX0_hasAllOf 55 = .ok (.iconst 1, 1) := by decide +kernel
theorem dX0_hasAllOf_56 : decode cX0_hasAllOf 56 = .ok (.goto 4, 3) := by decide +kernel
theorem dX0_hasAllOf_59 : decode cX0_hasAllOf 59 = .ok (.iconst 0, 1) := by decide +kernel
theorem dX0_hasAllOf_60 : decode cX0_hasAllOf 60 = .ok (.ireturn, 1) := by decide +kernel
set_option maxRecDepth 20000 in
theorem ggX0_haveSameName_X0_first : GoodIn wsX0_haveSameName wsX0_first := goodIn_r _ [4] (by decide +kernel) (by decide +kernel)
set_option maxRecDepth 20000 in
theorem gX0_haveSameName_X0_first : GoodIn wsX0_haveSameName (va_wsS RX0 26 yX0_first wsX0_first) := goodIn_app (goodIn_of _ (by decide +kernel)) ggX0_haveSameName_X0_first
set_option maxRecDepth 20000 in
theorem ggX0_haveSameName_X0_second : GoodIn wsX0_haveSameName wsX0_second := goodIn_r _ [7] (by decide +kernel) (by decide +kernel)
set_option maxRecDepth 20000 in
theorem gX0_haveSameName_X0_second : GoodIn wsX0_haveSameName (va_wsS RX0 29 yX0_second wsX0_second) := goodIn_app (goodIn_of _ (by decide +kernel)) ggX0_haveSameName_X0_second
theorem dX0_haveSameName_0 : decode cX0_haveSameName 0 = .ok (.lload_n 0, 1) := by decide +kernel
theorem dX0_haveSameName_1 : decode cX0_haveSameName 1 = .ok (.invokestatic 26, 3) := by decide +kernel
theorem dX0_haveSameName_4 : decode cX0_haveSameName 4 = .ok (.lload_n 2, 1) := by decide +kernel
theorem dX0_haveSameName_5 : decode cX0_haveSameName 5 = .ok (.invokestatic 26, 3) := by decide +kernel
theorem dX0_haveSameName_8 : decode cX0_haveSameName 8 = .ok (.if_icmp .ne 18, 3) := by decide +kernel
theorem dX0_haveSameName_11 : decode cX0_haveSameName 11 = .ok (.lload_n 0, 1) := by decide +kernel
theorem dX0_haveSameName_12 : decode cX0_haveSameName 12 = .ok (.invokestatic 29, 3) := by decide +kernel
theorem dX0_haveSameName_15 : decode cX0_haveSameName 15 = .ok (.lload_n 2, 1) := by decide +kernel
theorem dX0_haveSameName_16 : decode cX0_haveSameName 16 = .ok (.invokestatic 29, 3) := by decide +kernel
theorem dX0_haveSameName_19 : decode cX0_haveSameName 19 = .ok (.if_icmp .ne 7, 3) := by decide +kernel
theorem dX0_haveSameName_22 : decode cX0_haveSameName 22 = .ok (.iconst 1, 1) := by decide +kernel
theorem dX0_haveSameName_23 : decode cX0_haveSameName 23 = .ok (.goto 4, 3) := by decide +kernel
theorem dX0_haveSameName_26 : decode cX0_haveSameName 26 = .ok (.iconst 0, 1) := by decide +kernel
theorem dX0_haveSameName_27 : decode cX0_haveSameName 27 = .ok (.ireturn, 1) := by decide +kernel
set_option maxRecDepth 20000 in
theorem ggX0_width_X0_pin : GoodIn wsX0_width wsX0_pin := goodIn_r _ [4] (by decide +kernel) (by decide +kernel)
set_option maxRecDepth 20000 in
theorem gX0_width_X0_pin : GoodIn wsX0_width (va_wsS RX0 32 yX0_pin wsX0_pin) := goodIn_app (goodIn_of _ (by decide +kernel)) ggX0_width_X0_pin
set_option maxRecDepth 20000 in
theorem ggX0_width_X0_form : GoodIn wsX0_width wsX0_form := goodIn_r _ [7] (by decide +kernel) (by decide +kernel)
set_option maxRecDepth 20000 in
theorem gX0_width_X0_form : GoodIn wsX0_width (va_wsS RX0 35 yX0_form wsX0_form) := goodIn_app (goodIn_of _ (by decide +kernel)) ggX0_width_X0_form
set_option maxRecDepth 20000 in
theorem ggX0_width_X0_other : GoodIn wsX0_width wsX0_other := goodIn_r _ [10] (by decide +kernel) (by decide +kernel)
set_option maxRecDepth 20000 in
theorem gX0_width_X0_other : GoodIn wsX0_width (va_wsS RX0 23 yX0_other wsX0_other) := goodIn_app (goodIn_of _ (by decide +kernel)) ggX0_width_X0_other
theorem dX0_width_0 : decode cX0_width 0 = .ok (.lload_n 0, 1) := by decide +kernel
theorem dX0_width_1 : decode cX0_width 1 = .ok (.invokestatic 32, 3) := by decide +kernel
theorem dX0_width_4 : decode cX0_width 4 = .ok (.ifCond .ne 7, 3) := by decide +kernel
theorem dX0_width_7 : decode cX0_width 7 = .ok (.iconst 0, 1) := by decide +kernel
theorem dX0_width_8 : decode cX0_width 8 = .ok (.goto 4, 3) := by decide +kernel
theorem dX0_width_11 : decode cX0_width 11 = .ok (.iconst 3, 1) := by decide +kernel
theorem dX0_width_12 : decode cX0_width 12 = .ok (.istore_n 2, 1) := by decide +kernel
theorem dX0_width_13 : decode cX0_width 13 = .ok (.lload_n 0, 1) := by decide +kernel
theorem dX0_width_14 : decode cX0_width 14 = .ok (.invokestatic 35, 3) := by decide +kernel
theorem dX0_width_17 : decode cX0_width 17 = .ok (.lookupswitch 48 #[(0, 27), (3, 44)], 27) := by decide +kernel
theorem dX0_width_44 : decode cX0_width 44 = .ok (.iload_n 2, 1) := by decide +kernel
theorem dX0_width_45 : decode cX0_width 45 = .ok (.lload_n 0, 1) := by decide +kernel
theorem dX0_width_46 : decode cX0_width 46 = .ok (.invokestatic 23, 3) := by decide +kernel
theorem dX0_width_49 : decode cX0_width 49 = .ok (.ifCond .ne 8, 3) := by decide +kernel
theorem dX0_width_52 : decode cX0_width 52 = .ok (.bipush 6, 2) := by decide +kernel
theorem dX0_width_54 : decode cX0_width 54 = .ok (.goto 5, 3) := by decide +kernel
theorem dX0_width_57 : decode cX0_width 57 = .ok (.bipush 11, 2) := by decide +kernel
theorem dX0_width_59 : decode cX0_width 59 = .ok (.iadd, 1) := by decide +kernel
theorem dX0_width_60 : decode cX0_width 60 = .ok (.ireturn, 1) := by decide +kernel
theorem dX0_width_61 : decode cX0_width 61 = .ok (.iload_n 2, 1) := by decide +kernel
theorem dX0_width_62 : decode cX0_width 62 = .ok (.iconst 3, 1) := by decide +kernel
theorem dX0_width_63 : decode cX0_width 63 = .ok (.iadd, 1) := by decide +kernel
theorem dX0_width_64 : decode cX0_width 64 = .ok (.ireturn, 1) := by decide +kernel
theorem dX0_width_65 : decode cX0_width 65 = .ok (.iload_n 2, 1) := by decide +kernel
theorem dX0_width_66 : decode cX0_width 66 = .ok (.iconst 1, 1) := by decide +kernel
theorem dX0_width_67 : decode cX0_width 67 = .ok (.iadd, 1) := by decide +kernel
theorem dX0_width_68 : decode cX0_width 68 = .ok (.ireturn, 1) := by decide +kernel
theorem dX1_init_0 : decode cX1_init 0 = .ok (.aload_n 0, 1) := by decide +kernel
theorem dX1_init_1 : decode cX1_init 1 = .ok (.invokespecial 3, 3) := by decide +kernel
theorem dX1_init_4 : decode cX1_init 4 = .ok (.aload_n 0, 1) := by decide +kernel
theorem dX1_init_5 : decode cX1_init 5 = .ok (.bipush 8, 2) := by decide +kernel
theorem dX1_init_7 : decode cX1_init 7 = .ok (.newarray .int, 2) := by decide +kernel
theorem dX1_init_9 : decode cX1_init 9 = .ok (.putfield 9, 3) := by decide +kernel
theorem dX1_init_12 : decode cX1_init 12 = .ok (.aload_n 0, 1) := by decide +kernel
theorem dX1_init_13 : decode cX1_init 13 = .ok (.bipush 32, 2) := by decide +kernel
theorem dX1_init_15 : decode cX1_init 15 = .ok (.newarray .long, 2) := by decide +kernel
theorem dX1_init_17 : decode cX1_init 17 = .ok (.putfield 15, 3) := by decide +kernel
theorem dX1_init_20 : decode cX1_init 20 = .ok (.return_, 1) := by decide +kernel
theorem dX1_slotOf_0 : decode cX1_slotOf 0 = .ok (.iconst 4, 1) := by decide +kernel
theorem dX1_slotOf_1 : decode cX1_slotOf 1 = .ok (.iload_n 0, 1) := by decide +kernel
theorem dX1_slotOf_2 : decode cX1_slotOf 2 = .ok (.imul, 1) := by decide +kernel
theorem dX1_slotOf_3 : decode cX1_slotOf 3 = .ok (.iload_n 1, 1) := by decide +kernel
theorem dX1_slotOf_4 : decode cX1_slotOf 4 = .ok (.iadd, 1) := by decide +kernel
theorem dX1_slotOf_5 : decode cX1_slotOf 5 = .ok (.ireturn, 1) := by decide +kernel
theorem dX1_notes_0 : decode cX1_notes 0 = .ok (.aload_n 0, 1) := by decide +kernel
theorem dX1_notes_1 : decode cX1_notes 1 = .ok (.getfield 19, 3) := by decide +kernel
theorem dX1_notes_4 : decode cX1_notes 4 = .ok (.ireturn, 1) := by decide +kernel
theorem dX1_version_0 : decode cX1_version 0 = .ok (.aload_n 0, 1) := by decide +kernel
theorem dX1_version_1 : decode cX1_version 1 = .ok (.getfield 23, 3) := by decide +kernel
theorem dX1_version_4 : decode cX1_version 4 = .ok (.ireturn, 1) := by decide +kernel
theorem dX1_hasNote_0 : decode cX1_hasNote 0 = .ok (.iload_n 1, 1) := by decide +kernel
theorem dX1_hasNote_1 : decode cX1_hasNote 1 = .ok (.ifCond .lt 15, 3) := by decide +kernel
theorem dX1_hasNote_4 : decode cX1_hasNote 4 = .ok (.iload_n 1, 1) := by decide +kernel
theorem dX1_hasNote_5 : decode cX1_hasNote 5 = .ok (.aload_n 0, 1) := by decide +kernel
theorem dX1_hasNote_6 : decode cX1_hasNote 6 = .ok (.getfield 19, 3) := by decide +kernel
theorem dX1_hasNote_9 : decode cX1_hasNote 9 = .ok (.if_icmp .ge 7, 3) := by decide +kernel
theorem dX1_hasNote_12 : decode cX1_hasNote 12 = .ok (.iconst 1, 1) := by decide +kernel
theorem dX1_hasNote_13 : decode cX1_hasNote 13 = .ok (.goto 4, 3) := by decide +kernel
theorem dX1_hasNote_16 : decode cX1_hasNote 16 = .ok (.iconst 0, 1) := by decide +kernel
theorem dX1_hasNote_17 : decode cX1_hasNote 17 = .ok (.ireturn, 1) := by decide +kernel
theorem dX1_size_0 : decode cX1_size 0 = .ok (.iload_n 1, 1) := by decide +kernel
theorem dX1_size_1 : decode cX1_size 1 = .ok (.ifCond .lt 26, 3) := by decide +kernel
theorem dX1_size_4 : decode cX1_size 4 = .ok (.iload_n 1, 1) := by decide +kernel
theorem dX1_size_5 : decode cX1_size 5 = .ok (.aload_n 0, 1) := by decide +kernel
theorem dX1_size_6 : decode cX1_size 6 = .ok (.getfield 19, 3) := by decide +kernel
theorem dX1_size_9 : decode cX1_size 9 = .ok (.if_icmp .ge 18, 3) := by decide +kernel
theorem dX1_size_12 : decode cX1_size 12 = .ok (.iload_n 1, 1) := by decide +kernel
theorem dX1_size_13 : decode cX1_size 13 = .ok (.bipush 8, 2) := by decide +kernel
theorem dX1_size_15 : decode cX1_size 15 = .ok (.if_icmp .ge 12, 3) := by decide +kernel
theorem dX1_size_18 : decode cX1_size 18 = .ok (.aload_n 0, 1) := by decide +kernel
theorem dX1_size_19 : decode cX1_size 19 = .ok (.getfield 9, 3) := by decide +kernel
theorem dX1_size_22 : decode cX1_size 22 = .ok (.iload_n 1, 1) := by decide +kernel
theorem dX1_size_23 : decode cX1_size 23 = .ok (.iaload, 1) := by decide +kernel
theorem dX1_size_24 : decode cX1_size 24 = .ok (.goto 4, 3) := by decide +kernel
theorem dX1_size_27 : decode cX1_size 27 = .ok (.iconst 0, 1) := by decide +kernel
theorem dX1_size_28 : decode cX1_size 28 = .ok (.ireturn, 1) := by decide +kernel
set_option maxRecDepth 20000 in
theorem ggX1_hasReference_X1_size : GoodIn wsX1_hasReference wsX1_size := goodIn_r _ [5, 6, 7, 8, 9, 10, 11] (by decide +kernel) (by decide +kernel)
set_option maxRecDepth 20000 in
theorem gX1_hasReference_X1_size : GoodIn wsX1_hasReference (wsV RX1 26 RX1 yX1_size wsX1_size) := goodIn_app (goodIn_of _ (by decide +kernel)) ggX1_hasReference_X1_size
theorem dX1_hasReference_0 : decode cX1_hasReference 0 = .ok (.iload_n 2, 1) := by decide +kernel
theorem dX1_hasReference_1 : decode cX1_hasReference 1 = .ok (.ifCond .lt 16, 3) := by decide +kernel
theorem dX1_hasReference_4 : decode cX1_hasReference 4 = .ok (.iload_n 2, 1) := by decide +kernel
theorem dX1_hasReference_5 : decode cX1_hasReference 5 = .ok (.aload_n 0, 1) := by decide +kernel
theorem dX1_hasReference_6 : decode cX1_hasReference 6 = .ok (.iload_n 1, 1) := by decide +kernel
theorem dX1_hasReference_7 : decode cX1_hasReference 7 = .ok (.invokevirtual 26, 3) := by decide +kernel
theorem dX1_hasReference_10 : decode cX1_hasReference 10 = .ok (.if_icmp .ge 7, 3) := by decide +kernel
theorem dX1_hasReference_13 : decode cX1_hasReference 13 = .ok (.iconst 1, 1) := by decide +kernel
theorem dX1_hasReference_14 : decode cX1_hasReference 14 = .ok (.goto 4, 3) := by decide +kernel
theorem dX1_hasReference_17 : decode cX1_hasReference 17 = .ok (.iconst 0, 1) := by decide +kernel
theorem dX1_hasReference_18 : decode cX1_hasReference 18 = .ok (.ireturn, 1) := by decide +kernel
set_option maxRecDepth 20000 in
theorem ggX1_hasSlot_X1_size : GoodIn wsX1_hasSlot wsX1_size := goodIn_r _ [5, 6, 7, 8, 9, 10, 11] (by decide +kernel) (by decide +kernel)
set_option maxRecDepth 20000 in
theorem gX1_hasSlot_X1_size : GoodIn wsX1_hasSlot (wsV RX1 26 RX1 yX1_size wsX1_size) := goodIn_app (goodIn_of _ (by decide +kernel)) ggX1_hasSlot_X1_size
theorem dX1_hasSlot_0 : decode cX1_hasSlot 0 = .ok (.iload_n 1, 1) := by decide +kernel
theorem dX1_hasSlot_1 : decode cX1_hasSlot 1 = .ok (.ifCond .lt 20, 3) := by decide +kernel
theorem dX1_hasSlot_4 : decode cX1_hasSlot 4 = .ok (.iload_n 1, 1) := by decide +kernel
theorem dX1_hasSlot_5 : decode cX1_hasSlot 5 = .ok (.iconst 4, 1) := by decide +kernel
theorem dX1_hasSlot_6 : decode cX1_hasSlot 6 = .ok (.irem, 1) := by decide +kernel
theorem dX1_hasSlot_7 : decode cX1_hasSlot 7 = .ok (.aload_n 0, 1) := by decide +kernel
theorem dX1_hasSlot_8 : decode cX1_hasSlot 8 = .ok (.iload_n 1, 1) := by decide +kernel
theorem dX1_hasSlot_9 : decode cX1_hasSlot 9 = .ok (.iconst 4, 1) := by decide +kernel
theorem dX1_hasSlot_10 : decode cX1_hasSlot 10 = .ok (.idiv, 1) := by decide +kernel
theorem dX1_hasSlot_11 : decode cX1_hasSlot 11 = .ok (.invokevirtual 26, 3) := by decide +kernel
theorem dX1_hasSlot_14 : decode cX1_hasSlot 14 = .ok (.if_icmp .ge 7, 3) := by decide +kernel
theorem dX1_hasSlot_17 : decode cX1_hasSlot 17 = .ok (.iconst 1, 1) := by decide +kernel
theorem dX1_hasSlot_18 : decode cX1_hasSlot 18 = .ok (.goto 4, 3) := by decide +kernel
theorem dX1_hasSlot_21 : decode cX1_hasSlot 21 = .ok (.iconst 0, 1) := by decide +kernel
theorem dX1_hasSlot_22 : decode cX1_hasSlot 22 = .ok (.ireturn, 1) := by decide +kernel
theorem dX1_cite_0 : decode cX1_cite 0 = .ok (.iload_n 1, 1) := by decide +kernel
theorem dX1_cite_1 : decode cX1_cite 1 = .ok (.ifCond .lt 18, 3) := by decide +kernel
theorem dX1_cite_4 : decode cX1_cite 4 = .ok (.iload_n 1, 1) := by decide +kernel
theorem dX1_cite_5 : decode cX1_cite 5 = .ok (.bipush 32, 2) := by decide +kernel
theorem dX1_cite_7 : decode cX1_cite 7 = .ok (.if_icmp .ge 12, 3) := by decide +kernel
theorem dX1_cite_10 : decode cX1_cite 10 = .ok (.aload_n 0, 1) := by decide +kernel
theorem dX1_cite_11 : decode cX1_cite 11 = .ok (.getfield 15, 3) := by decide +kernel
theorem dX1_cite_14 : decode cX1_cite 14 = .ok (.iload_n 1, 1) := by decide +kernel
theorem dX1_cite_15 : decode cX1_cite 15 = .ok (.laload, 1) := by decide +kernel
theorem dX1_cite_16 : decode cX1_cite 16 = .ok (.goto 4, 3) := by decide +kernel
theorem dX1_cite_19 : decode cX1_cite 19 = .ok (.lconst 0, 1) := by decide +kernel
theorem dX1_cite_20 : decode cX1_cite 20 = .ok (.lreturn, 1) := by decide +kernel
set_option maxRecDepth 20000 in
theorem ggX1_fullSlots_X1_size : GoodIn wsX1_fullSlots wsX1_size := goodIn_r _ [6, 1, 7, 20, 21, 22, 23] (by decide +kernel) (by decide +kernel)
set_option maxRecDepth 20000 in
theorem gX1_fullSlots_X1_size : GoodIn wsX1_fullSlots (wsV RX1 26 RX1 yX1_size wsX1_size) := goodIn_app (goodIn_of _ (by decide +kernel)) ggX1_fullSlots_X1_size
set_option maxRecDepth 20000 in
theorem ggX1_fullSlots_X1_slotOf : GoodIn wsX1_fullSlots wsX1_slotOf := goodIn_r _ [10] (by decide +kernel) (by decide +kernel)
set_option maxRecDepth 20000 in
theorem gX1_fullSlots_X1_slotOf : GoodIn wsX1_fullSlots (va_wsS RX1 30 yX1_slotOf wsX1_slotOf) := goodIn_app (goodIn_of _ (by decide +kernel)) ggX1_fullSlots_X1_slotOf
set_option maxRecDepth 20000 in
theorem ggX1_fullSlots_X1_cite : GoodIn wsX1_fullSlots wsX1_cite := goodIn_r _ [14, 15, 20, 21, 22, 23] (by decide +kernel) (by decide +kernel)
set_option maxRecDepth 20000 in
theorem gX1_fullSlots_X1_cite : GoodIn wsX1_fullSlots (wsV RX1 34 RX1 yX1_cite wsX1_cite) := goodIn_app (goodIn_of _ (by decide +kernel)) ggX1_fullSlots_X1_cite
set_option maxRecDepth 20000 in
theorem ggX1_fullSlots_X0_form : GoodIn wsX1_fullSlots wsX0_form := goodIn_r _ [19] (by decide +kernel) (by decide +kernel)
set_option maxRecDepth 20000 in
theorem gX1_fullSlots_X0_form : GoodIn wsX1_fullSlots (va_wsS RX1 38 yX0_form wsX0_form) := goodIn_app (goodIn_of _ (by decide +kernel)) ggX1_fullSlots_X0_form
theorem dX1_fullSlots_0 : decode cX1_fullSlots 0 = .ok (.iconst 0, 1) := by decide +kernel
theorem dX1_fullSlots_1 : decode cX1_fullSlots 1 = .ok (.istore_n 1, 1) := by decide +kernel
theorem dX1_fullSlots_2 : decode cX1_fullSlots 2 = .ok (.iconst 0, 1) := by decide +kernel
theorem dX1_fullSlots_3 : decode cX1_fullSlots 3 = .ok (.istore_n 2, 1) := by decide +kernel
theorem dX1_fullSlots_4 : decode cX1_fullSlots 4 = .ok (.iload_n 2, 1) := by decide +kernel
theorem dX1_fullSlots_5 : decode cX1_fullSlots 5 = .ok (.aload_n 0, 1) := by decide +kernel
theorem dX1_fullSlots_6 : decode cX1_fullSlots 6 = .ok (.getfield 19, 3) := by decide +kernel
theorem dX1_fullSlots_9 : decode cX1_fullSlots 9 = .ok (.if_icmp .ge 52, 3) := by decide +kernel
theorem dX1_fullSlots_12 : decode cX1_fullSlots 12 = .ok (.iconst 0, 1) := by decide +kernel
theorem dX1_fullSlots_13 : decode cX1_fullSlots 13 = .ok (.istore_n 3, 1) := by decide +kernel
theorem dX1_fullSlots_14 : decode cX1_fullSlots 14 = .ok (.iload_n 3, 1) := by decide +kernel
theorem dX1_fullSlots_15 : decode cX1_fullSlots 15 = .ok (.aload_n 0, 1) := by decide +kernel
theorem dX1_fullSlots_16 : decode cX1_fullSlots 16 = .ok (.iload_n 2, 1) := by decide +kernel
theorem dX1_fullSlots_17 : decode cX1_fullSlots 17 = .ok (.invokevirtual 26, 3) := by decide +kernel
theorem dX1_fullSlots_20 : decode cX1_fullSlots 20 = .ok (.if_icmp .ge 35, 3) := by decide +kernel
theorem dX1_fullSlots_23 : decode cX1_fullSlots 23 = .ok (.iload_n 2, 1) := by decide +kernel
theorem dX1_fullSlots_24 : decode cX1_fullSlots 24 = .ok (.iload_n 3, 1) := by decide +kernel
theorem dX1_fullSlots_25 : decode cX1_fullSlots 25 = .ok (.invokestatic 30, 3) := by decide +kernel
theorem dX1_fullSlots_28 : decode cX1_fullSlots 28 = .ok (.istore 4, 2) := by decide +kernel
theorem dX1_fullSlots_30 : decode cX1_fullSlots 30 = .ok (.aload_n 0, 1) := by decide +kernel
theorem dX1_fullSlots_31 : decode cX1_fullSlots 31 = .ok (.iload 4, 2) := by decide +kernel
theorem dX1_fullSlots_33 : decode cX1_fullSlots 33 = .ok (.invokevirtual 34, 3) := by decide +kernel
theorem dX1_fullSlots_36 : decode cX1_fullSlots 36 = .ok (.invokestatic 38, 3) := by decide +kernel
theorem dX1_fullSlots_39 : decode cX1_fullSlots 39 = .ok (.ifCond .ne 10, 3) := by decide +kernel
theorem dX1_fullSlots_42 : decode cX1_fullSlots 42 = .ok (.iload_n 1, 1) := by decide +kernel
theorem dX1_fullSlots_43 : decode cX1_fullSlots 43 = .ok (.iconst 1, 1) := by decide +kernel
theorem dX1_fullSlots_44 : decode cX1_fullSlots 44 = .ok (.iload 4, 2) := by decide +kernel
theorem dX1_fullSlots_46 : decode cX1_fullSlots 46 = .ok (.ishl, 1) := by decide +kernel
theorem dX1_fullSlots_47 : decode cX1_fullSlots 47 = .ok (.ior, 1) := by decide +kernel
theorem dX1_fullSlots_48 : decode cX1_fullSlots 48 = .ok (.istore_n 1, 1) := by decide +kernel
theorem dX1_fullSlots_49 : decode cX1_fullSlots 49 = .ok (.iinc 3 1, 3) := by decide +kernel
theorem dX1_fullSlots_52 : decode cX1_fullSlots 52 = .ok (.goto (-38), 3) := by decide +kernel
theorem dX1_fullSlots_55 : decode cX1_fullSlots 55 = .ok (.iinc 2 1, 3) := by decide +kernel
theorem dX1_fullSlots_58 : decode cX1_fullSlots 58 = .ok (.goto (-54), 3) := by decide +kernel
theorem dX1_fullSlots_61 : decode cX1_fullSlots 61 = .ok (.iload_n 1, 1) := by decide +kernel
theorem dX1_fullSlots_62 : decode cX1_fullSlots 62 = .ok (.ireturn, 1) := by decide +kernel
theorem dX1_clear_0 : decode cX1_clear 0 = .ok (.aload_n 0, 1) := by decide +kernel
theorem dX1_clear_1 : decode cX1_clear 1 = .ok (.dup, 1) := by decide +kernel
theorem dX1_clear_2 : decode cX1_clear 2 = .ok (.getfield 23, 3) := by decide +kernel
theorem dX1_clear_5 : decode cX1_clear 5 = .ok (.iconst 1, 1) := by decide +kernel
theorem dX1_clear_6 : decode cX1_clear 6 = .ok (.iadd, 1) := by decide +kernel
theorem dX1_clear_7 : decode cX1_clear 7 = .ok (.putfield 23, 3) := by decide +kernel
theorem dX1_clear_10 : decode cX1_clear 10 = .ok (.aload_n 0, 1) := by decide +kernel
theorem dX1_clear_11 : decode cX1_clear 11 = .ok (.iconst 0, 1) := by decide +kernel
theorem dX1_clear_12 : decode cX1_clear 12 = .ok (.putfield 19, 3) := by decide +kernel
theorem dX1_clear_15 : decode cX1_clear 15 = .ok (.return_, 1) := by decide +kernel
theorem dX1_openNote_0 : decode cX1_openNote 0 = .ok (.aload_n 0, 1) := by decide +kernel
theorem dX1_openNote_1 : decode cX1_openNote 1 = .ok (.getfield 19, 3) := by decide +kernel
theorem dX1_openNote_4 : decode cX1_openNote 4 = .ok (.bipush 8, 2) := by decide +kernel
theorem dX1_openNote_6 : decode cX1_openNote 6 = .ok (.if_icmp .lt 4, 3) := by decide +kernel
theorem dX1_openNote_9 : decode cX1_openNote 9 = .ok (.return_, 1) := by decide +kernel
theorem dX1_openNote_10 : decode cX1_openNote 10 = .ok (.aload_n 0, 1) := by decide +kernel
theorem dX1_openNote_11 : decode cX1_openNote 11 = .ok (.dup, 1) := by decide +kernel
theorem dX1_openNote_12 : decode cX1_openNote 12 = .ok (.getfield 23, 3) := by decide +kernel
theorem dX1_openNote_15 : decode cX1_openNote 15 = .ok (.iconst 1, 1) := by decide +kernel
theorem dX1_openNote_16 : decode cX1_openNote 16 = .ok (.iadd, 1) := by decide +kernel
theorem dX1_openNote_17 : decode cX1_openNote 17 = .ok (.putfield 23, 3) := by decide +kernel
theorem dX1_openNote_20 : decode cX1_openNote 20 = .ok (.aload_n 0, 1) := by decide +kernel
theorem dX1_openNote_21 : decode cX1_openNote 21 = .ok (.getfield 9, 3) := by decide +kernel
theorem dX1_openNote_24 : decode cX1_openNote 24 = .ok (.aload_n 0, 1) := by decide +kernel
theorem dX1_openNote_25 : decode cX1_openNote 25 = .ok (.getfield 19, 3) := by decide +kernel
theorem dX1_openNote_28 : decode cX1_openNote 28 = .ok (.iconst 0, 1) := by decide +kernel
theorem dX1_openNote_29 : decode cX1_openNote 29 = .ok (.iastore, 1) := by decide +kernel
theorem dX1_openNote_30 : decode cX1_openNote 30 = .ok (.aload_n 0, 1) := by decide +kernel
theorem dX1_openNote_31 : decode cX1_openNote 31 = .ok (.dup, 1) := by decide +kernel
theorem dX1_openNote_32 : decode cX1_openNote 32 = .ok (.getfield 19, 3) := by decide +kernel
theorem dX1_openNote_35 : decode cX1_openNote 35 = .ok (.iconst 1, 1) := by decide +kernel
theorem dX1_openNote_36 : decode cX1_openNote 36 = .ok (.iadd, 1) := by decide +kernel
theorem dX1_openNote_37 : decode cX1_openNote 37 = .ok (.putfield 19, 3) := by decide +kernel
theorem dX1_openNote_40 : decode cX1_openNote 40 = .ok (.return_, 1) := by decide +kernel
set_option maxRecDepth 20000 in
theorem ggX1_addCite_X1_slotOf : GoodIn wsX1_addCite wsX1_slotOf := goodIn_r _ [6] (by decide +kernel) (by decide +kernel)
set_option maxRecDepth 20000 in
theorem gX1_addCite_X1_slotOf : GoodIn wsX1_addCite (va_wsS RX1 30 yX1_slotOf wsX1_slotOf) := goodIn_app (goodIn_of _ (by decide +kernel)) ggX1_addCite_X1_slotOf
set_option maxRecDepth 20000 in
theorem ggX1_addCite_X1_replaceCite : GoodIn wsX1_addCite wsX1_replaceCite := goodIn_r _ [10, 11, 12, 13, 14, 15, 16] (by decide +kernel) (by decide +kernel)
set_option maxRecDepth 20000 in
theorem gX1_addCite_X1_replaceCite : GoodIn wsX1_addCite (wsV RX1 44 RX1 yX1_replaceCite wsX1_replaceCite) := goodIn_app (goodIn_of _ (by decide +kernel)) ggX1_addCite_X1_replaceCite
theorem dX1_addCite_0 : decode cX1_addCite 0 = .ok (.aload_n 0, 1) := by decide +kernel
theorem dX1_addCite_1 : decode cX1_addCite 1 = .ok (.getfield 19, 3) := by decide +kernel
theorem dX1_addCite_4 : decode cX1_addCite 4 = .ok (.iconst 1, 1) := by decide +kernel
theorem dX1_addCite_5 : decode cX1_addCite 5 = .ok (.isub, 1) := by decide +kernel
theorem dX1_addCite_6 : decode cX1_addCite 6 = .ok (.istore_n 3, 1) := by decide +kernel
theorem dX1_addCite_7 : decode cX1_addCite 7 = .ok (.iload_n 3, 1) := by decide +kernel
theorem dX1_addCite_8 : decode cX1_addCite 8 = .ok (.ifCond .lt 19, 3) := by decide +kernel
theorem dX1_addCite_11 : decode cX1_addCite 11 = .ok (.iload_n 3, 1) := by decide +kernel
theorem dX1_addCite_12 : decode cX1_addCite 12 = .ok (.bipush 8, 2) := by decide +kernel
theorem dX1_addCite_14 : decode cX1_addCite 14 = .ok (.if_icmp .ge 13, 3) := by decide +kernel
theorem dX1_addCite_17 : decode cX1_addCite 17 = .ok (.aload_n 0, 1) := by decide +kernel
theorem dX1_addCite_18 : decode cX1_addCite 18 = .ok (.getfield 9, 3) := by decide +kernel
theorem dX1_addCite_21 : decode cX1_addCite 21 = .ok (.iload_n 3, 1) := by decide +kernel
theorem dX1_addCite_22 : decode cX1_addCite 22 = .ok (.iaload, 1) := by decide +kernel
theorem dX1_addCite_23 : decode cX1_addCite 23 = .ok (.iconst 4, 1) := by decide +kernel
theorem dX1_addCite_24 : decode cX1_addCite 24 = .ok (.if_icmp .lt 4, 3) := by decide +kernel
theorem dX1_addCite_27 : decode cX1_addCite 27 = .ok (.return_, 1) := by decide +kernel
theorem dX1_addCite_28 : decode cX1_addCite 28 = .ok (.aload_n 0, 1) := by decide +kernel
theorem dX1_addCite_29 : decode cX1_addCite 29 = .ok (.getfield 9, 3) := by decide +kernel
theorem dX1_addCite_32 : decode cX1_addCite 32 = .ok (.iload_n 3, 1) := by decide +kernel
theorem dX1_addCite_33 : decode cX1_addCite 33 = .ok (.dup2, 1) := by decide +kernel
theorem dX1_addCite_34 : decode cX1_addCite 34 = .ok (.iaload, 1) := by decide +kernel
theorem dX1_addCite_35 : decode cX1_addCite 35 = .ok (.iconst 1, 1) := by decide +kernel
theorem dX1_addCite_36 : decode cX1_addCite 36 = .ok (.iadd, 1) := by decide +kernel
theorem dX1_addCite_37 : decode cX1_addCite 37 = .ok (.iastore, 1) := by decide +kernel
theorem dX1_addCite_38 : decode cX1_addCite 38 = .ok (.aload_n 0, 1) := by decide +kernel
theorem dX1_addCite_39 : decode cX1_addCite 39 = .ok (.iload_n 3, 1) := by decide +kernel
theorem dX1_addCite_40 : decode cX1_addCite 40 = .ok (.aload_n 0, 1) := by decide +kernel
theorem dX1_addCite_41 : decode cX1_addCite 41 = .ok (.getfield 9, 3) := by decide +kernel
theorem dX1_addCite_44 : decode cX1_addCite 44 = .ok (.iload_n 3, 1) := by decide +kernel
theorem dX1_addCite_45 : decode cX1_addCite 45 = .ok (.iaload, 1) := by decide +kernel
theorem dX1_addCite_46 : decode cX1_addCite 46 = .ok (.iconst 1, 1) := by decide +kernel
theorem dX1_addCite_47 : decode cX1_addCite 47 = .ok (.isub, 1) := by decide +kernel
theorem dX1_addCite_48 : decode cX1_addCite 48 = .ok (.invokestatic 30, 3) := by decide +kernel
theorem dX1_addCite_51 : decode cX1_addCite 51 = .ok (.lload_n 1, 1) := by decide +kernel
theorem dX1_addCite_52 : decode cX1_addCite 52 = .ok (.invokevirtual 44, 3) := by decide +kernel
theorem dX1_addCite_55 : decode cX1_addCite 55 = .ok (.return_, 1) := by decide +kernel
theorem dX1_replaceCite_0 : decode cX1_replaceCite 0 = .ok (.iload_n 1, 1) := by decide +kernel
theorem dX1_replaceCite_1 : decode cX1_replaceCite 1 = .ok (.ifCond .lt 9, 3) := by decide +kernel
theorem dX1_replaceCite_4 : decode cX1_replaceCite 4 = .ok (.iload_n 1, 1) := by decide +kernel
theorem dX1_replaceCite_5 : decode cX1_replaceCite 5 = .ok (.bipush 32, 2) := by decide +kernel
theorem dX1_replaceCite_7 : decode cX1_replaceCite 7 = .ok (.if_icmp .lt 4, 3) := by decide +kernel
theorem dX1_replaceCite_10 : decode cX1_replaceCite 10 = .ok (.return_, 1) := by decide +kernel
theorem dX1_replaceCite_11 : decode cX1_replaceCite 11 = .ok (.aload_n 0, 1) := by decide +kernel
theorem dX1_replaceCite_12 : decode cX1_replaceCite 12 = .ok (.dup, 1) := by decide +kernel
theorem dX1_replaceCite_13 : decode cX1_replaceCite 13 = .ok (.getfield 23, 3) := by decide +kernel
theorem dX1_replaceCite_16 : decode cX1_replaceCite 16 = .ok (.iconst 1, 1) := by decide +kernel
theorem dX1_replaceCite_17 : decode cX1_replaceCite 17 = .ok (.iadd, 1) := by decide +kernel
theorem dX1_replaceCite_18 : decode cX1_replaceCite 18 = .ok (.putfield 23, 3) := by decide +kernel
theorem dX1_replaceCite_21 : decode cX1_replaceCite 21 = .ok (.aload_n 0, 1) := by decide +kernel
theorem dX1_replaceCite_22 : decode cX1_replaceCite 22 = .ok (.getfield 15, 3) := by decide +kernel
theorem dX1_replaceCite_25 : decode cX1_replaceCite 25 = .ok (.iload_n 1, 1) := by decide +kernel
theorem dX1_replaceCite_26 : decode cX1_replaceCite 26 = .ok (.lload_n 2, 1) := by decide +kernel
theorem dX1_replaceCite_27 : decode cX1_replaceCite 27 = .ok (.lastore, 1) := by decide +kernel
theorem dX1_replaceCite_28 : decode cX1_replaceCite 28 = .ok (.return_, 1) := by decide +kernel
theorem dX1_copyFrom_0 : decode cX1_copyFrom 0 = .ok (.aload_n 0, 1) := by decide +kernel
theorem dX1_copyFrom_1 : decode cX1_copyFrom 1 = .ok (.dup, 1) := by decide +kernel
theorem dX1_copyFrom_2 : decode cX1_copyFrom 2 = .ok (.getfield 23, 3) := by decide +kernel
theorem dX1_copyFrom_5 : decode cX1_copyFrom 5 = .ok (.iconst 1, 1) := by decide +kernel
theorem dX1_copyFrom_6 : decode cX1_copyFrom 6 = .ok (.iadd, 1) := by decide +kernel
theorem dX1_copyFrom_7 : decode cX1_copyFrom 7 = .ok (.putfield 23, 3) := by decide +kernel
theorem dX1_copyFrom_10 : decode cX1_copyFrom 10 = .ok (.aload_n 0, 1) := by decide +kernel
theorem dX1_copyFrom_11 : decode cX1_copyFrom 11 = .ok (.aload_n 1, 1) := by decide +kernel
theorem dX1_copyFrom_12 : decode cX1_copyFrom 12 = .ok (.getfield 19, 3) := by decide +kernel
theorem dX1_copyFrom_15 : decode cX1_copyFrom 15 = .ok (.putfield 19, 3) := by decide +kernel
theorem dX1_copyFrom_18 : decode cX1_copyFrom 18 = .ok (.aload_n 1, 1) := by decide +kernel
theorem dX1_copyFrom_19 : decode cX1_copyFrom 19 = .ok (.getfield 9, 3) := by decide +kernel
theorem dX1_copyFrom_22 : decode cX1_copyFrom 22 = .ok (.iconst 0, 1) := by decide +kernel
theorem dX1_copyFrom_23 : decode cX1_copyFrom 23 = .ok (.aload_n 0, 1) := by decide +kernel
theorem dX1_copyFrom_24 : decode cX1_copyFrom 24 = .ok (.getfield 9, 3) := by decide +kernel
theorem dX1_copyFrom_27 : decode cX1_copyFrom 27 = .ok (.iconst 0, 1) := by decide +kernel
theorem dX1_copyFrom_28 : decode cX1_copyFrom 28 = .ok (.bipush 8, 2) := by decide +kernel
theorem dX1_copyFrom_30 : decode cX1_copyFrom 30 = .ok (.invokestatic 48, 3) := by decide +kernel
theorem dX1_copyFrom_33 : decode cX1_copyFrom 33 = .ok (.aload_n 1, 1) := by decide +kernel
theorem dX1_copyFrom_34 : decode cX1_copyFrom 34 = .ok (.getfield 15, 3) := by decide +kernel
theorem dX1_copyFrom_37 : decode cX1_copyFrom 37 = .ok (.iconst 0, 1) := by decide +kernel
theorem dX1_copyFrom_38 : decode cX1_copyFrom 38 = .ok (.aload_n 0, 1) := by decide +kernel
theorem dX1_copyFrom_39 : decode cX1_copyFrom 39 = .ok (.getfield 15, 3) := by decide +kernel
theorem dX1_copyFrom_42 : decode cX1_copyFrom 42 = .ok (.iconst 0, 1) := by decide +kernel
theorem dX1_copyFrom_43 : decode cX1_copyFrom 43 = .ok (.bipush 32, 2) := by decide +kernel
theorem dX1_copyFrom_45 : decode cX1_copyFrom 45 = .ok (.invokestatic 48, 3) := by decide +kernel
theorem dX1_copyFrom_48 : decode cX1_copyFrom 48 = .ok (.return_, 1) := by decide +kernel
theorem dX1_saveTo_0 : decode cX1_saveTo 0 = .ok (.iload_n 3, 1) := by decide +kernel
theorem dX1_saveTo_1 : decode cX1_saveTo 1 = .ok (.ifCond .lt 25, 3) := by decide +kernel
theorem dX1_saveTo_4 : decode cX1_saveTo 4 = .ok (.iload_n 3, 1) := by decide +kernel
theorem dX1_saveTo_5 : decode cX1_saveTo 5 = .ok (.iconst 1, 1) := by decide +kernel
theorem dX1_saveTo_6 : decode cX1_saveTo 6 = .ok (.iadd, 1) := by decide +kernel
theorem dX1_saveTo_7 : decode cX1_saveTo 7 = .ok (.bipush 8, 2) := by decide +kernel
theorem dX1_saveTo_9 : decode cX1_saveTo 9 = .ok (.imul, 1) := by decide +kernel
theorem dX1_saveTo_10 : decode cX1_saveTo 10 = .ok (.aload_n 1, 1) := by decide +kernel
theorem dX1_saveTo_11 : decode cX1_saveTo 11 = .ok (.arraylength, 1) := by decide +kernel
theorem dX1_saveTo_12 : decode cX1_saveTo 12 = .ok (.if_icmp .gt 14, 3) := by decide +kernel
theorem dX1_saveTo_15 : decode cX1_saveTo 15 = .ok (.iload_n 3, 1) := by decide +kernel
theorem dX1_saveTo_16 : decode cX1_saveTo 16 = .ok (.iconst 1, 1) := by decide +kernel
theorem dX1_saveTo_17 : decode cX1_saveTo 17 = .ok (.iadd, 1) := by decide +kernel
theorem dX1_saveTo_18 : decode cX1_saveTo 18 = .ok (.bipush 32, 2) := by decide +kernel
theorem dX1_saveTo_20 : decode cX1_saveTo 20 = .ok (.imul, 1) := by decide +kernel
theorem dX1_saveTo_21 : decode cX1_saveTo 21 = .ok (.aload_n 2, 1) := by decide +kernel
theorem dX1_saveTo_22 : decode cX1_saveTo 22 = .ok (.arraylength, 1) := by decide +kernel
theorem dX1_saveTo_23 : decode cX1_saveTo 23 = .ok (.if_icmp .le 4, 3) := by decide +kernel
theorem dX1_saveTo_26 : decode cX1_saveTo 26 = .ok (.return_, 1) := by decide +kernel
theorem dX1_saveTo_27 : decode cX1_saveTo 27 = .ok (.aload_n 0, 1) := by decide +kernel
theorem dX1_saveTo_28 : decode cX1_saveTo 28 = .ok (.getfield 9, 3) := by decide +kernel
theorem dX1_saveTo_31 : decode cX1_saveTo 31 = .ok (.iconst 0, 1) := by decide +kernel
theorem dX1_saveTo_32 : decode cX1_saveTo 32 = .ok (.aload_n 1, 1) := by decide +kernel
theorem dX1_saveTo_33 : decode cX1_saveTo 33 = .ok (.iload_n 3, 1) := by decide +kernel
theorem dX1_saveTo_34 : decode cX1_saveTo 34 = .ok (.bipush 8, 2) := by decide +kernel
theorem dX1_saveTo_36 : decode cX1_saveTo 36 = .ok (.imul, 1) := by decide +kernel
theorem dX1_saveTo_37 : decode cX1_saveTo 37 = .ok (.bipush 8, 2) := by decide +kernel
theorem dX1_saveTo_39 : decode cX1_saveTo 39 = .ok (.invokestatic 48, 3) := by decide +kernel
theorem dX1_saveTo_42 : decode cX1_saveTo 42 = .ok (.aload_n 0, 1) := by decide +kernel
theorem dX1_saveTo_43 : decode cX1_saveTo 43 = .ok (.getfield 15, 3) := by decide +kernel
theorem dX1_saveTo_46 : decode cX1_saveTo 46 = .ok (.iconst 0, 1) := by decide +kernel
theorem dX1_saveTo_47 : decode cX1_saveTo 47 = .ok (.aload_n 2, 1) := by decide +kernel
theorem dX1_saveTo_48 : decode cX1_saveTo 48 = .ok (.iload_n 3, 1) := by decide +kernel
theorem dX1_saveTo_49 : decode cX1_saveTo 49 = .ok (.bipush 32, 2) := by decide +kernel
theorem dX1_saveTo_51 : decode cX1_saveTo 51 = .ok (.imul, 1) := by decide +kernel
theorem dX1_saveTo_52 : decode cX1_saveTo 52 = .ok (.bipush 32, 2) := by decide +kernel
theorem dX1_saveTo_54 : decode cX1_saveTo 54 = .ok (.invokestatic 48, 3) := by decide +kernel
theorem dX1_saveTo_57 : decode cX1_saveTo 57 = .ok (.return_, 1) := by decide +kernel
theorem dX1_loadFrom_0 : decode cX1_loadFrom 0 = .ok (.iload_n 3, 1) := by decide +kernel
theorem dX1_loadFrom_1 : decode cX1_loadFrom 1 = .ok (.ifCond .lt 25, 3) := by decide +kernel
theorem dX1_loadFrom_4 : decode cX1_loadFrom 4 = .ok (.iload_n 3, 1) := by decide +kernel
theorem dX1_loadFrom_5 : decode cX1_loadFrom 5 = .ok (.iconst 1, 1) := by decide +kernel
theorem dX1_loadFrom_6 : decode cX1_loadFrom 6 = .ok (.iadd, 1) := by decide +kernel
theorem dX1_loadFrom_7 : decode cX1_loadFrom 7 = .ok (.bipush 8, 2) := by decide +kernel
theorem dX1_loadFrom_9 : decode cX1_loadFrom 9 = .ok (.imul, 1) := by decide +kernel
theorem dX1_loadFrom_10 : decode cX1_loadFrom 10 = .ok (.aload_n 1, 1) := by decide +kernel
theorem dX1_loadFrom_11 : decode cX1_loadFrom 11 = .ok (.arraylength, 1) := by decide +kernel
theorem dX1_loadFrom_12 : decode cX1_loadFrom 12 = .ok (.if_icmp .gt 14, 3) := by decide +kernel
theorem dX1_loadFrom_15 : decode cX1_loadFrom 15 = .ok (.iload_n 3, 1) := by decide +kernel
theorem dX1_loadFrom_16 : decode cX1_loadFrom 16 = .ok (.iconst 1, 1) := by decide +kernel
theorem dX1_loadFrom_17 : decode cX1_loadFrom 17 = .ok (.iadd, 1) := by decide +kernel
theorem dX1_loadFrom_18 : decode cX1_loadFrom 18 = .ok (.bipush 32, 2) := by decide +kernel
theorem dX1_loadFrom_20 : decode cX1_loadFrom 20 = .ok (.imul, 1) := by decide +kernel
theorem dX1_loadFrom_21 : decode cX1_loadFrom 21 = .ok (.aload_n 2, 1) := by decide +kernel
theorem dX1_loadFrom_22 : decode cX1_loadFrom 22 = .ok (.arraylength, 1) := by decide +kernel
theorem dX1_loadFrom_23 : decode cX1_loadFrom 23 = .ok (.if_icmp .le 4, 3) := by decide +kernel
theorem dX1_loadFrom_26 : decode cX1_loadFrom 26 = .ok (.return_, 1) := by decide +kernel
theorem dX1_loadFrom_27 : decode cX1_loadFrom 27 = .ok (.aload_n 0, 1) := by decide +kernel
theorem dX1_loadFrom_28 : decode cX1_loadFrom 28 = .ok (.dup, 1) := by decide +kernel
theorem dX1_loadFrom_29 : decode cX1_loadFrom 29 = .ok (.getfield 23, 3) := by decide +kernel
theorem dX1_loadFrom_32 : decode cX1_loadFrom 32 = .ok (.iconst 1, 1) := by decide +kernel
theorem dX1_loadFrom_33 : decode cX1_loadFrom 33 = .ok (.iadd, 1) := by decide +kernel
theorem dX1_loadFrom_34 : decode cX1_loadFrom 34 = .ok (.putfield 23, 3) := by decide +kernel
theorem dX1_loadFrom_37 : decode cX1_loadFrom 37 = .ok (.aload_n 0, 1) := by decide +kernel
theorem dX1_loadFrom_38 : decode cX1_loadFrom 38 = .ok (.iload 4, 2) := by decide +kernel
theorem dX1_loadFrom_40 : decode cX1_loadFrom 40 = .ok (.putfield 19, 3) := by decide +kernel
theorem dX1_loadFrom_43 : decode cX1_loadFrom 43 = .ok (.aload_n 1, 1) := by decide +kernel
theorem dX1_loadFrom_44 : decode cX1_loadFrom 44 = .ok (.iload_n 3, 1) := by decide +kernel
theorem dX1_loadFrom_45 : decode cX1_loadFrom 45 = .ok (.bipush 8, 2) := by decide +kernel
theorem dX1_loadFrom_47 : decode cX1_loadFrom 47 = .ok (.imul, 1) := by decide +kernel
theorem dX1_loadFrom_48 : decode cX1_loadFrom 48 = .ok (.aload_n 0, 1) := by decide +kernel
theorem dX1_loadFrom_49 : decode cX1_loadFrom 49 = .ok (.getfield 9, 3) := by decide +kernel
theorem dX1_loadFrom_52 : decode cX1_loadFrom 52 = .ok (.iconst 0, 1) := by decide +kernel
theorem dX1_loadFrom_53 : decode cX1_loadFrom 53 = .ok (.bipush 8, 2) := by decide +kernel
theorem dX1_loadFrom_55 : decode cX1_loadFrom 55 = .ok (.invokestatic 48, 3) := by decide +kernel
theorem dX1_loadFrom_58 : decode cX1_loadFrom 58 = .ok (.aload_n 2, 1) := by decide +kernel
theorem dX1_loadFrom_59 : decode cX1_loadFrom 59 = .ok (.iload_n 3, 1) := by decide +kernel
theorem dX1_loadFrom_60 : decode cX1_loadFrom 60 = .ok (.bipush 32, 2) := by decide +kernel
theorem dX1_loadFrom_62 : decode cX1_loadFrom 62 = .ok (.imul, 1) := by decide +kernel
theorem dX1_loadFrom_63 : decode cX1_loadFrom 63 = .ok (.aload_n 0, 1) := by decide +kernel
theorem dX1_loadFrom_64 : decode cX1_loadFrom 64 = .ok (.getfield 15, 3) := by decide +kernel
theorem dX1_loadFrom_67 : decode cX1_loadFrom 67 = .ok (.iconst 0, 1) := by decide +kernel
theorem dX1_loadFrom_68 : decode cX1_loadFrom 68 = .ok (.bipush 32, 2) := by decide +kernel
theorem dX1_loadFrom_70 : decode cX1_loadFrom 70 = .ok (.invokestatic 48, 3) := by decide +kernel
theorem dX1_loadFrom_73 : decode cX1_loadFrom 73 = .ok (.return_, 1) := by decide +kernel
set_option maxRecDepth 20000 in
theorem ggX1_insertNote_X1_mendNumbers : GoodIn wsX1_insertNote wsX1_mendNumbers := goodIn_r _ [13, 4, 14, 15, 16, 12, 17, 18, 19, 20, 21, 1, 3, 22, 23, 24, 25, 26, 27, 28, 29, 30, 31, 32, 44, 45, 46, 47] (by decide +kernel) (by decide +kernel)
set_option maxRecDepth 20000 in
theorem gX1_insertNote_X1_mendNumbers : GoodIn wsX1_insertNote (wsV RX1 54 RX1 yX1_mendNumbers wsX1_mendNumbers) := goodIn_app (goodIn_of _ (by decide +kernel)) ggX1_insertNote_X1_mendNumbers
set_option maxRecDepth 20000 in
theorem ggX1_insertNote_X1_slotOf : GoodIn wsX1_insertNote wsX1_slotOf := goodIn_r _ [35] (by decide +kernel) (by decide +kernel)
set_option maxRecDepth 20000 in
theorem gX1_insertNote_X1_slotOf : GoodIn wsX1_insertNote (va_wsS RX1 30 yX1_slotOf wsX1_slotOf) := goodIn_app (goodIn_of _ (by decide +kernel)) ggX1_insertNote_X1_slotOf
set_option maxRecDepth 20000 in
theorem ggX1_insertNote_X1_rotateNotes : GoodIn wsX1_insertNote wsX1_rotateNotes := goodIn_r _ [39, 40, 41, 42, 12, 43, 3, 4, 33, 34, 35, 44, 45, 46, 47] (by decide +kernel) (by decide +kernel)
set_option maxRecDepth 20000 in
theorem gX1_insertNote_X1_rotateNotes : GoodIn wsX1_insertNote (wsV RX1 58 RX1 yX1_rotateNotes wsX1_rotateNotes) := goodIn_app (goodIn_of _ (by decide +kernel)) ggX1_insertNote_X1_rotateNotes
theorem dX1_insertNote_0 : decode cX1_insertNote 0 = .ok (.aload_n 0, 1) := by decide +kernel
theorem dX1_insertNote_1 : decode cX1_insertNote 1 = .ok (.getfield 19, 3) := by decide +kernel
theorem dX1_insertNote_4 : decode cX1_insertNote 4 = .ok (.bipush 8, 2) := by decide +kernel
theorem dX1_insertNote_6 : decode cX1_insertNote 6 = .ok (.if_icmp .ge 15, 3) := by decide +kernel
theorem dX1_insertNote_9 : decode cX1_insertNote 9 = .ok (.iload_n 1, 1) := by decide +kernel
theorem dX1_insertNote_10 : decode cX1_insertNote 10 = .ok (.ifCond .lt 11, 3) := by decide +kernel
theorem dX1_insertNote_13 : decode cX1_insertNote 13 = .ok (.iload_n 1, 1) := by decide +kernel
theorem dX1_insertNote_14 : decode cX1_insertNote 14 = .ok (.aload_n 0, 1) := by decide +kernel
theorem dX1_insertNote_15 : decode cX1_insertNote 15 = .ok (.getfield 19, 3) := by decide +kernel
theorem dX1_insertNote_18 : decode cX1_insertNote 18 = .ok (.if_icmp .le 4, 3) := by decide +kernel
theorem dX1_insertNote_21 : decode cX1_insertNote 21 = .ok (.return_, 1) := by decide +kernel
theorem dX1_insertNote_22 : decode cX1_insertNote 22 = .ok (.aload_n 0, 1) := by decide +kernel
theorem dX1_insertNote_23 : decode cX1_insertNote 23 = .ok (.dup, 1) := by decide +kernel
theorem dX1_insertNote_24 : decode cX1_insertNote 24 = .ok (.getfield 23, 3) := by decide +kernel
theorem dX1_insertNote_27 : decode cX1_insertNote 27 = .ok (.iconst 1, 1) := by decide +kernel
theorem dX1_insertNote_28 : decode cX1_insertNote 28 = .ok (.iadd, 1) := by decide +kernel
theorem dX1_insertNote_29 : decode cX1_insertNote 29 = .ok (.putfield 23, 3) := by decide +kernel
theorem dX1_insertNote_32 : decode cX1_insertNote 32 = .ok (.iload_n 3, 1) := by decide +kernel
theorem dX1_insertNote_33 : decode cX1_insertNote 33 = .ok (.iconst 1, 1) := by decide +kernel
theorem dX1_insertNote_34 : decode cX1_insertNote 34 = .ok (.if_icmp .ne 19, 3) := by decide +kernel
theorem dX1_insertNote_37 : decode cX1_insertNote 37 = .ok (.aload_n 0, 1) := by decide +kernel
theorem dX1_insertNote_38 : decode cX1_insertNote 38 = .ok (.iload_n 1, 1) := by decide +kernel
theorem dX1_insertNote_39 : decode cX1_insertNote 39 = .ok (.aload_n 0, 1) := by decide +kernel
theorem dX1_insertNote_40 : decode cX1_insertNote 40 = .ok (.getfield 19, 3) := by decide +kernel
theorem dX1_insertNote_43 : decode cX1_insertNote 43 = .ok (.iconst 1, 1) := by decide +kernel
theorem dX1_insertNote_44 : decode cX1_insertNote 44 = .ok (.isub, 1) := by decide +kernel
theorem dX1_insertNote_45 : decode cX1_insertNote 45 = .ok (.iconst 1, 1) := by decide +kernel
theorem dX1_insertNote_46 : decode cX1_insertNote 46 = .ok (.bipush (-9), 2) := by decide +kernel
theorem dX1_insertNote_48 : decode cX1_insertNote 48 = .ok (.bipush (-9), 2) := by decide +kernel
theorem dX1_insertNote_50 : decode cX1_insertNote 50 = .ok (.invokevirtual 54, 3) := by decide +kernel
theorem dX1_insertNote_53 : decode cX1_insertNote 53 = .ok (.aload_n 0, 1) := by decide +kernel
theorem dX1_insertNote_54 : decode cX1_insertNote 54 = .ok (.getfield 9, 3) := by decide +kernel
theorem dX1_insertNote_57 : decode cX1_insertNote 57 = .ok (.aload_n 0, 1) := by decide +kernel
theorem dX1_insertNote_58 : decode cX1_insertNote 58 = .ok (.getfield 19, 3) := by decide +kernel
theorem dX1_insertNote_61 : decode cX1_insertNote 61 = .ok (.aload_n 2, 1) := by decide +kernel
theorem dX1_insertNote_62 : decode cX1_insertNote 62 = .ok (.getfield 9, 3) := by decide +kernel
theorem dX1_insertNote_65 : decode cX1_insertNote 65 = .ok (.iconst 0, 1) := by decide +kernel
theorem dX1_insertNote_66 : decode cX1_insertNote 66 = .ok (.iaload, 1) := by decide +kernel
theorem dX1_insertNote_67 : decode cX1_insertNote 67 = .ok (.iastore, 1) := by decide +kernel
theorem dX1_insertNote_68 : decode cX1_insertNote 68 = .ok (.aload_n 2, 1) := by decide +kernel
theorem dX1_insertNote_69 : decode cX1_insertNote 69 = .ok (.getfield 15, 3) := by decide +kernel
theorem dX1_insertNote_72 : decode cX1_insertNote 72 = .ok (.iconst 0, 1) := by decide +kernel
theorem dX1_insertNote_73 : decode cX1_insertNote 73 = .ok (.aload_n 0, 1) := by decide +kernel
theorem dX1_insertNote_74 : decode cX1_insertNote 74 = .ok (.getfield 15, 3) := by decide +kernel
theorem dX1_insertNote_77 : decode cX1_insertNote 77 = .ok (.aload_n 0, 1) := by decide +kernel
theorem dX1_insertNote_78 : decode cX1_insertNote 78 = .ok (.getfield 19, 3) := by decide +kernel
theorem dX1_insertNote_81 : decode cX1_insertNote 81 = .ok (.iconst 0, 1) := by decide +kernel
theorem dX1_insertNote_82 : decode cX1_insertNote 82 = .ok (.invokestatic 30, 3) := by decide +kernel
theorem dX1_insertNote_85 : decode cX1_insertNote 85 = .ok (.iconst 4, 1) := by decide +kernel
theorem dX1_insertNote_86 : decode cX1_insertNote 86 = .ok (.invokestatic 48, 3) := by decide +kernel
theorem dX1_insertNote_89 : decode cX1_insertNote 89 = .ok (.aload_n 0, 1) := by decide +kernel
theorem dX1_insertNote_90 : decode cX1_insertNote 90 = .ok (.dup, 1) := by decide +kernel
theorem dX1_insertNote_91 : decode cX1_insertNote 91 = .ok (.getfield 19, 3) := by decide +kernel
theorem dX1_insertNote_94 : decode cX1_insertNote 94 = .ok (.iconst 1, 1) := by decide +kernel
theorem dX1_insertNote_95 : decode cX1_insertNote 95 = .ok (.iadd, 1) := by decide +kernel
theorem dX1_insertNote_96 : decode cX1_insertNote 96 = .ok (.putfield 19, 3) := by decide +kernel
theorem dX1_insertNote_99 : decode cX1_insertNote 99 = .ok (.aload_n 0, 1) := by decide +kernel
theorem dX1_insertNote_100 : decode cX1_insertNote 100 = .ok (.aload_n 0, 1) := by decide +kernel
theorem dX1_insertNote_101 : decode cX1_insertNote 101 = .ok (.getfield 19, 3) := by decide +kernel
theorem dX1_insertNote_104 : decode cX1_insertNote 104 = .ok (.iconst 1, 1) := by decide +kernel
theorem dX1_insertNote_105 : decode cX1_insertNote 105 = .ok (.isub, 1) := by decide +kernel
theorem dX1_insertNote_106 : decode cX1_insertNote 106 = .ok (.iload_n 1, 1) := by decide +kernel
theorem dX1_insertNote_107 : decode cX1_insertNote 107 = .ok (.invokevirtual 58, 3) := by decide +kernel
theorem dX1_insertNote_110 : decode cX1_insertNote 110 = .ok (.return_, 1) := by decide +kernel
set_option maxRecDepth 20000 in
theorem ggX1_dropNote_X1_hasNote : GoodIn wsX1_dropNote wsX1_hasNote := goodIn_r _ [7, 2, 44, 45, 46, 47] (by decide +kernel) (by decide +kernel)
set_option maxRecDepth 20000 in
theorem gX1_dropNote_X1_hasNote : GoodIn wsX1_dropNote (wsV RX1 62 RX1 yX1_hasNote wsX1_hasNote) := goodIn_app (goodIn_of _ (by decide +kernel)) ggX1_dropNote_X1_hasNote
set_option maxRecDepth 20000 in
theorem ggX1_dropNote_X1_mendNumbers : GoodIn wsX1_dropNote wsX1_mendNumbers := goodIn_r _ [11, 12, 13, 14, 15, 6, 16, 17, 18, 19, 20, 2, 21, 22, 23, 24, 25, 26, 27, 28, 29, 30, 31, 32, 44, 45, 46, 47] (by decide +kernel) (by decide +kernel)
set_option maxRecDepth 20000 in
theorem gX1_dropNote_X1_mendNumbers : GoodIn wsX1_dropNote (wsV RX1 54 RX1 yX1_mendNumbers wsX1_mendNumbers) := goodIn_app (goodIn_of _ (by decide +kernel)) ggX1_dropNote_X1_mendNumbers
set_option maxRecDepth 20000 in
theorem ggX1_dropNote_X1_rotateNotes : GoodIn wsX1_dropNote wsX1_rotateNotes := goodIn_r _ [36, 37, 38, 39, 6, 40, 21, 12, 41, 42, 43, 44, 45, 46, 47] (by decide +kernel) (by decide +kernel)
set_option maxRecDepth 20000 in
theorem gX1_dropNote_X1_rotateNotes : GoodIn wsX1_dropNote (wsV RX1 58 RX1 yX1_rotateNotes wsX1_rotateNotes) := goodIn_app (goodIn_of _ (by decide +kernel)) ggX1_dropNote_X1_rotateNotes
theorem dX1_dropNote_0 : decode cX1_dropNote 0 = .ok (.aload_n 0, 1) := by decide +kernel
theorem dX1_dropNote_1 : decode cX1_dropNote 1 = .ok (.iload_n 1, 1) := by decide +kernel
theorem dX1_dropNote_2 : decode cX1_dropNote 2 = .ok (.invokevirtual 62, 3) := by decide +kernel
theorem dX1_dropNote_5 : decode cX1_dropNote 5 = .ok (.ifCond .ne 4, 3) := by decide +kernel
theorem dX1_dropNote_8 : decode cX1_dropNote 8 = .ok (.return_, 1) := by decide +kernel
theorem dX1_dropNote_9 : decode cX1_dropNote 9 = .ok (.aload_n 0, 1) := by decide +kernel
theorem dX1_dropNote_10 : decode cX1_dropNote 10 = .ok (.dup, 1) := by decide +kernel
theorem dX1_dropNote_11 : decode cX1_dropNote 11 = .ok (.getfield 23, 3) := by decide +kernel
theorem dX1_dropNote_14 : decode cX1_dropNote 14 = .ok (.iconst 1, 1) := by decide +kernel
theorem dX1_dropNote_15 : decode cX1_dropNote 15 = .ok (.iadd, 1) := by decide +kernel
theorem dX1_dropNote_16 : decode cX1_dropNote 16 = .ok (.putfield 23, 3) := by decide +kernel
theorem dX1_dropNote_19 : decode cX1_dropNote 19 = .ok (.iload_n 2, 1) := by decide +kernel
theorem dX1_dropNote_20 : decode cX1_dropNote 20 = .ok (.iconst 1, 1) := by decide +kernel
theorem dX1_dropNote_21 : decode cX1_dropNote 21 = .ok (.if_icmp .ne 21, 3) := by decide +kernel
theorem dX1_dropNote_24 : decode cX1_dropNote 24 = .ok (.aload_n 0, 1) := by decide +kernel
theorem dX1_dropNote_25 : decode cX1_dropNote 25 = .ok (.iload_n 1, 1) := by decide +kernel
theorem dX1_dropNote_26 : decode cX1_dropNote 26 = .ok (.iconst 1, 1) := by decide +kernel
theorem dX1_dropNote_27 : decode cX1_dropNote 27 = .ok (.iadd, 1) := by decide +kernel
theorem dX1_dropNote_28 : decode cX1_dropNote 28 = .ok (.aload_n 0, 1) := by decide +kernel
theorem dX1_dropNote_29 : decode cX1_dropNote 29 = .ok (.getfield 19, 3) := by decide +kernel
theorem dX1_dropNote_32 : decode cX1_dropNote 32 = .ok (.iconst 1, 1) := by decide +kernel
theorem dX1_dropNote_33 : decode cX1_dropNote 33 = .ok (.isub, 1) := by decide +kernel
theorem dX1_dropNote_34 : decode cX1_dropNote 34 = .ok (.iconst (-1), 1) := by decide +kernel
theorem dX1_dropNote_35 : decode cX1_dropNote 35 = .ok (.bipush (-9), 2) := by decide +kernel
theorem dX1_dropNote_37 : decode cX1_dropNote 37 = .ok (.bipush (-9), 2) := by decide +kernel
theorem dX1_dropNote_39 : decode cX1_dropNote 39 = .ok (.invokevirtual 54, 3) := by decide +kernel
theorem dX1_dropNote_42 : decode cX1_dropNote 42 = .ok (.aload_n 0, 1) := by decide +kernel
theorem dX1_dropNote_43 : decode cX1_dropNote 43 = .ok (.iload_n 1, 1) := by decide +kernel
theorem dX1_dropNote_44 : decode cX1_dropNote 44 = .ok (.aload_n 0, 1) := by decide +kernel
theorem dX1_dropNote_45 : decode cX1_dropNote 45 = .ok (.getfield 19, 3) := by decide +kernel
theorem dX1_dropNote_48 : decode cX1_dropNote 48 = .ok (.iconst 1, 1) := by decide +kernel
theorem dX1_dropNote_49 : decode cX1_dropNote 49 = .ok (.isub, 1) := by decide +kernel
theorem dX1_dropNote_50 : decode cX1_dropNote 50 = .ok (.invokevirtual 58, 3) := by decide +kernel
theorem dX1_dropNote_53 : decode cX1_dropNote 53 = .ok (.aload_n 0, 1) := by decide +kernel
theorem dX1_dropNote_54 : decode cX1_dropNote 54 = .ok (.dup, 1) := by decide +kernel
theorem dX1_dropNote_55 : decode cX1_dropNote 55 = .ok (.getfield 19, 3) := by decide +kernel
theorem dX1_dropNote_58 : decode cX1_dropNote 58 = .ok (.iconst 1, 1) := by decide +kernel
theorem dX1_dropNote_59 : decode cX1_dropNote 59 = .ok (.isub, 1) := by decide +kernel
theorem dX1_dropNote_60 : decode cX1_dropNote 60 = .ok (.putfield 19, 3) := by decide +kernel
theorem dX1_dropNote_63 : decode cX1_dropNote 63 = .ok (.return_, 1) := by decide +kernel
set_option maxRecDepth 20000 in
theorem ggX1_shiftNote_X1_hasNote : GoodIn wsX1_shiftNote wsX1_hasNote := goodIn_r _ [6, 7, 44, 45, 46, 47] (by decide +kernel) (by decide +kernel)
set_option maxRecDepth 20000 in
theorem gX1_shiftNote_X1_hasNote : GoodIn wsX1_shiftNote (wsV RX1 62 RX1 yX1_hasNote wsX1_hasNote) := goodIn_app (goodIn_of _ (by decide +kernel)) ggX1_shiftNote_X1_hasNote
set_option maxRecDepth 20000 in
theorem ggX1_shiftNote_X1_mendNumbers : GoodIn wsX1_shiftNote wsX1_mendNumbers := goodIn_r _ [11, 12, 13, 14, 15, 5, 16, 17, 18, 19, 20, 7, 21, 22, 23, 24, 25, 26, 27, 28, 29, 30, 31, 32, 44, 45, 46, 47] (by decide +kernel) (by decide +kernel)
set_option maxRecDepth 20000 in
theorem gX1_shiftNote_X1_mendNumbers : GoodIn wsX1_shiftNote (wsV RX1 54 RX1 yX1_mendNumbers wsX1_mendNumbers) := goodIn_app (goodIn_of _ (by decide +kernel)) ggX1_shiftNote_X1_mendNumbers
set_option maxRecDepth 20000 in
theorem ggX1_shiftNote_X1_rotateNotes : GoodIn wsX1_shiftNote wsX1_rotateNotes := goodIn_r _ [36, 37, 38, 39, 5, 40, 21, 12, 41, 42, 43, 44, 45, 46, 47] (by decide +kernel) (by decide +kernel)
set_option maxRecDepth 20000 in
theorem gX1_shiftNote_X1_rotateNotes : GoodIn wsX1_shiftNote (wsV RX1 58 RX1 yX1_rotateNotes wsX1_rotateNotes) := goodIn_app (goodIn_of _ (by decide +kernel)) ggX1_shiftNote_X1_rotateNotes
theorem dX1_shiftNote_0 : decode cX1_shiftNote 0 = .ok (.aload_n 0, 1) := by decide +kernel
theorem dX1_shiftNote_1 : decode cX1_shiftNote 1 = .ok (.iload_n 1, 1) := by decide +kernel
theorem dX1_shiftNote_2 : decode cX1_shiftNote 2 = .ok (.invokevirtual 62, 3) := by decide +kernel
theorem dX1_shiftNote_5 : decode cX1_shiftNote 5 = .ok (.ifCond .eq 11, 3) := by decide +kernel
theorem dX1_shiftNote_8 : decode cX1_shiftNote 8 = .ok (.aload_n 0, 1) := by decide +kernel
theorem dX1_shiftNote_9 : decode cX1_shiftNote 9 = .ok (.iload_n 2, 1) := by decide +kernel
theorem dX1_shiftNote_10 : decode cX1_shiftNote 10 = .ok (.invokevirtual 62, 3) := by decide +kernel
theorem dX1_shiftNote_13 : decode cX1_shiftNote 13 = .ok (.ifCond .ne 4, 3) := by decide +kernel
theorem dX1_shiftNote_16 : decode cX1_shiftNote 16 = .ok (.return_, 1) := by decide +kernel
theorem dX1_shiftNote_17 : decode cX1_shiftNote 17 = .ok (.aload_n 0, 1) := by decide +kernel
theorem dX1_shiftNote_18 : decode cX1_shiftNote 18 = .ok (.dup, 1) := by decide +kernel
theorem dX1_shiftNote_19 : decode cX1_shiftNote 19 = .ok (.getfield 23, 3) := by decide +kernel
theorem dX1_shiftNote_22 : decode cX1_shiftNote 22 = .ok (.iconst 1, 1) := by decide +kernel
theorem dX1_shiftNote_23 : decode cX1_shiftNote 23 = .ok (.iadd, 1) := by decide +kernel
theorem dX1_shiftNote_24 : decode cX1_shiftNote 24 = .ok (.putfield 23, 3) := by decide +kernel
theorem dX1_shiftNote_27 : decode cX1_shiftNote 27 = .ok (.iload_n 3, 1) := by decide +kernel
theorem dX1_shiftNote_28 : decode cX1_shiftNote 28 = .ok (.iconst 1, 1) := by decide +kernel
theorem dX1_shiftNote_29 : decode cX1_shiftNote 29 = .ok (.if_icmp .ne 19, 3) := by decide +kernel
theorem dX1_shiftNote_32 : decode cX1_shiftNote 32 = .ok (.iload_n 1, 1) := by decide +kernel
theorem dX1_shiftNote_33 : decode cX1_shiftNote 33 = .ok (.iload_n 2, 1) := by decide +kernel
theorem dX1_shiftNote_34 : decode cX1_shiftNote 34 = .ok (.if_icmp .ge 14, 3) := by decide +kernel
theorem dX1_shiftNote_37 : decode cX1_shiftNote 37 = .ok (.aload_n 0, 1) := by decide +kernel
theorem dX1_shiftNote_38 : decode cX1_shiftNote 38 = .ok (.iload_n 1, 1) := by decide +kernel
theorem dX1_shiftNote_39 : decode cX1_shiftNote 39 = .ok (.iconst 1, 1) := by decide +kernel
theorem dX1_shiftNote_40 : decode cX1_shiftNote 40 = .ok (.iadd, 1) := by decide +kernel
theorem dX1_shiftNote_41 : decode cX1_shiftNote 41 = .ok (.iload_n 2, 1) := by decide +kernel
theorem dX1_shiftNote_42 : decode cX1_shiftNote 42 = .ok (.iconst (-1), 1) := by decide +kernel
theorem dX1_shiftNote_43 : decode cX1_shiftNote 43 = .ok (.iload_n 1, 1) := by decide +kernel
theorem dX1_shiftNote_44 : decode cX1_shiftNote 44 = .ok (.iload_n 2, 1) := by decide +kernel
theorem dX1_shiftNote_45 : decode cX1_shiftNote 45 = .ok (.invokevirtual 54, 3) := by decide +kernel
theorem dX1_shiftNote_48 : decode cX1_shiftNote 48 = .ok (.iload_n 3, 1) := by decide +kernel
theorem dX1_shiftNote_49 : decode cX1_shiftNote 49 = .ok (.iconst 1, 1) := by decide +kernel
theorem dX1_shiftNote_50 : decode cX1_shiftNote 50 = .ok (.if_icmp .ne 19, 3) := by decide +kernel
theorem dX1_shiftNote_53 : decode cX1_shiftNote 53 = .ok (.iload_n 1, 1) := by decide +kernel
theorem dX1_shiftNote_54 : decode cX1_shiftNote 54 = .ok (.iload_n 2, 1) := by decide +kernel
theorem dX1_shiftNote_55 : decode cX1_shiftNote 55 = .ok (.if_icmp .le 14, 3) := by decide +kernel
theorem dX1_shiftNote_58 : decode cX1_shiftNote 58 = .ok (.aload_n 0, 1) := by decide +kernel
theorem dX1_shiftNote_59 : decode cX1_shiftNote 59 = .ok (.iload_n 2, 1) := by decide +kernel
theorem dX1_shiftNote_60 : decode cX1_shiftNote 60 = .ok (.iload_n 1, 1) := by decide +kernel
theorem dX1_shiftNote_61 : decode cX1_shiftNote 61 = .ok (.iconst 1, 1) := by decide +kernel
theorem dX1_shiftNote_62 : decode cX1_shiftNote 62 = .ok (.isub, 1) := by decide +kernel
theorem dX1_shiftNote_63 : decode cX1_shiftNote 63 = .ok (.iconst 1, 1) := by decide +kernel
theorem dX1_shiftNote_64 : decode cX1_shiftNote 64 = .ok (.iload_n 1, 1) := by decide +kernel
theorem dX1_shiftNote_65 : decode cX1_shiftNote 65 = .ok (.iload_n 2, 1) := by decide +kernel
theorem dX1_shiftNote_66 : decode cX1_shiftNote 66 = .ok (.invokevirtual 54, 3) := by decide +kernel
theorem dX1_shiftNote_69 : decode cX1_shiftNote 69 = .ok (.aload_n 0, 1) := by decide +kernel
theorem dX1_shiftNote_70 : decode cX1_shiftNote 70 = .ok (.iload_n 1, 1) := by decide +kernel
theorem dX1_shiftNote_71 : decode cX1_shiftNote 71 = .ok (.iload_n 2, 1) := by decide +kernel
theorem dX1_shiftNote_72 : decode cX1_shiftNote 72 = .ok (.invokevirtual 58, 3) := by decide +kernel
theorem dX1_shiftNote_75 : decode cX1_shiftNote 75 = .ok (.return_, 1) := by decide +kernel
set_option maxRecDepth 20000 in
theorem ggX1_mendNumbers_X1_hasSlot : GoodIn wsX1_mendNumbers wsX1_hasSlot := goodIn_r _ [6, 7, 8, 9, 5, 10, 11, 12, 24, 25, 26, 27] (by decide +kernel) (by decide +kernel)
set_option maxRecDepth 20000 in
theorem gX1_mendNumbers_X1_hasSlot : GoodIn wsX1_mendNumbers (wsV RX1 66 RX1 yX1_hasSlot wsX1_hasSlot) := goodIn_app (goodIn_of _ (by decide +kernel)) ggX1_mendNumbers_X1_hasSlot
set_option maxRecDepth 20000 in
theorem ggX1_mendNumbers_X0_form : GoodIn wsX1_mendNumbers wsX0_form := goodIn_r _ [16] (by decide +kernel) (by decide +kernel)
set_option maxRecDepth 20000 in
theorem gX1_mendNumbers_X0_form : GoodIn wsX1_mendNumbers (va_wsS RX1 38 yX0_form wsX0_form) := goodIn_app (goodIn_of _ (by decide +kernel)) ggX1_mendNumbers_X0_form
set_option maxRecDepth 20000 in
theorem ggX1_mendNumbers_X0_number : GoodIn wsX1_mendNumbers wsX0_number := goodIn_r _ [19] (by decide +kernel) (by decide +kernel)
set_option maxRecDepth 20000 in
theorem gX1_mendNumbers_X0_number : GoodIn wsX1_mendNumbers (va_wsS RX1 69 yX0_number wsX0_number) := goodIn_app (goodIn_of _ (by decide +kernel)) ggX1_mendNumbers_X0_number
set_option maxRecDepth 20000 in
theorem ggX1_mendNumbers_X0_withNumber : GoodIn wsX1_mendNumbers wsX0_withNumber := goodIn_r _ [22, 23] (by decide +kernel) (by decide +kernel)
set_option maxRecDepth 20000 in
theorem gX1_mendNumbers_X0_withNumber : GoodIn wsX1_mendNumbers (va_wsS RX1 72 yX0_withNumber wsX0_withNumber) := goodIn_app (goodIn_of _ (by decide +kernel)) ggX1_mendNumbers_X0_withNumber
theorem dX1_mendNumbers_0 : decode cX1_mendNumbers 0 = .ok (.iconst 0, 1) := by decide +kernel
theorem dX1_mendNumbers_1 : decode cX1_mendNumbers 1 = .ok (.istore 6, 2) := by decide +kernel
theorem dX1_mendNumbers_3 : decode cX1_mendNumbers 3 = .ok (.iload 6, 2) := by decide +kernel
theorem dX1_mendNumbers_5 : decode cX1_mendNumbers 5 = .ok (.bipush 32, 2) := by decide +kernel
theorem dX1_mendNumbers_7 : decode cX1_mendNumbers 7 = .ok (.if_icmp .ge 109, 3) := by decide +kernel
theorem dX1_mendNumbers_10 : decode cX1_mendNumbers 10 = .ok (.aload_n 0, 1) := by decide +kernel
theorem dX1_mendNumbers_11 : decode cX1_mendNumbers 11 = .ok (.iload 6, 2) := by decide +kernel
theorem dX1_mendNumbers_13 : decode cX1_mendNumbers 13 = .ok (.invokevirtual 66, 3) := by decide +kernel
theorem dX1_mendNumbers_16 : decode cX1_mendNumbers 16 = .ok (.ifCond .eq 94, 3) := by decide +kernel
theorem dX1_mendNumbers_19 : decode cX1_mendNumbers 19 = .ok (.aload_n 0, 1) := by decide +kernel
theorem dX1_mendNumbers_20 : decode cX1_mendNumbers 20 = .ok (.getfield 15, 3) := by decide +kernel
theorem dX1_mendNumbers_23 : decode cX1_mendNumbers 23 = .ok (.iload 6, 2) := by decide +kernel
theorem dX1_mendNumbers_25 : decode cX1_mendNumbers 25 = .ok (.laload, 1) := by decide +kernel
theorem dX1_mendNumbers_26 : decode cX1_mendNumbers 26 = .ok (.invokestatic 38, 3) := by decide +kernel
theorem dX1_mendNumbers_29 : decode cX1_mendNumbers 29 = .ok (.iconst 3, 1) := by decide +kernel
theorem dX1_mendNumbers_30 : decode cX1_mendNumbers 30 = .ok (.if_icmp .eq 6, 3) := by decide +kernel
theorem dX1_mendNumbers_33 : decode cX1_mendNumbers 33 = .ok (.goto 77, 3) := by decide +kernel
theorem dX1_mendNumbers_36 : decode cX1_mendNumbers 36 = .ok (.aload_n 0, 1) := by decide +kernel
theorem dX1_mendNumbers_37 : decode cX1_mendNumbers 37 = .ok (.getfield 15, 3) := by decide +kernel
theorem dX1_mendNumbers_40 : decode cX1_mendNumbers 40 = .ok (.iload 6, 2) := by decide +kernel
theorem dX1_mendNumbers_42 : decode cX1_mendNumbers 42 = .ok (.laload, 1) := by decide +kernel
theorem dX1_mendNumbers_43 : decode cX1_mendNumbers 43 = .ok (.invokestatic 69, 3) := by decide +kernel
theorem dX1_mendNumbers_46 : decode cX1_mendNumbers 46 = .ok (.istore 7, 2) := by decide +kernel
theorem dX1_mendNumbers_48 : decode cX1_mendNumbers 48 = .ok (.iload 7, 2) := by decide +kernel
theorem dX1_mendNumbers_50 : decode cX1_mendNumbers 50 = .ok (.iload 4, 2) := by decide +kernel
theorem dX1_mendNumbers_52 : decode cX1_mendNumbers 52 = .ok (.if_icmp .ne 25, 3) := by decide +kernel
theorem dX1_mendNumbers_55 : decode cX1_mendNumbers 55 = .ok (.aload_n 0, 1) := by decide +kernel
theorem dX1_mendNumbers_56 : decode cX1_mendNumbers 56 = .ok (.getfield 15, 3) := by decide +kernel
theorem dX1_mendNumbers_59 : decode cX1_mendNumbers 59 = .ok (.iload 6, 2) := by decide +kernel
theorem dX1_mendNumbers_61 : decode cX1_mendNumbers 61 = .ok (.aload_n 0, 1) := by decide +kernel
theorem dX1_mendNumbers_62 : decode cX1_mendNumbers 62 = .ok (.getfield 15, 3) := by decide +kernel
theorem dX1_mendNumbers_65 : decode cX1_mendNumbers 65 = .ok (.iload 6, 2) := by decide +kernel
theorem dX1_mendNumbers_67 : decode cX1_mendNumbers 67 = .ok (.laload, 1) := by decide +kernel
theorem dX1_mendNumbers_68 : decode cX1_mendNumbers 68 = .ok (.iload 5, 2) := by decide +kernel
theorem dX1_mendNumbers_70 : decode cX1_mendNumbers 70 = .ok (.invokestatic 72, 3) := by decide +kernel
theorem dX1_mendNumbers_73 : decode cX1_mendNumbers 73 = .ok (.lastore, 1) := by decide +kernel
theorem dX1_mendNumbers_74 : decode cX1_mendNumbers 74 = .ok (.goto 36, 3) := by decide +kernel
theorem dX1_mendNumbers_77 : decode cX1_mendNumbers 77 = .ok (.iload 7, 2) := by decide +kernel
theorem dX1_mendNumbers_79 : decode cX1_mendNumbers 79 = .ok (.iload_n 1, 1) := by decide +kernel
theorem dX1_mendNumbers_80 : decode cX1_mendNumbers 80 = .ok (.if_icmp .lt 30, 3) := by decide +kernel
theorem dX1_mendNumbers_83 : decode cX1_mendNumbers 83 = .ok (.iload 7, 2) := by decide +kernel
theorem dX1_mendNumbers_85 : decode cX1_mendNumbers 85 = .ok (.iload_n 2, 1) := by decide +kernel
theorem dX1_mendNumbers_86 : decode cX1_mendNumbers 86 = .ok (.if_icmp .gt 24, 3) := by decide +kernel
theorem dX1_mendNumbers_89 : decode cX1_mendNumbers 89 = .ok (.aload_n 0, 1) := by decide +kernel
theorem dX1_mendNumbers_90 : decode cX1_mendNumbers 90 = .ok (.getfield 15, 3) := by decide +kernel
theorem dX1_mendNumbers_93 : decode cX1_mendNumbers 93 = .ok (.iload 6, 2) := by decide +kernel
theorem dX1_mendNumbers_95 : decode cX1_mendNumbers 95 = .ok (.aload_n 0, 1) := by decide +kernel
theorem dX1_mendNumbers_96 : decode cX1_mendNumbers 96 = .ok (.getfield 15, 3) := by decide +kernel
theorem dX1_mendNumbers_99 : decode cX1_mendNumbers 99 = .ok (.iload 6, 2) := by decide +kernel
theorem dX1_mendNumbers_101 : decode cX1_mendNumbers 101 = .ok (.laload, 1) := by decide +kernel
theorem dX1_mendNumbers_102 : decode cX1_mendNumbers 102 = .ok (.iload 7, 2) := by decide +kernel
theorem dX1_mendNumbers_104 : decode cX1_mendNumbers 104 = .ok (.iload_n 3, 1) := by decide +kernel
theorem dX1_mendNumbers_105 : decode cX1_mendNumbers 105 = .ok (.iadd, 1) := by decide +kernel
theorem dX1_mendNumbers_106 : decode cX1_mendNumbers 106 = .ok (.invokestatic 72, 3) := by decide +kernel
theorem dX1_mendNumbers_109 : decode cX1_mendNumbers 109 = .ok (.lastore, 1) := by decide +kernel
theorem dX1_mendNumbers_110 : decode cX1_mendNumbers 110 = .ok (.iinc 6 1, 3) := by decide +kernel
theorem dX1_mendNumbers_113 : decode cX1_mendNumbers 113 = .ok (.goto (-110), 3) := by decide +kernel
theorem dX1_mendNumbers_116 : decode cX1_mendNumbers 116 = .ok (.return_, 1) := by decide +kernel
set_option maxRecDepth 20000 in
theorem ggX1_rotateNotes_X1_swapWithNext : GoodIn wsX1_rotateNotes wsX1_swapWithNext := goodIn_r _ [5, 6, 7, 8, 9, 4, 10, 11, 12, 13, 14] (by decide +kernel) (by decide +kernel)
set_option maxRecDepth 20000 in
theorem gX1_rotateNotes_X1_swapWithNext : GoodIn wsX1_rotateNotes (wsV RX1 76 RX1 yX1_swapWithNext wsX1_swapWithNext) := goodIn_app (goodIn_of _ (by decide +kernel)) ggX1_rotateNotes_X1_swapWithNext
theorem dX1_rotateNotes_0 : decode cX1_rotateNotes 0 = .ok (.iload_n 1, 1) := by decide +kernel
theorem dX1_rotateNotes_1 : decode cX1_rotateNotes 1 = .ok (.istore_n 3, 1) := by decide +kernel
theorem dX1_rotateNotes_2 : decode cX1_rotateNotes 2 = .ok (.iload_n 3, 1) := by decide +kernel
theorem dX1_rotateNotes_3 : decode cX1_rotateNotes 3 = .ok (.iload_n 2, 1) := by decide +kernel
theorem dX1_rotateNotes_4 : decode cX1_rotateNotes 4 = .ok (.if_icmp .ge 14, 3) := by decide +kernel
theorem dX1_rotateNotes_7 : decode cX1_rotateNotes 7 = .ok (.aload_n 0, 1) := by decide +kernel
theorem dX1_rotateNotes_8 : decode cX1_rotateNotes 8 = .ok (.iload_n 3, 1) := by decide +kernel
theorem dX1_rotateNotes_9 : decode cX1_rotateNotes 9 = .ok (.invokevirtual 76, 3) := by decide +kernel
theorem dX1_rotateNotes_12 : decode cX1_rotateNotes 12 = .ok (.iinc 3 1, 3) := by decide +kernel
theorem dX1_rotateNotes_15 : decode cX1_rotateNotes 15 = .ok (.goto (-13), 3) := by decide +kernel
theorem dX1_rotateNotes_18 : decode cX1_rotateNotes 18 = .ok (.iload_n 1, 1) := by decide +kernel
theorem dX1_rotateNotes_19 : decode cX1_rotateNotes 19 = .ok (.iconst 1, 1) := by decide +kernel
theorem dX1_rotateNotes_20 : decode cX1_rotateNotes 20 = .ok (.isub, 1) := by decide +kernel
theorem dX1_rotateNotes_21 : decode cX1_rotateNotes 21 = .ok (.istore_n 3, 1) := by decide +kernel
theorem dX1_rotateNotes_22 : decode cX1_rotateNotes 22 = .ok (.iload_n 3, 1) := by decide +kernel
theorem dX1_rotateNotes_23 : decode cX1_rotateNotes 23 = .ok (.iload_n 2, 1) := by decide +kernel
theorem dX1_rotateNotes_24 : decode cX1_rotateNotes 24 = .ok (.if_icmp .lt 14, 3) := by decide +kernel
theorem dX1_rotateNotes_27 : decode cX1_rotateNotes 27 = .ok (.aload_n 0, 1) := by decide +kernel
theorem dX1_rotateNotes_28 : decode cX1_rotateNotes 28 = .ok (.iload_n 3, 1) := by decide +kernel
theorem dX1_rotateNotes_29 : decode cX1_rotateNotes 29 = .ok (.invokevirtual 76, 3) := by decide +kernel
theorem dX1_rotateNotes_32 : decode cX1_rotateNotes 32 = .ok (.iinc 3 (-1), 3) := by decide +kernel
theorem dX1_rotateNotes_35 : decode cX1_rotateNotes 35 = .ok (.goto (-13), 3) := by decide +kernel
theorem dX1_rotateNotes_38 : decode cX1_rotateNotes 38 = .ok (.return_, 1) := by decide +kernel
set_option maxRecDepth 20000 in
theorem ggX1_swapWithNext_X1_slotOf : GoodIn wsX1_swapWithNext wsX1_slotOf := goodIn_r _ [6] (by decide +kernel) (by decide +kernel)
set_option maxRecDepth 20000 in
theorem gX1_swapWithNext_X1_slotOf : GoodIn wsX1_swapWithNext (va_wsS RX1 30 yX1_slotOf wsX1_slotOf) := goodIn_app (goodIn_of _ (by decide +kernel)) ggX1_swapWithNext_X1_slotOf
theorem dX1_swapWithNext_0 : decode cX1_swapWithNext 0 = .ok (.iload_n 1, 1) := by decide +kernel
theorem dX1_swapWithNext_1 : decode cX1_swapWithNext 1 = .ok (.ifCond .lt 9, 3) := by decide +kernel
theorem dX1_swapWithNext_4 : decode cX1_swapWithNext 4 = .ok (.iload_n 1, 1) := by decide +kernel
theorem dX1_swapWithNext_5 : decode cX1_swapWithNext 5 = .ok (.bipush 7, 2) := by decide +kernel
theorem dX1_swapWithNext_7 : decode cX1_swapWithNext 7 = .ok (.if_icmp .lt 4, 3) := by decide +kernel
theorem dX1_swapWithNext_10 : decode cX1_swapWithNext 10 = .ok (.return_, 1) := by decide +kernel
theorem dX1_swapWithNext_11 : decode cX1_swapWithNext 11 = .ok (.aload_n 0, 1) := by decide +kernel
theorem dX1_swapWithNext_12 : decode cX1_swapWithNext 12 = .ok (.getfield 9, 3) := by decide +kernel
theorem dX1_swapWithNext_15 : decode cX1_swapWithNext 15 = .ok (.iload_n 1, 1) := by decide +kernel
theorem dX1_swapWithNext_16 : decode cX1_swapWithNext 16 = .ok (.iaload, 1) := by decide +kernel
theorem dX1_swapWithNext_17 : decode cX1_swapWithNext 17 = .ok (.istore_n 2, 1) := by decide +kernel
theorem dX1_swapWithNext_18 : decode cX1_swapWithNext 18 = .ok (.aload_n 0, 1) := by decide +kernel
theorem dX1_swapWithNext_19 : decode cX1_swapWithNext 19 = .ok (.getfield 9, 3) := by decide +kernel
theorem dX1_swapWithNext_22 : decode cX1_swapWithNext 22 = .ok (.iload_n 1, 1) := by decide +kernel
theorem dX1_swapWithNext_23 : decode cX1_swapWithNext 23 = .ok (.aload_n 0, 1) := by decide +kernel
theorem dX1_swapWithNext_24 : decode cX1_swapWithNext 24 = .ok (.getfield 9, 3) := by decide +kernel
theorem dX1_swapWithNext_27 : decode cX1_swapWithNext 27 = .ok (.iload_n 1, 1) := by decide +kernel
theorem dX1_swapWithNext_28 : decode cX1_swapWithNext 28 = .ok (.iconst 1, 1) := by decide +kernel
theorem dX1_swapWithNext_29 : decode cX1_swapWithNext 29 = .ok (.iadd, 1) := by decide +kernel
theorem dX1_swapWithNext_30 : decode cX1_swapWithNext 30 = .ok (.iaload, 1) := by decide +kernel
theorem dX1_swapWithNext_31 : decode cX1_swapWithNext 31 = .ok (.iastore, 1) := by decide +kernel
theorem dX1_swapWithNext_32 : decode cX1_swapWithNext 32 = .ok (.aload_n 0, 1) := by decide +kernel
theorem dX1_swapWithNext_33 : decode cX1_swapWithNext 33 = .ok (.getfield 9, 3) := by decide +kernel
theorem dX1_swapWithNext_36 : decode cX1_swapWithNext 36 = .ok (.iload_n 1, 1) := by decide +kernel
theorem dX1_swapWithNext_37 : decode cX1_swapWithNext 37 = .ok (.iconst 1, 1) := by decide +kernel
theorem dX1_swapWithNext_38 : decode cX1_swapWithNext 38 = .ok (.iadd, 1) := by decide +kernel
theorem dX1_swapWithNext_39 : decode cX1_swapWithNext 39 = .ok (.iload_n 2, 1) := by decide +kernel
theorem dX1_swapWithNext_40 : decode cX1_swapWithNext 40 = .ok (.iastore, 1) := by decide +kernel
theorem dX1_swapWithNext_41 : decode cX1_swapWithNext 41 = .ok (.iconst 0, 1) := by decide +kernel
theorem dX1_swapWithNext_42 : decode cX1_swapWithNext 42 = .ok (.istore_n 3, 1) := by decide +kernel
theorem dX1_swapWithNext_43 : decode cX1_swapWithNext 43 = .ok (.iload_n 3, 1) := by decide +kernel
theorem dX1_swapWithNext_44 : decode cX1_swapWithNext 44 = .ok (.iconst 4, 1) := by decide +kernel
theorem dX1_swapWithNext_45 : decode cX1_swapWithNext 45 = .ok (.if_icmp .ge 52, 3) := by decide +kernel
theorem dX1_swapWithNext_48 : decode cX1_swapWithNext 48 = .ok (.iload_n 1, 1) := by decide +kernel
theorem dX1_swapWithNext_49 : decode cX1_swapWithNext 49 = .ok (.iload_n 3, 1) := by decide +kernel
theorem dX1_swapWithNext_50 : decode cX1_swapWithNext 50 = .ok (.invokestatic 30, 3) := by decide +kernel
theorem dX1_swapWithNext_53 : decode cX1_swapWithNext 53 = .ok (.istore 4, 2) := by decide +kernel
theorem dX1_swapWithNext_55 : decode cX1_swapWithNext 55 = .ok (.aload_n 0, 1) := by decide +kernel
theorem dX1_swapWithNext_56 : decode cX1_swapWithNext 56 = .ok (.getfield 15, 3) := by decide +kernel
theorem dX1_swapWithNext_59 : decode cX1_swapWithNext 59 = .ok (.iload 4, 2) := by decide +kernel
theorem dX1_swapWithNext_61 : decode cX1_swapWithNext 61 = .ok (.laload, 1) := by decide +kernel
theorem dX1_swapWithNext_62 : decode cX1_swapWithNext 62 = .ok (.lstore 5, 2) := by decide +kernel
theorem dX1_swapWithNext_64 : decode cX1_swapWithNext 64 = .ok (.aload_n 0, 1) := by decide +kernel
theorem dX1_swapWithNext_65 : decode cX1_swapWithNext 65 = .ok (.getfield 15, 3) := by decide +kernel
theorem dX1_swapWithNext_68 : decode cX1_swapWithNext 68 = .ok (.iload 4, 2) := by decide +kernel
theorem dX1_swapWithNext_70 : decode cX1_swapWithNext 70 = .ok (.aload_n 0, 1) := by decide +kernel
theorem dX1_swapWithNext_71 : decode cX1_swapWithNext 71 = .ok (.getfield 15, 3) := by decide +kernel
theorem dX1_swapWithNext_74 : decode cX1_swapWithNext 74 = .ok (.iload 4, 2) := by decide +kernel
theorem dX1_swapWithNext_76 : decode cX1_swapWithNext 76 = .ok (.iconst 4, 1) := by decide +kernel
theorem dX1_swapWithNext_77 : decode cX1_swapWithNext 77 = .ok (.iadd, 1) := by decide +kernel
theorem dX1_swapWithNext_78 : decode cX1_swapWithNext 78 = .ok (.laload, 1) := by decide +kernel
theorem dX1_swapWithNext_79 : decode cX1_swapWithNext 79 = .ok (.lastore, 1) := by decide +kernel
theorem dX1_swapWithNext_80 : decode cX1_swapWithNext 80 = .ok (.aload_n 0, 1) := by decide +kernel
theorem dX1_swapWithNext_81 : decode cX1_swapWithNext 81 = .ok (.getfield 15, 3) := by decide +kernel
theorem dX1_swapWithNext_84 : decode cX1_swapWithNext 84 = .ok (.iload 4, 2) := by decide +kernel
theorem dX1_swapWithNext_86 : decode cX1_swapWithNext 86 = .ok (.iconst 4, 1) := by decide +kernel
theorem dX1_swapWithNext_87 : decode cX1_swapWithNext 87 = .ok (.iadd, 1) := by decide +kernel
theorem dX1_swapWithNext_88 : decode cX1_swapWithNext 88 = .ok (.lload 5, 2) := by decide +kernel
theorem dX1_swapWithNext_90 : decode cX1_swapWithNext 90 = .ok (.lastore, 1) := by decide +kernel
theorem dX1_swapWithNext_91 : decode cX1_swapWithNext 91 = .ok (.iinc 3 1, 3) := by decide +kernel
theorem dX1_swapWithNext_94 : decode cX1_swapWithNext 94 = .ok (.goto (-51), 3) := by decide +kernel
theorem dX1_swapWithNext_97 : decode cX1_swapWithNext 97 = .ok (.return_, 1) := by decide +kernel
theorem dX2_init_0 : decode cX2_init 0 = .ok (.aload_n 0, 1) := by decide +kernel
theorem dX2_init_1 : decode cX2_init 1 = .ok (.invokespecial 3, 3) := by decide +kernel
theorem dX2_init_4 : decode cX2_init 4 = .ok (.aload_n 0, 1) := by decide +kernel
theorem dX2_init_5 : decode cX2_init 5 = .ok (.sipush 512, 3) := by decide +kernel
theorem dX2_init_8 : decode cX2_init 8 = .ok (.newarray .int, 2) := by decide +kernel
theorem dX2_init_10 : decode cX2_init 10 = .ok (.putfield 9, 3) := by decide +kernel
theorem dX2_init_13 : decode cX2_init 13 = .ok (.return_, 1) := by decide +kernel
theorem dX2_length_0 : decode cX2_length 0 = .ok (.aload_n 0, 1) := by decide +kernel
theorem dX2_length_1 : decode cX2_length 1 = .ok (.getfield 15, 3) := by decide +kernel
theorem dX2_length_4 : decode cX2_length 4 = .ok (.ireturn, 1) := by decide +kernel
theorem dX2_signAt_0 : decode cX2_signAt 0 = .ok (.iload_n 1, 1) := by decide +kernel
theorem dX2_signAt_1 : decode cX2_signAt 1 = .ok (.ifCond .lt 20, 3) := by decide +kernel
theorem dX2_signAt_4 : decode cX2_signAt 4 = .ok (.iload_n 1, 1) := by decide +kernel
theorem dX2_signAt_5 : decode cX2_signAt 5 = .ok (.aload_n 0, 1) := by decide +kernel
theorem dX2_signAt_6 : decode cX2_signAt 6 = .ok (.getfield 15, 3) := by decide +kernel
theorem dX2_signAt_9 : decode cX2_signAt 9 = .ok (.if_icmp .ge 12, 3) := by decide +kernel
theorem dX2_signAt_12 : decode cX2_signAt 12 = .ok (.aload_n 0, 1) := by decide +kernel
theorem dX2_signAt_13 : decode cX2_signAt 13 = .ok (.getfield 9, 3) := by decide +kernel
theorem dX2_signAt_16 : decode cX2_signAt 16 = .ok (.iload_n 1, 1) := by decide +kernel
theorem dX2_signAt_17 : decode cX2_signAt 17 = .ok (.iaload, 1) := by decide +kernel
theorem dX2_signAt_18 : decode cX2_signAt 18 = .ok (.goto 5, 3) := by decide +kernel
theorem dX2_signAt_21 : decode cX2_signAt 21 = .ok (.bipush (-9), 2) := by decide +kernel
theorem dX2_signAt_23 : decode cX2_signAt 23 = .ok (.ireturn, 1) := by decide +kernel
theorem dX2_clear_0 : decode cX2_clear 0 = .ok (.aload_n 0, 1) := by decide +kernel
theorem dX2_clear_1 : decode cX2_clear 1 = .ok (.iconst 0, 1) := by decide +kernel
theorem dX2_clear_2 : decode cX2_clear 2 = .ok (.putfield 15, 3) := by decide +kernel
theorem dX2_clear_5 : decode cX2_clear 5 = .ok (.return_, 1) := by decide +kernel
theorem dX2_addSign_0 : decode cX2_addSign 0 = .ok (.aload_n 0, 1) := by decide +kernel
theorem dX2_addSign_1 : decode cX2_addSign 1 = .ok (.getfield 15, 3) := by decide +kernel
theorem dX2_addSign_4 : decode cX2_addSign 4 = .ok (.sipush 512, 3) := by decide +kernel
theorem dX2_addSign_7 : decode cX2_addSign 7 = .ok (.if_icmp .lt 4, 3) := by decide +kernel
theorem dX2_addSign_10 : decode cX2_addSign 10 = .ok (.return_, 1) := by decide +kernel
theorem dX2_addSign_11 : decode cX2_addSign 11 = .ok (.aload_n 0, 1) := by decide +kernel
theorem dX2_addSign_12 : decode cX2_addSign 12 = .ok (.getfield 9, 3) := by decide +kernel
theorem dX2_addSign_15 : decode cX2_addSign 15 = .ok (.aload_n 0, 1) := by decide +kernel
theorem dX2_addSign_16 : decode cX2_addSign 16 = .ok (.getfield 15, 3) := by decide +kernel
theorem dX2_addSign_19 : decode cX2_addSign 19 = .ok (.iload_n 1, 1) := by decide +kernel
theorem dX2_addSign_20 : decode cX2_addSign 20 = .ok (.iastore, 1) := by decide +kernel
theorem dX2_addSign_21 : decode cX2_addSign 21 = .ok (.aload_n 0, 1) := by decide +kernel
theorem dX2_addSign_22 : decode cX2_addSign 22 = .ok (.dup, 1) := by decide +kernel
theorem dX2_addSign_23 : decode cX2_addSign 23 = .ok (.getfield 15, 3) := by decide +kernel
theorem dX2_addSign_26 : decode cX2_addSign 26 = .ok (.iconst 1, 1) := by decide +kernel
theorem dX2_addSign_27 : decode cX2_addSign 27 = .ok (.iadd, 1) := by decide +kernel
theorem dX2_addSign_28 : decode cX2_addSign 28 = .ok (.putfield 15, 3) := by decide +kernel
theorem dX2_addSign_31 : decode cX2_addSign 31 = .ok (.return_, 1) := by decide +kernel
set_option maxRecDepth 20000 in
theorem ggX2_addCite_X0_form : GoodIn wsX2_addCite wsX0_form := goodIn_r _ [4] (by decide +kernel) (by decide +kernel)
set_option maxRecDepth 20000 in
theorem gX2_addCite_X0_form : GoodIn wsX2_addCite (va_wsS RX2 19 yX0_form wsX0_form) := goodIn_app (goodIn_of _ (by decide +kernel)) ggX2_addCite_X0_form
set_option maxRecDepth 20000 in
theorem ggX2_addCite_X2_addFull : GoodIn wsX2_addCite wsX2_addFull := goodIn_r _ [9, 10, 11, 3, 12, 13, 14, 15, 8, 16, 17, 18, 19, 20, 21, 22, 23, 24, 25, 26, 27, 28, 29, 30, 31, 32, 33, 34, 35, 36, 37, 38, 45, 46] (by decide +kernel) (by decide +kernel)
set_option maxRecDepth 20000 in
theorem gX2_addCite_X2_addFull : GoodIn wsX2_addCite (wsV RX2 25 RX2 yX2_addFull wsX2_addFull) := goodIn_app (goodIn_of _ (by decide +kernel)) ggX2_addCite_X2_addFull
set_option maxRecDepth 20000 in
theorem ggX2_addCite_X2_addSign : GoodIn wsX2_addCite wsX2_addSign := goodIn_r _ [16, 17, 18, 45, 46] (by decide +kernel) (by decide +kernel)
set_option maxRecDepth 20000 in
theorem gX2_addCite_X2_addSign : GoodIn wsX2_addCite (wsV RX2 29 RX2 yX2_addSign wsX2_addSign) := goodIn_app (goodIn_of _ (by decide +kernel)) ggX2_addCite_X2_addSign
set_option maxRecDepth 20000 in
theorem ggX2_addCite_X0_number : GoodIn wsX2_addCite wsX0_number := goodIn_r _ [41] (by decide +kernel) (by decide +kernel)
set_option maxRecDepth 20000 in
theorem gX2_addCite_X0_number : GoodIn wsX2_addCite (va_wsS RX2 33 yX0_number wsX0_number) := goodIn_app (goodIn_of _ (by decide +kernel)) ggX2_addCite_X0_number
set_option maxRecDepth 20000 in
theorem ggX2_addCite_X0_first : GoodIn wsX2_addCite wsX0_first := goodIn_r _ [12] (by decide +kernel) (by decide +kernel)
set_option maxRecDepth 20000 in
theorem gX2_addCite_X0_first : GoodIn wsX2_addCite (va_wsS RX2 36 yX0_first wsX0_first) := goodIn_app (goodIn_of _ (by decide +kernel)) ggX2_addCite_X0_first
set_option maxRecDepth 20000 in
theorem ggX2_addCite_X0_pin : GoodIn wsX2_addCite wsX0_pin := goodIn_r _ [44] (by decide +kernel) (by decide +kernel)
set_option maxRecDepth 20000 in
theorem gX2_addCite_X0_pin : GoodIn wsX2_addCite (va_wsS RX2 39 yX0_pin wsX0_pin) := goodIn_app (goodIn_of _ (by decide +kernel)) ggX2_addCite_X0_pin
set_option maxRecDepth 20000 in
theorem ggX2_addCite_X2_addPage : GoodIn wsX2_addCite wsX2_addPage := goodIn_r _ [35, 13, 14, 15, 8, 16, 17, 18, 45, 46] (by decide +kernel) (by decide +kernel)
set_option maxRecDepth 20000 in
theorem gX2_addCite_X2_addPage : GoodIn wsX2_addCite (wsV RX2 42 RX2 yX2_addPage wsX2_addPage) := goodIn_app (goodIn_of _ (by decide +kernel)) ggX2_addCite_X2_addPage
theorem dX2_addCite_0 : decode cX2_addCite 0 = .ok (.lload_n 1, 1) := by decide +kernel
theorem dX2_addCite_1 : decode cX2_addCite 1 = .ok (.invokestatic 19, 3) := by decide +kernel
theorem dX2_addCite_4 : decode cX2_addCite 4 = .ok (.tableswitch 80 0 3 #[32, 80, 40, 49], 32) := by decide +kernel
theorem dX2_addCite_36 : decode cX2_addCite 36 = .ok (.aload_n 0, 1) := by decide +kernel
theorem dX2_addCite_37 : decode cX2_addCite 37 = .ok (.lload_n 1, 1) := by decide +kernel
theorem dX2_addCite_38 : decode cX2_addCite 38 = .ok (.invokevirtual 25, 3) := by decide +kernel
theorem dX2_addCite_41 : decode cX2_addCite 41 = .ok (.goto 54, 3) := by decide +kernel
theorem dX2_addCite_44 : decode cX2_addCite 44 = .ok (.aload_n 0, 1) := by decide +kernel
theorem dX2_addCite_45 : decode cX2_addCite 45 = .ok (.bipush 105, 2) := by decide +kernel
theorem dX2_addCite_47 : decode cX2_addCite 47 = .ok (.invokevirtual 29, 3) := by decide +kernel
theorem dX2_addCite_50 : decode cX2_addCite 50 = .ok (.goto 45, 3) := by decide +kernel
theorem dX2_addCite_53 : decode cX2_addCite 53 = .ok (.aload_n 0, 1) := by decide +kernel
theorem dX2_addCite_54 : decode cX2_addCite 54 = .ok (.bipush 97, 2) := by decide +kernel
theorem dX2_addCite_56 : decode cX2_addCite 56 = .ok (.invokevirtual 29, 3) := by decide +kernel
theorem dX2_addCite_59 : decode cX2_addCite 59 = .ok (.aload_n 0, 1) := by decide +kernel
theorem dX2_addCite_60 : decode cX2_addCite 60 = .ok (.bipush 48, 2) := by decide +kernel
theorem dX2_addCite_62 : decode cX2_addCite 62 = .ok (.lload_n 1, 1) := by decide +kernel
theorem dX2_addCite_63 : decode cX2_addCite 63 = .ok (.invokestatic 33, 3) := by decide +kernel
theorem dX2_addCite_66 : decode cX2_addCite 66 = .ok (.iadd, 1) := by decide +kernel
theorem dX2_addCite_67 : decode cX2_addCite 67 = .ok (.invokevirtual 29, 3) := by decide +kernel
theorem dX2_addCite_70 : decode cX2_addCite 70 = .ok (.aload_n 0, 1) := by decide +kernel
theorem dX2_addCite_71 : decode cX2_addCite 71 = .ok (.bipush 65, 2) := by decide +kernel
theorem dX2_addCite_73 : decode cX2_addCite 73 = .ok (.lload_n 1, 1) := by decide +kernel
theorem dX2_addCite_74 : decode cX2_addCite 74 = .ok (.invokestatic 36, 3) := by decide +kernel
theorem dX2_addCite_77 : decode cX2_addCite 77 = .ok (.iadd, 1) := by decide +kernel
theorem dX2_addCite_78 : decode cX2_addCite 78 = .ok (.invokevirtual 29, 3) := by decide +kernel
theorem dX2_addCite_81 : decode cX2_addCite 81 = .ok (.goto 14, 3) := by decide +kernel
theorem dX2_addCite_84 : decode cX2_addCite 84 = .ok (.aload_n 0, 1) := by decide +kernel
theorem dX2_addCite_85 : decode cX2_addCite 85 = .ok (.bipush 65, 2) := by decide +kernel
theorem dX2_addCite_87 : decode cX2_addCite 87 = .ok (.lload_n 1, 1) := by decide +kernel
theorem dX2_addCite_88 : decode cX2_addCite 88 = .ok (.invokestatic 36, 3) := by decide +kernel
theorem dX2_addCite_91 : decode cX2_addCite 91 = .ok (.iadd, 1) := by decide +kernel
theorem dX2_addCite_92 : decode cX2_addCite 92 = .ok (.invokevirtual 29, 3) := by decide +kernel
theorem dX2_addCite_95 : decode cX2_addCite 95 = .ok (.lload_n 1, 1) := by decide +kernel
theorem dX2_addCite_96 : decode cX2_addCite 96 = .ok (.invokestatic 39, 3) := by decide +kernel
theorem dX2_addCite_99 : decode cX2_addCite 99 = .ok (.ifCond .ne 4, 3) := by decide +kernel
theorem dX2_addCite_102 : decode cX2_addCite 102 = .ok (.return_, 1) := by decide +kernel
theorem dX2_addCite_103 : decode cX2_addCite 103 = .ok (.aload_n 0, 1) := by decide +kernel
theorem dX2_addCite_104 : decode cX2_addCite 104 = .ok (.bipush 64, 2) := by decide +kernel
theorem dX2_addCite_106 : decode cX2_addCite 106 = .ok (.invokevirtual 29, 3) := by decide +kernel
theorem dX2_addCite_109 : decode cX2_addCite 109 = .ok (.aload_n 0, 1) := by decide +kernel
theorem dX2_addCite_110 : decode cX2_addCite 110 = .ok (.lload_n 1, 1) := by decide +kernel
theorem dX2_addCite_111 : decode cX2_addCite 111 = .ok (.invokestatic 39, 3) := by decide +kernel
theorem dX2_addCite_114 : decode cX2_addCite 114 = .ok (.invokevirtual 42, 3) := by decide +kernel
theorem dX2_addCite_117 : decode cX2_addCite 117 = .ok (.return_, 1) := by decide +kernel
set_option maxRecDepth 20000 in
theorem ggX2_addFull_X0_first : GoodIn wsX2_addFull wsX0_first := goodIn_r _ [4] (by decide +kernel) (by decide +kernel)
set_option maxRecDepth 20000 in
theorem gX2_addFull_X0_first : GoodIn wsX2_addFull (va_wsS RX2 36 yX0_first wsX0_first) := goodIn_app (goodIn_of _ (by decide +kernel)) ggX2_addFull_X0_first
set_option maxRecDepth 20000 in
theorem ggX2_addFull_X2_addSign : GoodIn wsX2_addFull wsX2_addSign := goodIn_r _ [9, 10, 11, 32, 33] (by decide +kernel) (by decide +kernel)
set_option maxRecDepth 20000 in
theorem gX2_addFull_X2_addSign : GoodIn wsX2_addFull (wsV RX2 29 RX2 yX2_addSign wsX2_addSign) := goodIn_app (goodIn_of _ (by decide +kernel)) ggX2_addFull_X2_addSign
set_option maxRecDepth 20000 in
theorem ggX2_addFull_X0_second : GoodIn wsX2_addFull wsX0_second := goodIn_r _ [14] (by decide +kernel) (by decide +kernel)
set_option maxRecDepth 20000 in
theorem gX2_addFull_X0_second : GoodIn wsX2_addFull (va_wsS RX2 45 yX0_second wsX0_second) := goodIn_app (goodIn_of _ (by decide +kernel)) ggX2_addFull_X0_second
set_option maxRecDepth 20000 in
theorem ggX2_addFull_X0_report : GoodIn wsX2_addFull wsX0_report := goodIn_r _ [17] (by decide +kernel) (by decide +kernel)
set_option maxRecDepth 20000 in
theorem gX2_addFull_X0_report : GoodIn wsX2_addFull (va_wsS RX2 48 yX0_report wsX0_report) := goodIn_app (goodIn_of _ (by decide +kernel)) ggX2_addFull_X0_report
set_option maxRecDepth 20000 in
theorem ggX2_addFull_X2_addReport : GoodIn wsX2_addFull wsX2_addReport := goodIn_r _ [21, 5, 6, 7, 8, 9, 10, 11, 22, 23, 24, 25, 26, 27, 28, 32, 33] (by decide +kernel) (by decide +kernel)
set_option maxRecDepth 20000 in
theorem gX2_addFull_X2_addReport : GoodIn wsX2_addFull (wsV RX2 51 RX2 yX2_addReport wsX2_addReport) := goodIn_app (goodIn_of _ (by decide +kernel)) ggX2_addFull_X2_addReport
set_option maxRecDepth 20000 in
theorem ggX2_addFull_X0_other : GoodIn wsX2_addFull wsX0_other := goodIn_r _ [31] (by decide +kernel) (by decide +kernel)
set_option maxRecDepth 20000 in
theorem gX2_addFull_X0_other : GoodIn wsX2_addFull (va_wsS RX2 54 yX0_other wsX0_other) := goodIn_app (goodIn_of _ (by decide +kernel)) ggX2_addFull_X0_other
theorem dX2_addFull_0 : decode cX2_addFull 0 = .ok (.aload_n 0, 1) := by decide +kernel
theorem dX2_addFull_1 : decode cX2_addFull 1 = .ok (.bipush 65, 2) := by decide +kernel
theorem dX2_addFull_3 : decode cX2_addFull 3 = .ok (.lload_n 1, 1) := by decide +kernel
theorem dX2_addFull_4 : decode cX2_addFull 4 = .ok (.invokestatic 36, 3) := by decide +kernel
theorem dX2_addFull_7 : decode cX2_addFull 7 = .ok (.iadd, 1) := by decide +kernel
theorem dX2_addFull_8 : decode cX2_addFull 8 = .ok (.invokevirtual 29, 3) := by decide +kernel
theorem dX2_addFull_11 : decode cX2_addFull 11 = .ok (.aload_n 0, 1) := by decide +kernel
theorem dX2_addFull_12 : decode cX2_addFull 12 = .ok (.bipush 65, 2) := by decide +kernel
theorem dX2_addFull_14 : decode cX2_addFull 14 = .ok (.lload_n 1, 1) := by decide +kernel
theorem dX2_addFull_15 : decode cX2_addFull 15 = .ok (.invokestatic 45, 3) := by decide +kernel
theorem dX2_addFull_18 : decode cX2_addFull 18 = .ok (.iadd, 1) := by decide +kernel
theorem dX2_addFull_19 : decode cX2_addFull 19 = .ok (.invokevirtual 29, 3) := by decide +kernel
theorem dX2_addFull_22 : decode cX2_addFull 22 = .ok (.aload_n 0, 1) := by decide +kernel
theorem dX2_addFull_23 : decode cX2_addFull 23 = .ok (.lload_n 1, 1) := by decide +kernel
theorem dX2_addFull_24 : decode cX2_addFull 24 = .ok (.invokestatic 48, 3) := by decide +kernel
theorem dX2_addFull_27 : decode cX2_addFull 27 = .ok (.invokevirtual 51, 3) := by decide +kernel
theorem dX2_addFull_30 : decode cX2_addFull 30 = .ok (.lload_n 1, 1) := by decide +kernel
theorem dX2_addFull_31 : decode cX2_addFull 31 = .ok (.invokestatic 54, 3) := by decide +kernel
theorem dX2_addFull_34 : decode cX2_addFull 34 = .ok (.ifCond .ne 4, 3) := by decide +kernel
theorem dX2_addFull_37 : decode cX2_addFull 37 = .ok (.return_, 1) := by decide +kernel
theorem dX2_addFull_38 : decode cX2_addFull 38 = .ok (.aload_n 0, 1) := by decide +kernel
theorem dX2_addFull_39 : decode cX2_addFull 39 = .ok (.bipush 61, 2) := by decide +kernel
theorem dX2_addFull_41 : decode cX2_addFull 41 = .ok (.invokevirtual 29, 3) := by decide +kernel
theorem dX2_addFull_44 : decode cX2_addFull 44 = .ok (.aload_n 0, 1) := by decide +kernel
theorem dX2_addFull_45 : decode cX2_addFull 45 = .ok (.lload_n 1, 1) := by decide +kernel
theorem dX2_addFull_46 : decode cX2_addFull 46 = .ok (.invokestatic 54, 3) := by decide +kernel
theorem dX2_addFull_49 : decode cX2_addFull 49 = .ok (.invokevirtual 51, 3) := by decide +kernel
theorem dX2_addFull_52 : decode cX2_addFull 52 = .ok (.return_, 1) := by decide +kernel
set_option maxRecDepth 20000 in
theorem ggX2_addReport_X2_addSign : GoodIn wsX2_addReport wsX2_addSign := goodIn_r _ [5, 6, 7, 15, 16] (by decide +kernel) (by decide +kernel)
set_option maxRecDepth 20000 in
theorem gX2_addReport_X2_addSign : GoodIn wsX2_addReport (wsV RX2 29 RX2 yX2_addSign wsX2_addSign) := goodIn_app (goodIn_of _ (by decide +kernel)) ggX2_addReport_X2_addSign
set_option maxRecDepth 20000 in
theorem ggX2_addReport_X6_isOfSeries : GoodIn wsX2_addReport wsX6_isOfSeries := goodIn_r _ [10] (by decide +kernel) (by decide +kernel)
set_option maxRecDepth 20000 in
theorem gX2_addReport_X6_isOfSeries_n57 : GoodIn wsX2_addReport (wsX6_isOfSeries) := ggX2_addReport_X6_isOfSeries
set_option maxRecDepth 20000 in
theorem ggX2_addReport_X2_addPage : GoodIn wsX2_addReport wsX2_addPage := goodIn_r _ [14, 1, 2, 3, 4, 5, 6, 7, 15, 16] (by decide +kernel) (by decide +kernel)
set_option maxRecDepth 20000 in
theorem gX2_addReport_X2_addPage : GoodIn wsX2_addReport (wsV RX2 42 RX2 yX2_addPage wsX2_addPage) := goodIn_app (goodIn_of _ (by decide +kernel)) ggX2_addReport_X2_addPage
theorem dX2_addReport_0 : decode cX2_addReport 0 = .ok (.aload_n 0, 1) := by decide +kernel
theorem dX2_addReport_1 : decode cX2_addReport 1 = .ok (.bipush 48, 2) := by decide +kernel
theorem dX2_addReport_3 : decode cX2_addReport 3 = .ok (.iload_n 1, 1) := by decide +kernel
theorem dX2_addReport_4 : decode cX2_addReport 4 = .ok (.sipush 1000, 3) := by decide +kernel
theorem dX2_addReport_7 : decode cX2_addReport 7 = .ok (.idiv, 1) := by decide +kernel
theorem dX2_addReport_8 : decode cX2_addReport 8 = .ok (.iadd, 1) := by decide +kernel
theorem dX2_addReport_9 : decode cX2_addReport 9 = .ok (.invokevirtual 29, 3) := by decide +kernel
theorem dX2_addReport_12 : decode cX2_addReport 12 = .ok (.aload_n 0, 1) := by decide +kernel
theorem dX2_addReport_13 : decode cX2_addReport 13 = .ok (.iload_n 1, 1) := by decide +kernel
theorem dX2_addReport_14 : decode cX2_addReport 14 = .ok (.iconst 0, 1) := by decide +kernel
theorem dX2_addReport_15 : decode cX2_addReport 15 = .ok (.invokestatic 57, 3) := by decide +kernel
theorem dX2_addReport_18 : decode cX2_addReport 18 = .ok (.ifCond .eq 8, 3) := by decide +kernel
theorem dX2_addReport_21 : decode cX2_addReport 21 = .ok (.bipush 114, 2) := by decide +kernel
theorem dX2_addReport_23 : decode cX2_addReport 23 = .ok (.goto 5, 3) := by decide +kernel
theorem dX2_addReport_26 : decode cX2_addReport 26 = .ok (.bipush 115, 2) := by decide +kernel
theorem dX2_addReport_28 : decode cX2_addReport 28 = .ok (.invokevirtual 29, 3) := by decide +kernel
theorem dX2_addReport_31 : decode cX2_addReport 31 = .ok (.aload_n 0, 1) := by decide +kernel
theorem dX2_addReport_32 : decode cX2_addReport 32 = .ok (.iload_n 1, 1) := by decide +kernel
theorem dX2_addReport_33 : decode cX2_addReport 33 = .ok (.bipush 100, 2) := by decide +kernel
theorem dX2_addReport_35 : decode cX2_addReport 35 = .ok (.irem, 1) := by decide +kernel
theorem dX2_addReport_36 : decode cX2_addReport 36 = .ok (.invokevirtual 42, 3) := by decide +kernel
theorem dX2_addReport_39 : decode cX2_addReport 39 = .ok (.return_, 1) := by decide +kernel
set_option maxRecDepth 20000 in
theorem ggX2_addPage_X2_addSign : GoodIn wsX2_addPage wsX2_addSign := goodIn_r _ [5, 6, 7, 8, 9] (by decide +kernel) (by decide +kernel)
set_option maxRecDepth 20000 in
theorem gX2_addPage_X2_addSign : GoodIn wsX2_addPage (wsV RX2 29 RX2 yX2_addSign wsX2_addSign) := goodIn_app (goodIn_of _ (by decide +kernel)) ggX2_addPage_X2_addSign
theorem dX2_addPage_0 : decode cX2_addPage 0 = .ok (.aload_n 0, 1) := by decide +kernel
theorem dX2_addPage_1 : decode cX2_addPage 1 = .ok (.bipush 48, 2) := by decide +kernel
theorem dX2_addPage_3 : decode cX2_addPage 3 = .ok (.iload_n 1, 1) := by decide +kernel
theorem dX2_addPage_4 : decode cX2_addPage 4 = .ok (.bipush 10, 2) := by decide +kernel
theorem dX2_addPage_6 : decode cX2_addPage 6 = .ok (.idiv, 1) := by decide +kernel
theorem dX2_addPage_7 : decode cX2_addPage 7 = .ok (.iadd, 1) := by decide +kernel
theorem dX2_addPage_8 : decode cX2_addPage 8 = .ok (.invokevirtual 29, 3) := by decide +kernel
theorem dX2_addPage_11 : decode cX2_addPage 11 = .ok (.aload_n 0, 1) := by decide +kernel
theorem dX2_addPage_12 : decode cX2_addPage 12 = .ok (.bipush 48, 2) := by decide +kernel
theorem dX2_addPage_14 : decode cX2_addPage 14 = .ok (.iload_n 1, 1) := by decide +kernel
theorem dX2_addPage_15 : decode cX2_addPage 15 = .ok (.bipush 10, 2) := by decide +kernel
theorem dX2_addPage_17 : decode cX2_addPage 17 = .ok (.irem, 1) := by decide +kernel
theorem dX2_addPage_18 : decode cX2_addPage 18 = .ok (.iadd, 1) := by decide +kernel
theorem dX2_addPage_19 : decode cX2_addPage 19 = .ok (.invokevirtual 29, 3) := by decide +kernel
theorem dX2_addPage_22 : decode cX2_addPage 22 = .ok (.return_, 1) := by decide +kernel
theorem dX3_init_0 : decode cX3_init 0 = .ok (.aload_n 0, 1) := by decide +kernel
theorem dX3_init_1 : decode cX3_init 1 = .ok (.invokespecial 3, 3) := by decide +kernel
theorem dX3_init_4 : decode cX3_init 4 = .ok (.aload_n 0, 1) := by decide +kernel
theorem dX3_init_5 : decode cX3_init 5 = .ok (.iload_n 1, 1) := by decide +kernel
theorem dX3_init_6 : decode cX3_init 6 = .ok (.iconst 0, 1) := by decide +kernel
theorem dX3_init_7 : decode cX3_init 7 = .ok (.invokestatic 9, 3) := by decide +kernel
theorem dX3_init_10 : decode cX3_init 10 = .ok (.putfield 15, 3) := by decide +kernel
theorem dX3_init_13 : decode cX3_init 13 = .ok (.aload_n 0, 1) := by decide +kernel
theorem dX3_init_14 : decode cX3_init 14 = .ok (.aload_n 0, 1) := by decide +kernel
theorem dX3_init_15 : decode cX3_init 15 = .ok (.getfield 15, 3) := by decide +kernel
theorem dX3_init_18 : decode cX3_init 18 = .ok (.newarray .boolean, 2) := by decide +kernel
theorem dX3_init_20 : decode cX3_init 20 = .ok (.putfield 21, 3) := by decide +kernel
theorem dX3_init_23 : decode cX3_init 23 = .ok (.aload_n 0, 1) := by decide +kernel
theorem dX3_init_24 : decode cX3_init 24 = .ok (.aload_n 0, 1) := by decide +kernel
theorem dX3_init_25 : decode cX3_init 25 = .ok (.getfield 15, 3) := by decide +kernel
theorem dX3_init_28 : decode cX3_init 28 = .ok (.newarray .int, 2) := by decide +kernel
theorem dX3_init_30 : decode cX3_init 30 = .ok (.putfield 25, 3) := by decide +kernel
theorem dX3_init_33 : decode cX3_init 33 = .ok (.aload_n 0, 1) := by decide +kernel
theorem dX3_init_34 : decode cX3_init 34 = .ok (.aload_n 0, 1) := by decide +kernel
theorem dX3_init_35 : decode cX3_init 35 = .ok (.getfield 15, 3) := by decide +kernel
theorem dX3_init_38 : decode cX3_init 38 = .ok (.bipush 8, 2) := by decide +kernel
theorem dX3_init_40 : decode cX3_init 40 = .ok (.imul, 1) := by decide +kernel
theorem dX3_init_41 : decode cX3_init 41 = .ok (.newarray .int, 2) := by decide +kernel
theorem dX3_init_43 : decode cX3_init 43 = .ok (.putfield 29, 3) := by decide +kernel
theorem dX3_init_46 : decode cX3_init 46 = .ok (.aload_n 0, 1) := by decide +kernel
theorem dX3_init_47 : decode cX3_init 47 = .ok (.aload_n 0, 1) := by decide +kernel
theorem dX3_init_48 : decode cX3_init 48 = .ok (.getfield 15, 3) := by decide +kernel
theorem dX3_init_51 : decode cX3_init 51 = .ok (.bipush 32, 2) := by decide +kernel
theorem dX3_init_53 : decode cX3_init 53 = .ok (.imul, 1) := by decide +kernel
theorem dX3_init_54 : decode cX3_init 54 = .ok (.newarray .long, 2) := by decide +kernel
theorem dX3_init_56 : decode cX3_init 56 = .ok (.putfield 32, 3) := by decide +kernel
theorem dX3_init_59 : decode cX3_init 59 = .ok (.return_, 1) := by decide +kernel
theorem dX3_holds_0 : decode cX3_holds 0 = .ok (.iload_n 1, 1) := by decide +kernel
theorem dX3_holds_1 : decode cX3_holds 1 = .ok (.ifCond .lt 24, 3) := by decide +kernel
theorem dX3_holds_4 : decode cX3_holds 4 = .ok (.iload_n 1, 1) := by decide +kernel
theorem dX3_holds_5 : decode cX3_holds 5 = .ok (.aload_n 0, 1) := by decide +kernel
theorem dX3_holds_6 : decode cX3_holds 6 = .ok (.getfield 15, 3) := by decide +kernel
theorem dX3_holds_9 : decode cX3_holds 9 = .ok (.if_icmp .ge 16, 3) := by decide +kernel
theorem dX3_holds_12 : decode cX3_holds 12 = .ok (.aload_n 0, 1) := by decide +kernel
theorem dX3_holds_13 : decode cX3_holds 13 = .ok (.getfield 21, 3) := by decide +kernel
theorem dX3_holds_16 : decode cX3_holds 16 = .ok (.iload_n 1, 1) := by decide +kernel
theorem dX3_holds_17 : decode cX3_holds 17 = .ok (.baload, 1) := by decide +kernel
theorem dX3_holds_18 : decode cX3_holds 18 = .ok (.ifCond .eq 7, 3) := by decide +kernel
theorem dX3_holds_21 : decode cX3_holds 21 = .ok (.iconst 1, 1) := by decide +kernel
theorem dX3_holds_22 : decode cX3_holds 22 = .ok (.goto 4, 3) := by decide +kernel
theorem dX3_holds_25 : decode cX3_holds 25 = .ok (.iconst 0, 1) := by decide +kernel
theorem dX3_holds_26 : decode cX3_holds 26 = .ok (.ireturn, 1) := by decide +kernel
theorem dX3_clear_0 : decode cX3_clear 0 = .ok (.iconst 0, 1) := by decide +kernel
theorem dX3_clear_1 : decode cX3_clear 1 = .ok (.istore_n 1, 1) := by decide +kernel
theorem dX3_clear_2 : decode cX3_clear 2 = .ok (.iload_n 1, 1) := by decide +kernel
theorem dX3_clear_3 : decode cX3_clear 3 = .ok (.aload_n 0, 1) := by decide +kernel
theorem dX3_clear_4 : decode cX3_clear 4 = .ok (.getfield 15, 3) := by decide +kernel
theorem dX3_clear_7 : decode cX3_clear 7 = .ok (.if_icmp .ge 16, 3) := by decide +kernel
theorem dX3_clear_10 : decode cX3_clear 10 = .ok (.aload_n 0, 1) := by decide +kernel
theorem dX3_clear_11 : decode cX3_clear 11 = .ok (.getfield 21, 3) := by decide +kernel
theorem dX3_clear_14 : decode cX3_clear 14 = .ok (.iload_n 1, 1) := by decide +kernel
theorem dX3_clear_15 : decode cX3_clear 15 = .ok (.iconst 0, 1) := by decide +kernel
theorem dX3_clear_16 : decode cX3_clear 16 = .ok (.bastore, 1) := by decide +kernel
theorem dX3_clear_17 : decode cX3_clear 17 = .ok (.iinc 1 1, 3) := by decide +kernel
theorem dX3_clear_20 : decode cX3_clear 20 = .ok (.goto (-18), 3) := by decide +kernel
theorem dX3_clear_23 : decode cX3_clear 23 = .ok (.return_, 1) := by decide +kernel
set_option maxRecDepth 20000 in
theorem ggX3_store_X1_notes : GoodIn wsX3_store wsX1_notes := goodIn_r _ [10, 11, 27, 28, 29, 30] (by decide +kernel) (by decide +kernel)
set_option maxRecDepth 20000 in
theorem gX3_store_X1_notes : GoodIn wsX3_store (wsV RX3 36 RX1 yX1_notes wsX1_notes) := goodIn_app (goodIn_of _ (by decide +kernel)) ggX3_store_X1_notes
set_option maxRecDepth 20000 in
theorem ggX3_store_X1_saveTo : GoodIn wsX3_store wsX1_saveTo := goodIn_r _ [15, 16, 17, 18, 19, 20, 21, 27, 28, 29, 30] (by decide +kernel) (by decide +kernel)
set_option maxRecDepth 20000 in
theorem gX3_store_X1_saveTo : GoodIn wsX3_store (wsV RX3 41 RX1 yX1_saveTo wsX1_saveTo) := goodIn_app (goodIn_of _ (by decide +kernel)) ggX3_store_X1_saveTo
theorem dX3_store_0 : decode cX3_store 0 = .ok (.iload_n 1, 1) := by decide +kernel
theorem dX3_store_1 : decode cX3_store 1 = .ok (.ifCond .lt 11, 3) := by decide +kernel
theorem dX3_store_4 : decode cX3_store 4 = .ok (.iload_n 1, 1) := by decide +kernel
theorem dX3_store_5 : decode cX3_store 5 = .ok (.aload_n 0, 1) := by decide +kernel
theorem dX3_store_6 : decode cX3_store 6 = .ok (.getfield 15, 3) := by decide +kernel
theorem dX3_store_9 : decode cX3_store 9 = .ok (.if_icmp .lt 4, 3) := by decide +kernel
theorem dX3_store_12 : decode cX3_store 12 = .ok (.return_, 1) := by decide +kernel
theorem dX3_store_13 : decode cX3_store 13 = .ok (.aload_n 0, 1) := by decide +kernel
theorem dX3_store_14 : decode cX3_store 14 = .ok (.getfield 21, 3) := by decide +kernel
theorem dX3_store_17 : decode cX3_store 17 = .ok (.iload_n 1, 1) := by decide +kernel
theorem dX3_store_18 : decode cX3_store 18 = .ok (.iconst 1, 1) := by decide +kernel
theorem dX3_store_19 : decode cX3_store 19 = .ok (.bastore, 1) := by decide +kernel
theorem dX3_store_20 : decode cX3_store 20 = .ok (.aload_n 0, 1) := by decide +kernel
theorem dX3_store_21 : decode cX3_store 21 = .ok (.getfield 25, 3) := by decide +kernel
theorem dX3_store_24 : decode cX3_store 24 = .ok (.iload_n 1, 1) := by decide +kernel
theorem dX3_store_25 : decode cX3_store 25 = .ok (.aload_n 2, 1) := by decide +kernel
theorem dX3_store_26 : decode cX3_store 26 = .ok (.invokevirtual 36, 3) := by decide +kernel
theorem dX3_store_29 : decode cX3_store 29 = .ok (.iastore, 1) := by decide +kernel
theorem dX3_store_30 : decode cX3_store 30 = .ok (.aload_n 2, 1) := by decide +kernel
theorem dX3_store_31 : decode cX3_store 31 = .ok (.aload_n 0, 1) := by decide +kernel
theorem dX3_store_32 : decode cX3_store 32 = .ok (.getfield 29, 3) := by decide +kernel
theorem dX3_store_35 : decode cX3_store 35 = .ok (.aload_n 0, 1) := by decide +kernel
theorem dX3_store_36 : decode cX3_store 36 = .ok (.getfield 32, 3) := by decide +kernel
theorem dX3_store_39 : decode cX3_store 39 = .ok (.iload_n 1, 1) := by decide +kernel
theorem dX3_store_40 : decode cX3_store 40 = .ok (.invokevirtual 41, 3) := by decide +kernel
theorem dX3_store_43 : decode cX3_store 43 = .ok (.return_, 1) := by decide +kernel
set_option maxRecDepth 20000 in
theorem ggX3_fetch_X1_loadFrom : GoodIn wsX3_fetch wsX1_loadFrom := goodIn_r _ [10, 11, 12, 13, 14, 15, 16, 17, 18, 24, 25, 26, 27] (by decide +kernel) (by decide +kernel)
set_option maxRecDepth 20000 in
theorem gX3_fetch_X1_loadFrom : GoodIn wsX3_fetch (wsV RX3 45 RX1 yX1_loadFrom wsX1_loadFrom) := goodIn_app (goodIn_of _ (by decide +kernel)) ggX3_fetch_X1_loadFrom
theorem dX3_fetch_0 : decode cX3_fetch 0 = .ok (.iload_n 1, 1) := by decide +kernel
theorem dX3_fetch_1 : decode cX3_fetch 1 = .ok (.ifCond .lt 20, 3) := by decide +kernel
theorem dX3_fetch_4 : decode cX3_fetch 4 = .ok (.iload_n 1, 1) := by decide +kernel
theorem dX3_fetch_5 : decode cX3_fetch 5 = .ok (.aload_n 0, 1) := by decide +kernel
theorem dX3_fetch_6 : decode cX3_fetch 6 = .ok (.getfield 15, 3) := by decide +kernel
theorem dX3_fetch_9 : decode cX3_fetch 9 = .ok (.if_icmp .ge 12, 3) := by decide +kernel
theorem dX3_fetch_12 : decode cX3_fetch 12 = .ok (.aload_n 0, 1) := by decide +kernel
theorem dX3_fetch_13 : decode cX3_fetch 13 = .ok (.getfield 21, 3) := by decide +kernel
theorem dX3_fetch_16 : decode cX3_fetch 16 = .ok (.iload_n 1, 1) := by decide +kernel
theorem dX3_fetch_17 : decode cX3_fetch 17 = .ok (.baload, 1) := by decide +kernel
theorem dX3_fetch_18 : decode cX3_fetch 18 = .ok (.ifCond .ne 4, 3) := by decide +kernel
theorem dX3_fetch_21 : decode cX3_fetch 21 = .ok (.return_, 1) := by decide +kernel
theorem dX3_fetch_22 : decode cX3_fetch 22 = .ok (.aload_n 2, 1) := by decide +kernel
theorem dX3_fetch_23 : decode cX3_fetch 23 = .ok (.aload_n 0, 1) := by decide +kernel
theorem dX3_fetch_24 : decode cX3_fetch 24 = .ok (.getfield 29, 3) := by decide +kernel
theorem dX3_fetch_27 : decode cX3_fetch 27 = .ok (.aload_n 0, 1) := by decide +kernel
theorem dX3_fetch_28 : decode cX3_fetch 28 = .ok (.getfield 32, 3) := by decide +kernel
theorem dX3_fetch_31 : decode cX3_fetch 31 = .ok (.iload_n 1, 1) := by decide +kernel
theorem dX3_fetch_32 : decode cX3_fetch 32 = .ok (.aload_n 0, 1) := by decide +kernel
theorem dX3_fetch_33 : decode cX3_fetch 33 = .ok (.getfield 25, 3) := by decide +kernel
theorem dX3_fetch_36 : decode cX3_fetch 36 = .ok (.iload_n 1, 1) := by decide +kernel
theorem dX3_fetch_37 : decode cX3_fetch 37 = .ok (.iaload, 1) := by decide +kernel
theorem dX3_fetch_38 : decode cX3_fetch 38 = .ok (.invokevirtual 45, 3) := by decide +kernel
theorem dX3_fetch_41 : decode cX3_fetch 41 = .ok (.return_, 1) := by decide +kernel
set_option maxRecDepth 20000 in
theorem ggX4_init_X1_init : GoodIn wsX4_init wsX1_init := goodIn_r _ [20, 21, 2, 3, 8, 22, 23, 24, 25, 26, 27, 28] (by decide +kernel) (by decide +kernel)
set_option maxRecDepth 20000 in
theorem gX4_init_X1_init : GoodIn wsX4_init (wsX1_init) := ggX4_init_X1_init
theorem dX4_init_0 : decode cX4_init 0 = .ok (.aload_n 0, 1) := by decide +kernel
theorem dX4_init_1 : decode cX4_init 1 = .ok (.invokespecial 3, 3) := by decide +kernel
theorem dX4_init_4 : decode cX4_init 4 = .ok (.aload_n 0, 1) := by decide +kernel
theorem dX4_init_5 : decode cX4_init 5 = .ok (.new 9, 3) := by decide +kernel
theorem dX4_init_8 : decode cX4_init 8 = .ok (.dup, 1) := by decide +kernel
theorem dX4_init_9 : decode cX4_init 9 = .ok (.invokespecial 11, 3) := by decide +kernel
theorem dX4_init_12 : decode cX4_init 12 = .ok (.putfield 12, 3) := by decide +kernel
theorem dX4_init_15 : decode cX4_init 15 = .ok (.aload_n 0, 1) := by decide +kernel
theorem dX4_init_16 : decode cX4_init 16 = .ok (.bipush 32, 2) := by decide +kernel
theorem dX4_init_18 : decode cX4_init 18 = .ok (.newarray .int, 2) := by decide +kernel
theorem dX4_init_20 : decode cX4_init 20 = .ok (.putfield 18, 3) := by decide +kernel
theorem dX4_init_23 : decode cX4_init 23 = .ok (.aload_n 0, 1) := by decide +kernel
theorem dX4_init_24 : decode cX4_init 24 = .ok (.bipush 32, 2) := by decide +kernel
theorem dX4_init_26 : decode cX4_init 26 = .ok (.newarray .int, 2) := by decide +kernel
theorem dX4_init_28 : decode cX4_init 28 = .ok (.putfield 22, 3) := by decide +kernel
theorem dX4_init_31 : decode cX4_init 31 = .ok (.aload_n 0, 1) := by decide +kernel
theorem dX4_init_32 : decode cX4_init 32 = .ok (.bipush 32, 2) := by decide +kernel
theorem dX4_init_34 : decode cX4_init 34 = .ok (.newarray .int, 2) := by decide +kernel
theorem dX4_init_36 : decode cX4_init 36 = .ok (.putfield 25, 3) := by decide +kernel
theorem dX4_init_39 : decode cX4_init 39 = .ok (.aload_n 0, 1) := by decide +kernel
theorem dX4_init_40 : decode cX4_init 40 = .ok (.bipush 32, 2) := by decide +kernel
theorem dX4_init_42 : decode cX4_init 42 = .ok (.newarray .int, 2) := by decide +kernel
theorem dX4_init_44 : decode cX4_init 44 = .ok (.putfield 28, 3) := by decide +kernel
theorem dX4_init_47 : decode cX4_init 47 = .ok (.aload_n 0, 1) := by decide +kernel
theorem dX4_init_48 : decode cX4_init 48 = .ok (.bipush 32, 2) := by decide +kernel
theorem dX4_init_50 : decode cX4_init 50 = .ok (.newarray .int, 2) := by decide +kernel
theorem dX4_init_52 : decode cX4_init 52 = .ok (.putfield 31, 3) := by decide +kernel
theorem dX4_init_55 : decode cX4_init 55 = .ok (.aload_n 0, 1) := by decide +kernel
theorem dX4_init_56 : decode cX4_init 56 = .ok (.bipush 6, 2) := by decide +kernel
theorem dX4_init_58 : decode cX4_init 58 = .ok (.newarray .int, 2) := by decide +kernel
theorem dX4_init_60 : decode cX4_init 60 = .ok (.putfield 34, 3) := by decide +kernel
theorem dX4_init_63 : decode cX4_init 63 = .ok (.aload_n 0, 1) := by decide +kernel
theorem dX4_init_64 : decode cX4_init 64 = .ok (.bipush 8, 2) := by decide +kernel
theorem dX4_init_66 : decode cX4_init 66 = .ok (.newarray .int, 2) := by decide +kernel
theorem dX4_init_68 : decode cX4_init 68 = .ok (.putfield 37, 3) := by decide +kernel
theorem dX4_init_71 : decode cX4_init 71 = .ok (.aload_n 0, 1) := by decide +kernel
theorem dX4_init_72 : decode cX4_init 72 = .ok (.iconst (-1), 1) := by decide +kernel
theorem dX4_init_73 : decode cX4_init 73 = .ok (.putfield 40, 3) := by decide +kernel
theorem dX4_init_76 : decode cX4_init 76 = .ok (.aload_n 0, 1) := by decide +kernel
theorem dX4_init_77 : decode cX4_init 77 = .ok (.iconst (-1), 1) := by decide +kernel
theorem dX4_init_78 : decode cX4_init 78 = .ok (.putfield 44, 3) := by decide +kernel
theorem dX4_init_81 : decode cX4_init 81 = .ok (.return_, 1) := by decide +kernel
theorem dX4_cases_0 : decode cX4_cases 0 = .ok (.aload_n 0, 1) := by decide +kernel
theorem dX4_cases_1 : decode cX4_cases 1 = .ok (.getfield 47, 3) := by decide +kernel
theorem dX4_cases_4 : decode cX4_cases 4 = .ok (.ireturn, 1) := by decide +kernel
theorem dX4_alive_0 : decode cX4_alive 0 = .ok (.aload_n 0, 1) := by decide +kernel
theorem dX4_alive_1 : decode cX4_alive 1 = .ok (.getfield 50, 3) := by decide +kernel
theorem dX4_alive_4 : decode cX4_alive 4 = .ok (.ireturn, 1) := by decide +kernel
theorem dX4_dead_0 : decode cX4_dead 0 = .ok (.aload_n 0, 1) := by decide +kernel
theorem dX4_dead_1 : decode cX4_dead 1 = .ok (.getfield 53, 3) := by decide +kernel
theorem dX4_dead_4 : decode cX4_dead 4 = .ok (.ireturn, 1) := by decide +kernel
theorem dX4_caseOf_0 : decode cX4_caseOf 0 = .ok (.iload_n 1, 1) := by decide +kernel
theorem dX4_caseOf_1 : decode cX4_caseOf 1 = .ok (.ifCond .lt 18, 3) := by decide +kernel
theorem dX4_caseOf_4 : decode cX4_caseOf 4 = .ok (.iload_n 1, 1) := by decide +kernel
theorem dX4_caseOf_5 : decode cX4_caseOf 5 = .ok (.bipush 32, 2) := by decide +kernel
theorem dX4_caseOf_7 : decode cX4_caseOf 7 = .ok (.if_icmp .ge 12, 3) := by decide +kernel
theorem dX4_caseOf_10 : decode cX4_caseOf 10 = .ok (.aload_n 0, 1) := by decide +kernel
theorem dX4_caseOf_11 : decode cX4_caseOf 11 = .ok (.getfield 22, 3) := by decide +kernel
theorem dX4_caseOf_14 : decode cX4_caseOf 14 = .ok (.iload_n 1, 1) := by decide +kernel
theorem dX4_caseOf_15 : decode cX4_caseOf 15 = .ok (.iaload, 1) := by decide +kernel
theorem dX4_caseOf_16 : decode cX4_caseOf 16 = .ok (.goto 4, 3) := by decide +kernel
theorem dX4_caseOf_19 : decode cX4_caseOf 19 = .ok (.iconst (-1), 1) := by decide +kernel
theorem dX4_caseOf_20 : decode cX4_caseOf 20 = .ok (.ireturn, 1) := by decide +kernel
theorem dX4_reasonOf_0 : decode cX4_reasonOf 0 = .ok (.iload_n 1, 1) := by decide +kernel
theorem dX4_reasonOf_1 : decode cX4_reasonOf 1 = .ok (.ifCond .lt 18, 3) := by decide +kernel
theorem dX4_reasonOf_4 : decode cX4_reasonOf 4 = .ok (.iload_n 1, 1) := by decide +kernel
theorem dX4_reasonOf_5 : decode cX4_reasonOf 5 = .ok (.bipush 32, 2) := by decide +kernel
theorem dX4_reasonOf_7 : decode cX4_reasonOf 7 = .ok (.if_icmp .ge 12, 3) := by decide +kernel
theorem dX4_reasonOf_10 : decode cX4_reasonOf 10 = .ok (.aload_n 0, 1) := by decide +kernel
theorem dX4_reasonOf_11 : decode cX4_reasonOf 11 = .ok (.getfield 25, 3) := by decide +kernel
theorem dX4_reasonOf_14 : decode cX4_reasonOf 14 = .ok (.iload_n 1, 1) := by decide +kernel
theorem dX4_reasonOf_15 : decode cX4_reasonOf 15 = .ok (.iaload, 1) := by decide +kernel
theorem dX4_reasonOf_16 : decode cX4_reasonOf 16 = .ok (.goto 4, 3) := by decide +kernel
theorem dX4_reasonOf_19 : decode cX4_reasonOf 19 = .ok (.iconst 0, 1) := by decide +kernel
theorem dX4_reasonOf_20 : decode cX4_reasonOf 20 = .ok (.ireturn, 1) := by decide +kernel
set_option maxRecDepth 20000 in
theorem ggX4_study_X1_version : GoodIn wsX4_study wsX1_version := goodIn_r _ [7, 8, 156, 157, 158, 159] (by decide +kernel) (by decide +kernel)
set_option maxRecDepth 20000 in
theorem gX4_study_X1_version : GoodIn wsX4_study (wsV RX4 56 RX1 yX1_version wsX1_version) := goodIn_app (goodIn_of _ (by decide +kernel)) ggX4_study_X1_version
set_option maxRecDepth 20000 in
theorem ggX4_study_X4_studyPart : GoodIn wsX4_study wsX4_studyPart := goodIn_r _ [13, 1, 14, 2, 15, 16, 17, 18, 19, 3, 4, 5, 6, 7, 8, 20, 21, 22, 12, 23, 24, 25, 26, 27, 28, 29, 30, 31, 32, 33, 34, 35, 36, 37, 38, 39, 40, 41, 42, 43, 44, 45, 46, 47, 48, 49, 50, 51, 52, 53, 54, 55, 56, 57, 58, 59, 60, 61, 62, 63, 64, 65, 66, 67, 68, 69, 70, 71, 72, 73, 74, 75, 76, 77, 78, 79, 80, 81, 82, 83, 84, 85, 86, 87, 88, 89, 90, 91, 92, 93, 94, 95, 96, 97, 98, 99, 100, 101, 102, 103, 104, 105, 106, 107, 108, 109, 110, 111, 112, 113, 114, 115, 116, 117, 118, 119, 120, 121, 122, 123, 124, 125, 126, 127, 128, 129, 130, 131, 132, 133, 134, 135, 136, 137, 138, 139, 140, 141, 142, 143, 144, 145, 146, 147, 148, 149, 150, 151, 152, 153, 154, 155, 156, 157, 158, 159] (by decide +kernel) (by decide +kernel)
set_option maxRecDepth 20000 in
theorem gX4_study_X4_studyPart : GoodIn wsX4_study (wsV RX4 60 RX4 yX4_studyPart wsX4_studyPart) := goodIn_app (goodIn_of _ (by decide +kernel)) ggX4_study_X4_studyPart
theorem dX4_study_0 : decode cX4_study 0 = .ok (.aload_n 0, 1) := by decide +kernel
theorem dX4_study_1 : decode cX4_study 1 = .ok (.getfield 44, 3) := by decide +kernel
theorem dX4_study_4 : decode cX4_study 4 = .ok (.aload_n 0, 1) := by decide +kernel
theorem dX4_study_5 : decode cX4_study 5 = .ok (.getfield 12, 3) := by decide +kernel
theorem dX4_study_8 : decode cX4_study 8 = .ok (.invokevirtual 56, 3) := by decide +kernel
theorem dX4_study_11 : decode cX4_study 11 = .ok (.if_icmp .ne 4, 3) := by decide +kernel
theorem dX4_study_14 : decode cX4_study 14 = .ok (.return_, 1) := by decide +kernel
theorem dX4_study_15 : decode cX4_study 15 = .ok (.aload_n 0, 1) := by decide +kernel
theorem dX4_study_16 : decode cX4_study 16 = .ok (.sipush 255, 3) := by decide +kernel
theorem dX4_study_19 : decode cX4_study 19 = .ok (.invokevirtual 60, 3) := by decide +kernel
theorem dX4_study_22 : decode cX4_study 22 = .ok (.aload_n 0, 1) := by decide +kernel
theorem dX4_study_23 : decode cX4_study 23 = .ok (.aload_n 0, 1) := by decide +kernel
theorem dX4_study_24 : decode cX4_study 24 = .ok (.getfield 12, 3) := by decide +kernel
theorem dX4_study_27 : decode cX4_study 27 = .ok (.invokevirtual 56, 3) := by decide +kernel
theorem dX4_study_30 : decode cX4_study 30 = .ok (.putfield 44, 3) := by decide +kernel
theorem dX4_study_33 : decode cX4_study 33 = .ok (.return_, 1) := by decide +kernel
set_option maxRecDepth 20000 in
theorem ggX4_studyPart_X1_version : GoodIn wsX4_studyPart wsX1_version := goodIn_r _ [13, 14, 152, 153, 154, 155] (by decide +kernel) (by decide +kernel)
set_option maxRecDepth 20000 in
theorem gX4_studyPart_X1_version : GoodIn wsX4_studyPart (wsV RX4 56 RX1 yX1_version wsX1_version) := goodIn_app (goodIn_of _ (by decide +kernel)) ggX4_studyPart_X1_version
set_option maxRecDepth 20000 in
theorem ggX4_studyPart_X4_linkFullReferences : GoodIn wsX4_studyPart wsX4_linkFullReferences := goodIn_r _ [19, 3, 2, 20, 21, 9, 10, 11, 12, 13, 14, 22, 23, 24, 25, 26, 27, 28, 29, 30, 31, 32, 33, 34, 35, 36, 37, 38, 39, 40, 41, 42, 43, 44, 45, 46, 18, 47, 48, 49, 50, 51, 52, 53, 54, 55, 56, 57, 136, 137, 138, 139, 140, 141, 142, 143, 144, 145, 146, 147, 148, 149, 150, 151, 152, 153, 154, 155] (by decide +kernel) (by decide +kernel)
set_option maxRecDepth 20000 in
theorem gX4_studyPart_X4_linkFullReferences : GoodIn wsX4_studyPart (wsV RX4 64 RX4 yX4_linkFullReferences wsX4_linkFullReferences) := goodIn_app (goodIn_of _ (by decide +kernel)) ggX4_studyPart_X4_linkFullReferences
set_option maxRecDepth 20000 in
theorem ggX4_studyPart_X1_notes : GoodIn wsX4_studyPart wsX1_notes := goodIn_r _ [61, 26, 152, 153, 154, 155] (by decide +kernel) (by decide +kernel)
set_option maxRecDepth 20000 in
theorem gX4_studyPart_X1_notes : GoodIn wsX4_studyPart (wsV RX4 67 RX1 yX1_notes wsX1_notes) := goodIn_app (goodIn_of _ (by decide +kernel)) ggX4_studyPart_X1_notes
set_option maxRecDepth 20000 in
theorem ggX4_studyPart_X4_joinCases : GoodIn wsX4_studyPart wsX4_joinCases := goodIn_r _ [65, 66, 67, 68, 69, 70, 71, 72, 73, 74, 18, 75, 20, 76, 77, 78, 79, 4, 80, 33, 12, 34, 81, 82, 83, 84, 21, 85, 86, 87, 88, 3, 89, 90, 91, 48, 36, 37, 38, 39, 92, 93, 42, 94, 136, 137, 138, 139, 140, 141, 142, 143, 144, 145, 146, 147, 148, 149, 150, 151, 152, 153, 154, 155] (by decide +kernel) (by decide +kernel)
set_option maxRecDepth 20000 in
theorem gX4_studyPart_X4_joinCases : GoodIn wsX4_studyPart (wsV RX4 73 RX4 yX4_joinCases wsX4_joinCases) := goodIn_app (goodIn_of _ (by decide +kernel)) ggX4_studyPart_X4_joinCases
set_option maxRecDepth 20000 in
theorem ggX4_studyPart_J7_fill_53178 : GoodIn wsX4_studyPart wsJ7_fill_53178 := goodIn_r _ [71] (by decide +kernel) (by decide +kernel)
set_option maxRecDepth 20000 in
theorem gX4_studyPart_J7_fill_53178 : GoodIn wsX4_studyPart (va_wsS RX4 79 yJ7_fill_53178 wsJ7_fill_53178) := goodIn_app (goodIn_of _ (by decide +kernel)) ggX4_studyPart_J7_fill_53178
set_option maxRecDepth 20000 in
theorem ggX4_studyPart_X4_isPresent : GoodIn wsX4_studyPart wsX4_isPresent := goodIn_r _ [79, 4, 136, 137, 138, 139, 140, 141, 142, 143, 144, 145, 146, 147, 148, 149, 150, 151] (by decide +kernel) (by decide +kernel)
set_option maxRecDepth 20000 in
theorem gX4_studyPart_X4_isPresent : GoodIn wsX4_studyPart (wsV RX4 85 RX4 yX4_isPresent wsX4_isPresent) := goodIn_app (goodIn_of _ (by decide +kernel)) ggX4_studyPart_X4_isPresent
set_option maxRecDepth 20000 in
theorem ggX4_studyPart_X1_size : GoodIn wsX4_studyPart wsX1_size := goodIn_r _ [30, 26, 31, 152, 153, 154, 155] (by decide +kernel) (by decide +kernel)
set_option maxRecDepth 20000 in
theorem gX4_studyPart_X1_size : GoodIn wsX4_studyPart (wsV RX4 89 RX1 yX1_size wsX1_size) := goodIn_app (goodIn_of _ (by decide +kernel)) ggX4_studyPart_X1_size
set_option maxRecDepth 20000 in
theorem ggX4_studyPart_X4_resolve : GoodIn wsX4_studyPart wsX4_resolve := goodIn_r _ [99, 3, 7, 80, 33, 12, 34, 48, 36, 37, 38, 39, 100, 101, 42, 102, 92, 93, 94, 103, 104, 105, 18, 106, 67, 107, 41, 43, 108, 109, 110, 111, 91, 112, 113, 114, 115, 116, 6, 5, 8, 117, 118, 119, 120, 121, 122, 123, 124, 125, 126, 127, 128, 129, 130, 131, 95, 28, 29, 30, 26, 31, 76, 77, 78, 79, 4, 132, 133, 134, 135, 136, 137, 138, 139, 140, 141, 142, 143, 144, 145, 146, 147, 148, 149, 150, 151, 152, 153, 154, 155] (by decide +kernel) (by decide +kernel)
set_option maxRecDepth 20000 in
theorem gX4_studyPart_X4_resolve : GoodIn wsX4_studyPart (wsV RX4 93 RX4 yX4_resolve wsX4_resolve) := goodIn_app (goodIn_of _ (by decide +kernel)) ggX4_studyPart_X4_resolve
theorem dX4_studyPart_0 : decode cX4_studyPart 0 = .ok (.aload_n 0, 1) := by decide +kernel
theorem dX4_studyPart_1 : decode cX4_studyPart 1 = .ok (.iconst (-1), 1) := by decide +kernel
theorem dX4_studyPart_2 : decode cX4_studyPart 2 = .ok (.putfield 44, 3) := by decide +kernel
theorem dX4_studyPart_5 : decode cX4_studyPart 5 = .ok (.aload_n 0, 1) := by decide +kernel
theorem dX4_studyPart_6 : decode cX4_studyPart 6 = .ok (.getfield 40, 3) := by decide +kernel
theorem dX4_studyPart_9 : decode cX4_studyPart 9 = .ok (.aload_n 0, 1) := by decide +kernel
theorem dX4_studyPart_10 : decode cX4_studyPart 10 = .ok (.getfield 12, 3) := by decide +kernel
theorem dX4_studyPart_13 : decode cX4_studyPart 13 = .ok (.invokevirtual 56, 3) := by decide +kernel
theorem dX4_studyPart_16 : decode cX4_studyPart 16 = .ok (.if_icmp .eq 7, 3) := by decide +kernel
theorem dX4_studyPart_19 : decode cX4_studyPart 19 = .ok (.aload_n 0, 1) := by decide +kernel
theorem dX4_studyPart_20 : decode cX4_studyPart 20 = .ok (.invokevirtual 64, 3) := by decide +kernel
theorem dX4_studyPart_23 : decode cX4_studyPart 23 = .ok (.aload_n 0, 1) := by decide +kernel
theorem dX4_studyPart_24 : decode cX4_studyPart 24 = .ok (.iload_n 1, 1) := by decide +kernel
theorem dX4_studyPart_25 : decode cX4_studyPart 25 = .ok (.iconst 1, 1) := by decide +kernel
theorem dX4_studyPart_26 : decode cX4_studyPart 26 = .ok (.aload_n 0, 1) := by decide +kernel
theorem dX4_studyPart_27 : decode cX4_studyPart 27 = .ok (.getfield 12, 3) := by decide +kernel
theorem dX4_studyPart_30 : decode cX4_studyPart 30 = .ok (.invokevirtual 67, 3) := by decide +kernel
theorem dX4_studyPart_33 : decode cX4_studyPart 33 = .ok (.ishl, 1) := by decide +kernel
theorem dX4_studyPart_34 : decode cX4_studyPart 34 = .ok (.iconst 1, 1) := by decide +kernel
theorem dX4_studyPart_35 : decode cX4_studyPart 35 = .ok (.isub, 1) := by decide +kernel
theorem dX4_studyPart_36 : decode cX4_studyPart 36 = .ok (.iand, 1) := by decide +kernel
theorem dX4_studyPart_37 : decode cX4_studyPart 37 = .ok (.putfield 70, 3) := by decide +kernel
theorem dX4_studyPart_40 : decode cX4_studyPart 40 = .ok (.aload_n 0, 1) := by decide +kernel
theorem dX4_studyPart_41 : decode cX4_studyPart 41 = .ok (.invokevirtual 73, 3) := by decide +kernel
theorem dX4_studyPart_44 : decode cX4_studyPart 44 = .ok (.aload_n 0, 1) := by decide +kernel
theorem dX4_studyPart_45 : decode cX4_studyPart 45 = .ok (.iconst 0, 1) := by decide +kernel
theorem dX4_studyPart_46 : decode cX4_studyPart 46 = .ok (.putfield 50, 3) := by decide +kernel
theorem dX4_studyPart_49 : decode cX4_studyPart 49 = .ok (.aload_n 0, 1) := by decide +kernel
theorem dX4_studyPart_50 : decode cX4_studyPart 50 = .ok (.iconst 0, 1) := by decide +kernel
theorem dX4_studyPart_51 : decode cX4_studyPart 51 = .ok (.putfield 53, 3) := by decide +kernel
theorem dX4_studyPart_54 : decode cX4_studyPart 54 = .ok (.aload_n 0, 1) := by decide +kernel
theorem dX4_studyPart_55 : decode cX4_studyPart 55 = .ok (.iconst 0, 1) := by decide +kernel
theorem dX4_studyPart_56 : decode cX4_studyPart 56 = .ok (.putfield 76, 3) := by decide +kernel
theorem dX4_studyPart_59 : decode cX4_studyPart 59 = .ok (.aload_n 0, 1) := by decide +kernel
theorem dX4_studyPart_60 : decode cX4_studyPart 60 = .ok (.getfield 37, 3) := by decide +kernel
theorem dX4_studyPart_63 : decode cX4_studyPart 63 = .ok (.iconst 0, 1) := by decide +kernel
theorem dX4_studyPart_64 : decode cX4_studyPart 64 = .ok (.invokestatic 79, 3) := by decide +kernel
theorem dX4_studyPart_67 : decode cX4_studyPart 67 = .ok (.iconst (-1), 1) := by decide +kernel
theorem dX4_studyPart_68 : decode cX4_studyPart 68 = .ok (.istore_n 2, 1) := by decide +kernel
theorem dX4_studyPart_69 : decode cX4_studyPart 69 = .ok (.iconst 0, 1) := by decide +kernel
theorem dX4_studyPart_70 : decode cX4_studyPart 70 = .ok (.istore_n 3, 1) := by decide +kernel
theorem dX4_studyPart_71 : decode cX4_studyPart 71 = .ok (.iload_n 3, 1) := by decide +kernel
theorem dX4_studyPart_72 : decode cX4_studyPart 72 = .ok (.aload_n 0, 1) := by decide +kernel
theorem dX4_studyPart_73 : decode cX4_studyPart 73 = .ok (.getfield 12, 3) := by decide +kernel
theorem dX4_studyPart_76 : decode cX4_studyPart 76 = .ok (.invokevirtual 67, 3) := by decide +kernel
theorem dX4_studyPart_79 : decode cX4_studyPart 79 = .ok (.if_icmp .ge 52, 3) := by decide +kernel
theorem dX4_studyPart_82 : decode cX4_studyPart 82 = .ok (.aload_n 0, 1) := by decide +kernel
theorem dX4_studyPart_83 : decode cX4_studyPart 83 = .ok (.iload_n 3, 1) := by decide +kernel
theorem dX4_studyPart_84 : decode cX4_studyPart 84 = .ok (.invokevirtual 85, 3) := by decide +kernel
theorem dX4_studyPart_87 : decode cX4_studyPart 87 = .ok (.ifCond .ne 6, 3) := by decide +kernel
theorem dX4_studyPart_90 : decode cX4_studyPart 90 = .ok (.goto 35, 3) := by decide +kernel
theorem dX4_studyPart_93 : decode cX4_studyPart 93 = .ok (.iconst 0, 1) := by decide +kernel
theorem dX4_studyPart_94 : decode cX4_studyPart 94 = .ok (.istore 4, 2) := by decide +kernel
theorem dX4_studyPart_96 : decode cX4_studyPart 96 = .ok (.iload 4, 2) := by decide +kernel
theorem dX4_studyPart_98 : decode cX4_studyPart 98 = .ok (.aload_n 0, 1) := by decide +kernel
theorem dX4_studyPart_99 : decode cX4_studyPart 99 = .ok (.getfield 12, 3) := by decide +kernel
theorem dX4_studyPart_102 : decode cX4_studyPart 102 = .ok (.iload_n 3, 1) := by decide +kernel
theorem dX4_studyPart_103 : decode cX4_studyPart 103 = .ok (.invokevirtual 89, 3) := by decide +kernel
theorem dX4_studyPart_106 : decode cX4_studyPart 106 = .ok (.if_icmp .ge 17, 3) := by decide +kernel
theorem dX4_studyPart_109 : decode cX4_studyPart 109 = .ok (.aload_n 0, 1) := by decide +kernel
theorem dX4_studyPart_110 : decode cX4_studyPart 110 = .ok (.iload_n 3, 1) := by decide +kernel
theorem dX4_studyPart_111 : decode cX4_studyPart 111 = .ok (.iload 4, 2) := by decide +kernel
theorem dX4_studyPart_113 : decode cX4_studyPart 113 = .ok (.iload_n 2, 1) := by decide +kernel
theorem dX4_studyPart_114 : decode cX4_studyPart 114 = .ok (.invokevirtual 93, 3) := by decide +kernel
theorem dX4_studyPart_117 : decode cX4_studyPart 117 = .ok (.iinc 4 1, 3) := by decide +kernel
theorem dX4_studyPart_120 : decode cX4_studyPart 120 = .ok (.goto (-24), 3) := by decide +kernel
theorem dX4_studyPart_123 : decode cX4_studyPart 123 = .ok (.iload_n 3, 1) := by decide +kernel
theorem dX4_studyPart_124 : decode cX4_studyPart 124 = .ok (.istore_n 2, 1) := by decide +kernel
theorem dX4_studyPart_125 : decode cX4_studyPart 125 = .ok (.iinc 3 1, 3) := by decide +kernel
theorem dX4_studyPart_128 : decode cX4_studyPart 128 = .ok (.goto (-57), 3) := by decide +kernel
theorem dX4_studyPart_131 : decode cX4_studyPart 131 = .ok (.return_, 1) := by decide +kernel
theorem dX4_isFull_0 : decode cX4_isFull 0 = .ok (.aload_n 0, 1) := by decide +kernel
theorem dX4_isFull_1 : decode cX4_isFull 1 = .ok (.getfield 97, 3) := by decide +kernel
theorem dX4_isFull_4 : decode cX4_isFull 4 = .ok (.iload_n 1, 1) := by decide +kernel
theorem dX4_isFull_5 : decode cX4_isFull 5 = .ok (.ishr, 1) := by decide +kernel
theorem dX4_isFull_6 : decode cX4_isFull 6 = .ok (.iconst 1, 1) := by decide +kernel
theorem dX4_isFull_7 : decode cX4_isFull 7 = .ok (.iand, 1) := by decide +kernel
theorem dX4_isFull_8 : decode cX4_isFull 8 = .ok (.iconst 1, 1) := by decide +kernel
theorem dX4_isFull_9 : decode cX4_isFull 9 = .ok (.if_icmp .ne 7, 3) := by decide +kernel
theorem dX4_isFull_12 : decode cX4_isFull 12 = .ok (.iconst 1, 1) := by decide +kernel
theorem dX4_isFull_13 : decode cX4_isFull 13 = .ok (.goto 4, 3) := by decide +kernel
theorem dX4_isFull_16 : decode cX4_isFull 16 = .ok (.iconst 0, 1) := by decide +kernel
theorem dX4_isFull_17 : decode cX4_isFull 17 = .ok (.ireturn, 1) := by decide +kernel
theorem dX4_isPresent_0 : decode cX4_isPresent 0 = .ok (.iload_n 1, 1) := by decide +kernel
theorem dX4_isPresent_1 : decode cX4_isPresent 1 = .ok (.ifCond .lt 25, 3) := by decide +kernel
theorem dX4_isPresent_4 : decode cX4_isPresent 4 = .ok (.iload_n 1, 1) := by decide +kernel
theorem dX4_isPresent_5 : decode cX4_isPresent 5 = .ok (.bipush 8, 2) := by decide +kernel
theorem dX4_isPresent_7 : decode cX4_isPresent 7 = .ok (.if_icmp .ge 19, 3) := by decide +kernel
theorem dX4_isPresent_10 : decode cX4_isPresent 10 = .ok (.aload_n 0, 1) := by decide +kernel
theorem dX4_isPresent_11 : decode cX4_isPresent 11 = .ok (.getfield 70, 3) := by decide +kernel
theorem dX4_isPresent_14 : decode cX4_isPresent 14 = .ok (.iload_n 1, 1) := by decide +kernel
theorem dX4_isPresent_15 : decode cX4_isPresent 15 = .ok (.ishr, 1) := by decide +kernel
theorem dX4_isPresent_16 : decode cX4_isPresent 16 = .ok (.iconst 1, 1) := by decide +kernel
theorem dX4_isPresent_17 : decode cX4_isPresent 17 = .ok (.iand, 1) := by decide +kernel
theorem dX4_isPresent_18 : decode cX4_isPresent 18 = .ok (.iconst 1, 1) := by decide +kernel
theorem dX4_isPresent_19 : decode cX4_isPresent 19 = .ok (.if_icmp .ne 7, 3) := by decide +kernel
theorem dX4_isPresent_22 : decode cX4_isPresent 22 = .ok (.iconst 1, 1) := by decide +kernel
theorem dX4_isPresent_23 : decode cX4_isPresent 23 = .ok (.goto 4, 3) := by decide +kernel
theorem dX4_isPresent_26 : decode cX4_isPresent 26 = .ok (.iconst 0, 1) := by decide +kernel
theorem dX4_isPresent_27 : decode cX4_isPresent 27 = .ok (.ireturn, 1) := by decide +kernel
set_option maxRecDepth 20000 in
theorem ggX4_linkFullReferences_X1_version : GoodIn wsX4_linkFullReferences wsX1_version := goodIn_r _ [9, 10, 64, 65, 66, 67] (by decide +kernel) (by decide +kernel)
set_option maxRecDepth 20000 in
theorem gX4_linkFullReferences_X1_version : GoodIn wsX4_linkFullReferences (wsV RX4 56 RX1 yX1_version wsX1_version) := goodIn_app (goodIn_of _ (by decide +kernel)) ggX4_linkFullReferences_X1_version
set_option maxRecDepth 20000 in
theorem ggX4_linkFullReferences_X1_fullSlots : GoodIn wsX4_linkFullReferences wsX1_fullSlots := goodIn_r _ [14, 15, 16, 17, 18, 8, 19, 20, 21, 22, 23, 24, 25, 26, 27, 28, 29, 30, 31, 32, 64, 65, 66, 67] (by decide +kernel) (by decide +kernel)
set_option maxRecDepth 20000 in
theorem gX4_linkFullReferences_X1_fullSlots : GoodIn wsX4_linkFullReferences (wsV RX4 100 RX1 yX1_fullSlots wsX1_fullSlots) := goodIn_app (goodIn_of _ (by decide +kernel)) ggX4_linkFullReferences_X1_fullSlots
set_option maxRecDepth 20000 in
theorem ggX4_linkFullReferences_X4_isFull : GoodIn wsX4_linkFullReferences wsX4_isFull := goodIn_r _ [37, 3, 48, 49, 50, 51, 52, 53, 54, 55, 56, 57, 58, 59, 60, 61, 62, 63] (by decide +kernel) (by decide +kernel)
set_option maxRecDepth 20000 in
theorem gX4_linkFullReferences_X4_isFull : GoodIn wsX4_linkFullReferences (wsV RX4 103 RX4 yX4_isFull wsX4_isFull) := goodIn_app (goodIn_of _ (by decide +kernel)) ggX4_linkFullReferences_X4_isFull
set_option maxRecDepth 20000 in
theorem ggX4_linkFullReferences_X1_cite : GoodIn wsX4_linkFullReferences wsX1_cite := goodIn_r _ [27, 28, 64, 65, 66, 67] (by decide +kernel) (by decide +kernel)
set_option maxRecDepth 20000 in
theorem gX4_linkFullReferences_X1_cite : GoodIn wsX4_linkFullReferences (wsV RX4 106 RX1 yX1_cite wsX1_cite) := goodIn_app (goodIn_of _ (by decide +kernel)) ggX4_linkFullReferences_X1_cite
set_option maxRecDepth 20000 in
theorem ggX4_linkFullReferences_X0_haveCommonReport : GoodIn wsX4_linkFullReferences wsX0_haveCommonReport := goodIn_r _ [41, 42, 43, 31, 44, 45, 46, 47] (by decide +kernel) (by decide +kernel)
set_option maxRecDepth 20000 in
theorem gX4_linkFullReferences_X0_haveCommonReport : GoodIn wsX4_linkFullReferences (va_wsS RX4 110 yX0_haveCommonReport wsX0_haveCommonReport) := goodIn_app (goodIn_of _ (by decide +kernel)) ggX4_linkFullReferences_X0_haveCommonReport
theorem dX4_linkFullReferences_0 : decode cX4_linkFullReferences 0 = .ok (.aload_n 0, 1) := by decide +kernel
theorem dX4_linkFullReferences_1 : decode cX4_linkFullReferences 1 = .ok (.aload_n 0, 1) := by decide +kernel
theorem dX4_linkFullReferences_2 : decode cX4_linkFullReferences 2 = .ok (.getfield 12, 3) := by decide +kernel
theorem dX4_linkFullReferences_5 : decode cX4_linkFullReferences 5 = .ok (.invokevirtual 56, 3) := by decide +kernel
theorem dX4_linkFullReferences_8 : decode cX4_linkFullReferences 8 = .ok (.putfield 40, 3) := by decide +kernel
theorem dX4_linkFullReferences_11 : decode cX4_linkFullReferences 11 = .ok (.aload_n 0, 1) := by decide +kernel
theorem dX4_linkFullReferences_12 : decode cX4_linkFullReferences 12 = .ok (.aload_n 0, 1) := by decide +kernel
theorem dX4_linkFullReferences_13 : decode cX4_linkFullReferences 13 = .ok (.getfield 12, 3) := by decide +kernel
theorem dX4_linkFullReferences_16 : decode cX4_linkFullReferences 16 = .ok (.invokevirtual 100, 3) := by decide +kernel
theorem dX4_linkFullReferences_19 : decode cX4_linkFullReferences 19 = .ok (.putfield 97, 3) := by decide +kernel
theorem dX4_linkFullReferences_22 : decode cX4_linkFullReferences 22 = .ok (.iconst 0, 1) := by decide +kernel
theorem dX4_linkFullReferences_23 : decode cX4_linkFullReferences 23 = .ok (.istore_n 1, 1) := by decide +kernel
theorem dX4_linkFullReferences_24 : decode cX4_linkFullReferences 24 = .ok (.iload_n 1, 1) := by decide +kernel
theorem dX4_linkFullReferences_25 : decode cX4_linkFullReferences 25 = .ok (.bipush 32, 2) := by decide +kernel
theorem dX4_linkFullReferences_27 : decode cX4_linkFullReferences 27 = .ok (.if_icmp .ge 100, 3) := by decide +kernel
theorem dX4_linkFullReferences_30 : decode cX4_linkFullReferences 30 = .ok (.aload_n 0, 1) := by decide +kernel
theorem dX4_linkFullReferences_31 : decode cX4_linkFullReferences 31 = .ok (.getfield 18, 3) := by decide +kernel
theorem dX4_linkFullReferences_34 : decode cX4_linkFullReferences 34 = .ok (.iload_n 1, 1) := by decide +kernel
theorem dX4_linkFullReferences_35 : decode cX4_linkFullReferences 35 = .ok (.iconst 0, 1) := by decide +kernel
theorem dX4_linkFullReferences_36 : decode cX4_linkFullReferences 36 = .ok (.iastore, 1) := by decide +kernel
theorem dX4_linkFullReferences_37 : decode cX4_linkFullReferences 37 = .ok (.aload_n 0, 1) := by decide +kernel
theorem dX4_linkFullReferences_38 : decode cX4_linkFullReferences 38 = .ok (.iload_n 1, 1) := by decide +kernel
theorem dX4_linkFullReferences_39 : decode cX4_linkFullReferences 39 = .ok (.invokevirtual 103, 3) := by decide +kernel
theorem dX4_linkFullReferences_42 : decode cX4_linkFullReferences 42 = .ok (.ifCond .ne 6, 3) := by decide +kernel
theorem dX4_linkFullReferences_45 : decode cX4_linkFullReferences 45 = .ok (.goto 76, 3) := by decide +kernel
theorem dX4_linkFullReferences_48 : decode cX4_linkFullReferences 48 = .ok (.iconst 0, 1) := by decide +kernel
theorem dX4_linkFullReferences_49 : decode cX4_linkFullReferences 49 = .ok (.istore_n 2, 1) := by decide +kernel
theorem dX4_linkFullReferences_50 : decode cX4_linkFullReferences 50 = .ok (.iload_n 2, 1) := by decide +kernel
theorem dX4_linkFullReferences_51 : decode cX4_linkFullReferences 51 = .ok (.iload_n 1, 1) := by decide +kernel
theorem dX4_linkFullReferences_52 : decode cX4_linkFullReferences 52 = .ok (.if_icmp .ge 69, 3) := by decide +kernel
theorem dX4_linkFullReferences_55 : decode cX4_linkFullReferences 55 = .ok (.aload_n 0, 1) := by decide +kernel
theorem dX4_linkFullReferences_56 : decode cX4_linkFullReferences 56 = .ok (.iload_n 2, 1) := by decide +kernel
theorem dX4_linkFullReferences_57 : decode cX4_linkFullReferences 57 = .ok (.invokevirtual 103, 3) := by decide +kernel
theorem dX4_linkFullReferences_60 : decode cX4_linkFullReferences 60 = .ok (.ifCond .ne 6, 3) := by decide +kernel
theorem dX4_linkFullReferences_63 : decode cX4_linkFullReferences 63 = .ok (.goto 52, 3) := by decide +kernel
theorem dX4_linkFullReferences_66 : decode cX4_linkFullReferences 66 = .ok (.aload_n 0, 1) := by decide +kernel
theorem dX4_linkFullReferences_67 : decode cX4_linkFullReferences 67 = .ok (.getfield 12, 3) := by decide +kernel
theorem dX4_linkFullReferences_70 : decode cX4_linkFullReferences 70 = .ok (.iload_n 1, 1) := by decide +kernel
theorem dX4_linkFullReferences_71 : decode cX4_linkFullReferences 71 = .ok (.invokevirtual 106, 3) := by decide +kernel
theorem dX4_linkFullReferences_74 : decode cX4_linkFullReferences 74 = .ok (.aload_n 0, 1) := by decide +kernel
theorem dX4_linkFullReferences_75 : decode cX4_linkFullReferences 75 = .ok (.getfield 12, 3) := by decide +kernel
theorem dX4_linkFullReferences_78 : decode cX4_linkFullReferences 78 = .ok (.iload_n 2, 1) := by decide +kernel
theorem dX4_linkFullReferences_79 : decode cX4_linkFullReferences 79 = .ok (.invokevirtual 106, 3) := by decide +kernel
theorem dX4_linkFullReferences_82 : decode cX4_linkFullReferences 82 = .ok (.invokestatic 110, 3) := by decide +kernel
theorem dX4_linkFullReferences_85 : decode cX4_linkFullReferences 85 = .ok (.ifCond .ne 6, 3) := by decide +kernel
theorem dX4_linkFullReferences_88 : decode cX4_linkFullReferences 88 = .ok (.goto 27, 3) := by decide +kernel
theorem dX4_linkFullReferences_91 : decode cX4_linkFullReferences 91 = .ok (.aload_n 0, 1) := by decide +kernel
theorem dX4_linkFullReferences_92 : decode cX4_linkFullReferences 92 = .ok (.getfield 18, 3) := by decide +kernel
theorem dX4_linkFullReferences_95 : decode cX4_linkFullReferences 95 = .ok (.iload_n 1, 1) := by decide +kernel
theorem dX4_linkFullReferences_96 : decode cX4_linkFullReferences 96 = .ok (.dup2, 1) := by decide +kernel
theorem dX4_linkFullReferences_97 : decode cX4_linkFullReferences 97 = .ok (.iaload, 1) := by decide +kernel
theorem dX4_linkFullReferences_98 : decode cX4_linkFullReferences 98 = .ok (.iconst 1, 1) := by decide +kernel
theorem dX4_linkFullReferences_99 : decode cX4_linkFullReferences 99 = .ok (.iload_n 2, 1) := by decide +kernel
theorem dX4_linkFullReferences_100 : decode cX4_linkFullReferences 100 = .ok (.ishl, 1) := by decide +kernel
theorem dX4_linkFullReferences_101 : decode cX4_linkFullReferences 101 = .ok (.ior, 1) := by decide +kernel
theorem dX4_linkFullReferences_102 : decode cX4_linkFullReferences 102 = .ok (.iastore, 1) := by decide +kernel
theorem dX4_linkFullReferences_103 : decode cX4_linkFullReferences 103 = .ok (.aload_n 0, 1) := by decide +kernel
theorem dX4_linkFullReferences_104 : decode cX4_linkFullReferences 104 = .ok (.getfield 18, 3) := by decide +kernel
theorem dX4_linkFullReferences_107 : decode cX4_linkFullReferences 107 = .ok (.iload_n 2, 1) := by decide +kernel
theorem dX4_linkFullReferences_108 : decode cX4_linkFullReferences 108 = .ok (.dup2, 1) := by decide +kernel
theorem dX4_linkFullReferences_109 : decode cX4_linkFullReferences 109 = .ok (.iaload, 1) := by decide +kernel
theorem dX4_linkFullReferences_110 : decode cX4_linkFullReferences 110 = .ok (.iconst 1, 1) := by decide +kernel
theorem dX4_linkFullReferences_111 : decode cX4_linkFullReferences 111 = .ok (.iload_n 1, 1) := by decide +kernel
theorem dX4_linkFullReferences_112 : decode cX4_linkFullReferences 112 = .ok (.ishl, 1) := by decide +kernel
theorem dX4_linkFullReferences_113 : decode cX4_linkFullReferences 113 = .ok (.ior, 1) := by decide +kernel
theorem dX4_linkFullReferences_114 : decode cX4_linkFullReferences 114 = .ok (.iastore, 1) := by decide +kernel
theorem dX4_linkFullReferences_115 : decode cX4_linkFullReferences 115 = .ok (.iinc 2 1, 3) := by decide +kernel
theorem dX4_linkFullReferences_118 : decode cX4_linkFullReferences 118 = .ok (.goto (-68), 3) := by decide +kernel
theorem dX4_linkFullReferences_121 : decode cX4_linkFullReferences 121 = .ok (.iinc 1 1, 3) := by decide +kernel
theorem dX4_linkFullReferences_124 : decode cX4_linkFullReferences 124 = .ok (.goto (-100), 3) := by decide +kernel
theorem dX4_linkFullReferences_127 : decode cX4_linkFullReferences 127 = .ok (.return_, 1) := by decide +kernel
set_option maxRecDepth 20000 in
theorem ggX4_joinCases_J7_fill_53178 : GoodIn wsX4_joinCases wsJ7_fill_53178 := goodIn_r _ [6] (by decide +kernel) (by decide +kernel)
set_option maxRecDepth 20000 in
theorem gX4_joinCases_J7_fill_53178 : GoodIn wsX4_joinCases (va_wsS RX4 79 yJ7_fill_53178 wsJ7_fill_53178) := goodIn_app (goodIn_of _ (by decide +kernel)) ggX4_joinCases_J7_fill_53178
set_option maxRecDepth 20000 in
theorem ggX4_joinCases_X4_presentFullReferences : GoodIn wsX4_joinCases wsX4_presentFullReferences := goodIn_r _ [11, 12, 13, 14, 15, 10, 16, 17, 18, 19, 20, 21, 44, 45, 46, 47, 48, 49, 50, 51, 52, 53, 54, 55, 56, 57, 58, 59] (by decide +kernel) (by decide +kernel)
set_option maxRecDepth 20000 in
theorem gX4_joinCases_X4_presentFullReferences : GoodIn wsX4_joinCases (wsV RX4 116 RX4 yX4_presentFullReferences wsX4_presentFullReferences) := goodIn_app (goodIn_of _ (by decide +kernel)) ggX4_joinCases_X4_presentFullReferences
set_option maxRecDepth 20000 in
theorem ggX4_joinCases_X4_joinedTo : GoodIn wsX4_joinCases wsX4_joinedTo := goodIn_r _ [25, 26, 44, 45, 46, 47, 48, 49, 50, 51, 52, 53, 54, 55, 56, 57, 58, 59] (by decide +kernel) (by decide +kernel)
set_option maxRecDepth 20000 in
theorem gX4_joinCases_X4_joinedTo : GoodIn wsX4_joinCases (wsV RX4 119 RX4 yX4_joinedTo wsX4_joinedTo) := goodIn_app (goodIn_of _ (by decide +kernel)) ggX4_joinCases_X4_joinedTo
set_option maxRecDepth 20000 in
theorem ggX4_joinCases_X4_addCase : GoodIn wsX4_joinCases wsX4_addCase := goodIn_r _ [30, 1, 31, 2, 32, 33, 34, 35, 36, 37, 20, 38, 39, 40, 41, 42, 43, 44, 45, 46, 47, 48, 49, 50, 51, 52, 53, 54, 55, 56, 57, 58, 59, 60, 61, 62, 63] (by decide +kernel) (by decide +kernel)
set_option maxRecDepth 20000 in
theorem gX4_joinCases_X4_addCase : GoodIn wsX4_joinCases (wsV RX4 123 RX4 yX4_addCase wsX4_addCase) := goodIn_app (goodIn_of _ (by decide +kernel)) ggX4_joinCases_X4_addCase
theorem dX4_joinCases_0 : decode cX4_joinCases 0 = .ok (.aload_n 0, 1) := by decide +kernel
theorem dX4_joinCases_1 : decode cX4_joinCases 1 = .ok (.iconst 0, 1) := by decide +kernel
theorem dX4_joinCases_2 : decode cX4_joinCases 2 = .ok (.putfield 47, 3) := by decide +kernel
theorem dX4_joinCases_5 : decode cX4_joinCases 5 = .ok (.aload_n 0, 1) := by decide +kernel
theorem dX4_joinCases_6 : decode cX4_joinCases 6 = .ok (.getfield 34, 3) := by decide +kernel
theorem dX4_joinCases_9 : decode cX4_joinCases 9 = .ok (.iconst 0, 1) := by decide +kernel
theorem dX4_joinCases_10 : decode cX4_joinCases 10 = .ok (.invokestatic 79, 3) := by decide +kernel
theorem dX4_joinCases_13 : decode cX4_joinCases 13 = .ok (.aload_n 0, 1) := by decide +kernel
theorem dX4_joinCases_14 : decode cX4_joinCases 14 = .ok (.invokevirtual 116, 3) := by decide +kernel
theorem dX4_joinCases_17 : decode cX4_joinCases 17 = .ok (.istore_n 1, 1) := by decide +kernel
theorem dX4_joinCases_18 : decode cX4_joinCases 18 = .ok (.iconst 0, 1) := by decide +kernel
theorem dX4_joinCases_19 : decode cX4_joinCases 19 = .ok (.istore_n 2, 1) := by decide +kernel
theorem dX4_joinCases_20 : decode cX4_joinCases 20 = .ok (.iload_n 2, 1) := by decide +kernel
theorem dX4_joinCases_21 : decode cX4_joinCases 21 = .ok (.bipush 32, 2) := by decide +kernel
theorem dX4_joinCases_23 : decode cX4_joinCases 23 = .ok (.if_icmp .ge 39, 3) := by decide +kernel
theorem dX4_joinCases_26 : decode cX4_joinCases 26 = .ok (.iload_n 1, 1) := by decide +kernel
theorem dX4_joinCases_27 : decode cX4_joinCases 27 = .ok (.iload_n 2, 1) := by decide +kernel
theorem dX4_joinCases_28 : decode cX4_joinCases 28 = .ok (.ishr, 1) := by decide +kernel
theorem dX4_joinCases_29 : decode cX4_joinCases 29 = .ok (.iconst 1, 1) := by decide +kernel
theorem dX4_joinCases_30 : decode cX4_joinCases 30 = .ok (.iand, 1) := by decide +kernel
theorem dX4_joinCases_31 : decode cX4_joinCases 31 = .ok (.ifCond .ne 6, 3) := by decide +kernel
theorem dX4_joinCases_34 : decode cX4_joinCases 34 = .ok (.goto 22, 3) := by decide +kernel
theorem dX4_joinCases_37 : decode cX4_joinCases 37 = .ok (.aload_n 0, 1) := by decide +kernel
theorem dX4_joinCases_38 : decode cX4_joinCases 38 = .ok (.iload_n 2, 1) := by decide +kernel
theorem dX4_joinCases_39 : decode cX4_joinCases 39 = .ok (.iload_n 1, 1) := by decide +kernel
theorem dX4_joinCases_40 : decode cX4_joinCases 40 = .ok (.invokevirtual 119, 3) := by decide +kernel
theorem dX4_joinCases_43 : decode cX4_joinCases 43 = .ok (.istore_n 3, 1) := by decide +kernel
theorem dX4_joinCases_44 : decode cX4_joinCases 44 = .ok (.iload_n 1, 1) := by decide +kernel
theorem dX4_joinCases_45 : decode cX4_joinCases 45 = .ok (.iload_n 3, 1) := by decide +kernel
theorem dX4_joinCases_46 : decode cX4_joinCases 46 = .ok (.iconst (-1), 1) := by decide +kernel
theorem dX4_joinCases_47 : decode cX4_joinCases 47 = .ok (.ixor, 1) := by decide +kernel
