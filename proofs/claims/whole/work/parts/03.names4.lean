theorem dX4_misfits_1 : decode cX4_misfits 1 = .ok (.istore_n 2, 1) := by decide +kernel
theorem dX4_misfits_2 : decode cX4_misfits 2 = .ok (.iconst 0, 1) := by decide +kernel
theorem dX4_misfits_3 : decode cX4_misfits 3 = .ok (.istore_n 3, 1) := by decide +kernel
theorem dX4_misfits_4 : decode cX4_misfits 4 = .ok (.iload_n 3, 1) := by decide +kernel
theorem dX4_misfits_5 : decode cX4_misfits 5 = .ok (.aload_n 0, 1) := by decide +kernel
theorem dX4_misfits_6 : decode cX4_misfits 6 = .ok (.getfield 7, 3) := by decide +kernel
theorem dX4_misfits_9 : decode cX4_misfits 9 = .ok (.iconst 0, 1) := by decide +kernel
theorem dX4_misfits_10 : decode cX4_misfits 10 = .ok (.iaload, 1) := by decide +kernel
theorem dX4_misfits_11 : decode cX4_misfits 11 = .ok (.if_icmp .ge 36, 3) := by decide +kernel
theorem dX4_misfits_14 : decode cX4_misfits 14 = .ok (.iload_n 2, 1) := by decide +kernel
theorem dX4_misfits_15 : decode cX4_misfits 15 = .ok (.aload_n 0, 1) := by decide +kernel
theorem dX4_misfits_16 : decode cX4_misfits 16 = .ok (.iload_n 3, 1) := by decide +kernel
theorem dX4_misfits_17 : decode cX4_misfits 17 = .ok (.iconst 2, 1) := by decide +kernel
theorem dX4_misfits_18 : decode cX4_misfits 18 = .ok (.invokevirtual 69, 3) := by decide +kernel
theorem dX4_misfits_21 : decode cX4_misfits 21 = .ok (.iload_n 1, 1) := by decide +kernel
theorem dX4_misfits_22 : decode cX4_misfits 22 = .ok (.if_icmp .ne 7, 3) := by decide +kernel
theorem dX4_misfits_25 : decode cX4_misfits 25 = .ok (.iconst 0, 1) := by decide +kernel
theorem dX4_misfits_26 : decode cX4_misfits 26 = .ok (.goto 13, 3) := by decide +kernel
theorem dX4_misfits_29 : decode cX4_misfits 29 = .ok (.aload_n 0, 1) := by decide +kernel
theorem dX4_misfits_30 : decode cX4_misfits 30 = .ok (.getfield 7, 3) := by decide +kernel
theorem dX4_misfits_33 : decode cX4_misfits 33 = .ok (.iload_n 1, 1) := by decide +kernel
theorem dX4_misfits_34 : decode cX4_misfits 34 = .ok (.iload_n 3, 1) := by decide +kernel
theorem dX4_misfits_35 : decode cX4_misfits 35 = .ok (.invokestatic 79, 3) := by decide +kernel
theorem dX4_misfits_38 : decode cX4_misfits 38 = .ok (.iaload, 1) := by decide +kernel
theorem dX4_misfits_39 : decode cX4_misfits 39 = .ok (.iadd, 1) := by decide +kernel
theorem dX4_misfits_40 : decode cX4_misfits 40 = .ok (.istore_n 2, 1) := by decide +kernel
theorem dX4_misfits_41 : decode cX4_misfits 41 = .ok (.iinc 3 1, 3) := by decide +kernel
theorem dX4_misfits_44 : decode cX4_misfits 44 = .ok (.goto (-40), 3) := by decide +kernel
theorem dX4_misfits_47 : decode cX4_misfits 47 = .ok (.iload_n 2, 1) := by decide +kernel
theorem dX4_misfits_48 : decode cX4_misfits 48 = .ok (.ireturn, 1) := by decide +kernel
set_option maxRecDepth 20000 in
theorem ggX4_railOf_X4_inBag : GoodIn wsX4_railOf wsX4_inBag := goodIn_r _ [5, 6, 7, 8, 4, 9, 40, 41, 42, 43, 44, 45, 46, 47, 48, 49] (by decide +kernel) (by decide +kernel)
set_option maxRecDepth 20000 in
theorem gX4_railOf_X4_inBag : GoodIn wsX4_railOf (wsV RX4 85 RX4 yX4_inBag wsX4_inBag) := goodIn_app (goodIn_of _ (by decide +kernel)) ggX4_railOf_X4_inBag
set_option maxRecDepth 20000 in
theorem ggX4_railOf_X4_ofRail : GoodIn wsX4_railOf wsX4_ofRail := goodIn_r _ [13, 6, 14, 15, 4, 16, 40, 41, 42, 43, 44, 45, 46, 47, 48, 49] (by decide +kernel) (by decide +kernel)
set_option maxRecDepth 20000 in
theorem gX4_railOf_X4_ofRail : GoodIn wsX4_railOf (wsV RX4 76 RX4 yX4_ofRail wsX4_ofRail) := goodIn_app (goodIn_of _ (by decide +kernel)) ggX4_railOf_X4_ofRail
set_option maxRecDepth 20000 in
theorem ggX4_railOf_X4_taken : GoodIn wsX4_railOf wsX4_taken := goodIn_r _ [20, 21, 22, 23, 4, 24, 6, 25, 26, 27, 28, 29, 30, 31, 1, 2, 3, 5, 7, 8, 9, 40, 41, 42, 43, 44, 45, 46, 47, 48, 49] (by decide +kernel) (by decide +kernel)
set_option maxRecDepth 20000 in
theorem gX4_railOf_X4_taken : GoodIn wsX4_railOf (wsV RX4 131 RX4 yX4_taken wsX4_taken) := goodIn_app (goodIn_of _ (by decide +kernel)) ggX4_railOf_X4_taken
set_option maxRecDepth 20000 in
theorem ggX4_railOf_X4_worth : GoodIn wsX4_railOf wsX4_worth := goodIn_r _ [35, 6, 7, 8, 4, 9, 25, 26, 27, 28, 29, 30, 31, 40, 41, 42, 43, 44, 45, 46, 47, 48, 49] (by decide +kernel) (by decide +kernel)
set_option maxRecDepth 20000 in
theorem gX4_railOf_X4_worth : GoodIn wsX4_railOf (wsV RX4 134 RX4 yX4_worth wsX4_worth) := goodIn_app (goodIn_of _ (by decide +kernel)) ggX4_railOf_X4_worth
set_option maxRecDepth 20000 in
theorem ggX4_railOf_X4_misfits : GoodIn wsX4_railOf wsX4_misfits := goodIn_r _ [39, 6, 25, 26, 27, 4, 28, 29, 30, 31, 7, 8, 9, 40, 41, 42, 43, 44, 45, 46, 47, 48, 49] (by decide +kernel) (by decide +kernel)
set_option maxRecDepth 20000 in
theorem gX4_railOf_X4_misfits : GoodIn wsX4_railOf (wsV RX4 137 RX4 yX4_misfits wsX4_misfits) := goodIn_app (goodIn_of _ (by decide +kernel)) ggX4_railOf_X4_misfits
set_option maxRecDepth 20000 in
theorem ggX4_railOf_X4_due : GoodIn wsX4_railOf wsX4_due := goodIn_r _ [24, 6, 25, 26, 27, 4, 28, 29, 30, 31, 40, 41, 42, 43, 44, 45, 46, 47, 48, 49] (by decide +kernel) (by decide +kernel)
set_option maxRecDepth 20000 in
theorem gX4_railOf_X4_due : GoodIn wsX4_railOf (wsV RX4 128 RX4 yX4_due wsX4_due) := goodIn_app (goodIn_of _ (by decide +kernel)) ggX4_railOf_X4_due
theorem dX4_railOf_0 : decode cX4_railOf 0 = .ok (.iload_n 2, 1) := by decide +kernel
theorem dX4_railOf_1 : decode cX4_railOf 1 = .ok (.tableswitch 98 2 9 #[47, 53, 60, 67, 73, 79, 85, 91], 47) := by decide +kernel
theorem dX4_railOf_48 : decode cX4_railOf 48 = .ok (.aload_n 0, 1) := by decide +kernel
theorem dX4_railOf_49 : decode cX4_railOf 49 = .ok (.iload_n 1, 1) := by decide +kernel
theorem dX4_railOf_50 : decode cX4_railOf 50 = .ok (.invokevirtual 85, 3) := by decide +kernel
theorem dX4_railOf_53 : decode cX4_railOf 53 = .ok (.ireturn, 1) := by decide +kernel
theorem dX4_railOf_54 : decode cX4_railOf 54 = .ok (.aload_n 0, 1) := by decide +kernel
theorem dX4_railOf_55 : decode cX4_railOf 55 = .ok (.iload_n 1, 1) := by decide +kernel
theorem dX4_railOf_56 : decode cX4_railOf 56 = .ok (.iconst 2, 1) := by decide +kernel
theorem dX4_railOf_57 : decode cX4_railOf 57 = .ok (.invokevirtual 76, 3) := by decide +kernel
theorem dX4_railOf_60 : decode cX4_railOf 60 = .ok (.ireturn, 1) := by decide +kernel
theorem dX4_railOf_61 : decode cX4_railOf 61 = .ok (.aload_n 0, 1) := by decide +kernel
theorem dX4_railOf_62 : decode cX4_railOf 62 = .ok (.iload_n 1, 1) := by decide +kernel
theorem dX4_railOf_63 : decode cX4_railOf 63 = .ok (.iconst 3, 1) := by decide +kernel
theorem dX4_railOf_64 : decode cX4_railOf 64 = .ok (.invokevirtual 76, 3) := by decide +kernel
theorem dX4_railOf_67 : decode cX4_railOf 67 = .ok (.ireturn, 1) := by decide +kernel
theorem dX4_railOf_68 : decode cX4_railOf 68 = .ok (.aload_n 0, 1) := by decide +kernel
theorem dX4_railOf_69 : decode cX4_railOf 69 = .ok (.iload_n 1, 1) := by decide +kernel
theorem dX4_railOf_70 : decode cX4_railOf 70 = .ok (.invokevirtual 131, 3) := by decide +kernel
theorem dX4_railOf_73 : decode cX4_railOf 73 = .ok (.ireturn, 1) := by decide +kernel
theorem dX4_railOf_74 : decode cX4_railOf 74 = .ok (.aload_n 0, 1) := by decide +kernel
theorem dX4_railOf_75 : decode cX4_railOf 75 = .ok (.iload_n 1, 1) := by decide +kernel
theorem dX4_railOf_76 : decode cX4_railOf 76 = .ok (.invokevirtual 134, 3) := by decide +kernel
theorem dX4_railOf_79 : decode cX4_railOf 79 = .ok (.ireturn, 1) := by decide +kernel
theorem dX4_railOf_80 : decode cX4_railOf 80 = .ok (.aload_n 0, 1) := by decide +kernel
theorem dX4_railOf_81 : decode cX4_railOf 81 = .ok (.iload_n 1, 1) := by decide +kernel
theorem dX4_railOf_82 : decode cX4_railOf 82 = .ok (.invokevirtual 137, 3) := by decide +kernel
theorem dX4_railOf_85 : decode cX4_railOf 85 = .ok (.ireturn, 1) := by decide +kernel
theorem dX4_railOf_86 : decode cX4_railOf 86 = .ok (.aload_n 0, 1) := by decide +kernel
theorem dX4_railOf_87 : decode cX4_railOf 87 = .ok (.iload_n 1, 1) := by decide +kernel
theorem dX4_railOf_88 : decode cX4_railOf 88 = .ok (.invokevirtual 128, 3) := by decide +kernel
theorem dX4_railOf_91 : decode cX4_railOf 91 = .ok (.ireturn, 1) := by decide +kernel
theorem dX4_railOf_92 : decode cX4_railOf 92 = .ok (.aload_n 0, 1) := by decide +kernel
theorem dX4_railOf_93 : decode cX4_railOf 93 = .ok (.iload_n 1, 1) := by decide +kernel
theorem dX4_railOf_94 : decode cX4_railOf 94 = .ok (.iconst 4, 1) := by decide +kernel
theorem dX4_railOf_95 : decode cX4_railOf 95 = .ok (.invokevirtual 76, 3) := by decide +kernel
theorem dX4_railOf_98 : decode cX4_railOf 98 = .ok (.ireturn, 1) := by decide +kernel
theorem dX4_railOf_99 : decode cX4_railOf 99 = .ok (.aload_n 0, 1) := by decide +kernel
theorem dX4_railOf_100 : decode cX4_railOf 100 = .ok (.iload_n 1, 1) := by decide +kernel
theorem dX4_railOf_101 : decode cX4_railOf 101 = .ok (.iload_n 2, 1) := by decide +kernel
theorem dX4_railOf_102 : decode cX4_railOf 102 = .ok (.invokevirtual 76, 3) := by decide +kernel
theorem dX4_railOf_105 : decode cX4_railOf 105 = .ok (.ireturn, 1) := by decide +kernel
set_option maxRecDepth 20000 in
theorem ggX4_rail_X4_isRail : GoodIn wsX4_rail wsX4_isRail := goodIn_r _ [5, 6, 7, 8, 4, 9] (by decide +kernel) (by decide +kernel)
set_option maxRecDepth 20000 in
theorem gX4_rail_X4_isRail : GoodIn wsX4_rail (va_wsS RX4 52 yX4_isRail wsX4_isRail) := goodIn_app (goodIn_of _ (by decide +kernel)) ggX4_rail_X4_isRail
set_option maxRecDepth 20000 in
theorem ggX4_rail_X4_throwing : GoodIn wsX4_rail wsX4_throwing := goodIn_r _ [13, 14, 61, 62, 63, 64, 65, 66, 67, 68, 69, 70] (by decide +kernel) (by decide +kernel)
set_option maxRecDepth 20000 in
theorem gX4_rail_X4_throwing : GoodIn wsX4_rail (wsV RX4 56 RX4 yX4_throwing wsX4_throwing) := goodIn_app (goodIn_of _ (by decide +kernel)) ggX4_rail_X4_throwing
set_option maxRecDepth 20000 in
theorem ggX4_rail_X4_in : GoodIn wsX4_rail wsX4_in := goodIn_r _ [9] (by decide +kernel) (by decide +kernel)
set_option maxRecDepth 20000 in
theorem gX4_rail_X4_in : GoodIn wsX4_rail (va_wsS RX4 40 yX4_in wsX4_in) := goodIn_app (goodIn_of _ (by decide +kernel)) ggX4_rail_X4_in
set_option maxRecDepth 20000 in
theorem ggX4_rail_X4_railOf : GoodIn wsX4_rail wsX4_railOf := goodIn_r _ [18, 19, 20, 21, 4, 22, 23, 24, 25, 26, 27, 28, 29, 30, 31, 32, 33, 34, 35, 36, 37, 38, 39, 40, 41, 42, 43, 44, 45, 46, 47, 48, 49, 50, 51, 52, 53, 54, 55, 56, 61, 62, 63, 64, 65, 66, 67, 68, 69, 70] (by decide +kernel) (by decide +kernel)
set_option maxRecDepth 20000 in
theorem gX4_rail_X4_railOf : GoodIn wsX4_rail (wsV RX4 142 RX4 yX4_railOf wsX4_railOf) := goodIn_app (goodIn_of _ (by decide +kernel)) ggX4_rail_X4_railOf
set_option maxRecDepth 20000 in
theorem ggX4_rail_X4_fine : GoodIn wsX4_rail wsX4_fine := goodIn_r _ [60, 14, 61, 62, 63, 64, 65, 66, 67, 68, 69, 70] (by decide +kernel) (by decide +kernel)
set_option maxRecDepth 20000 in
theorem gX4_rail_X4_fine : GoodIn wsX4_rail (wsV RX4 63 RX4 yX4_fine wsX4_fine) := goodIn_app (goodIn_of _ (by decide +kernel)) ggX4_rail_X4_fine
theorem dX4_rail_0 : decode cX4_rail 0 = .ok (.iload_n 1, 1) := by decide +kernel
theorem dX4_rail_1 : decode cX4_rail 1 = .ok (.invokestatic 52, 3) := by decide +kernel
theorem dX4_rail_4 : decode cX4_rail 4 = .ok (.ifCond .ne 9, 3) := by decide +kernel
theorem dX4_rail_7 : decode cX4_rail 7 = .ok (.aload_n 0, 1) := by decide +kernel
theorem dX4_rail_8 : decode cX4_rail 8 = .ok (.iconst 1, 1) := by decide +kernel
theorem dX4_rail_9 : decode cX4_rail 9 = .ok (.invokevirtual 56, 3) := by decide +kernel
theorem dX4_rail_12 : decode cX4_rail 12 = .ok (.ireturn, 1) := by decide +kernel
theorem dX4_rail_13 : decode cX4_rail 13 = .ok (.iload_n 2, 1) := by decide +kernel
theorem dX4_rail_14 : decode cX4_rail 14 = .ok (.i2l, 1) := by decide +kernel
theorem dX4_rail_15 : decode cX4_rail 15 = .ok (.lconst 0, 1) := by decide +kernel
theorem dX4_rail_16 : decode cX4_rail 16 = .ok (.ldc2_w 140, 3) := by decide +kernel
theorem dX4_rail_19 : decode cX4_rail 19 = .ok (.invokestatic 40, 3) := by decide +kernel
theorem dX4_rail_22 : decode cX4_rail 22 = .ok (.ifCond .eq 16, 3) := by decide +kernel
theorem dX4_rail_25 : decode cX4_rail 25 = .ok (.aload_n 0, 1) := by decide +kernel
theorem dX4_rail_26 : decode cX4_rail 26 = .ok (.aload_n 0, 1) := by decide +kernel
theorem dX4_rail_27 : decode cX4_rail 27 = .ok (.iload_n 1, 1) := by decide +kernel
theorem dX4_rail_28 : decode cX4_rail 28 = .ok (.iload_n 2, 1) := by decide +kernel
theorem dX4_rail_29 : decode cX4_rail 29 = .ok (.invokevirtual 142, 3) := by decide +kernel
theorem dX4_rail_32 : decode cX4_rail 32 = .ok (.invokevirtual 63, 3) := by decide +kernel
theorem dX4_rail_35 : decode cX4_rail 35 = .ok (.goto 8, 3) := by decide +kernel
theorem dX4_rail_38 : decode cX4_rail 38 = .ok (.aload_n 0, 1) := by decide +kernel
theorem dX4_rail_39 : decode cX4_rail 39 = .ok (.iconst 2, 1) := by decide +kernel
theorem dX4_rail_40 : decode cX4_rail 40 = .ok (.invokevirtual 56, 3) := by decide +kernel
theorem dX4_rail_43 : decode cX4_rail 43 = .ok (.ireturn, 1) := by decide +kernel
set_option maxRecDepth 20000 in
theorem ggX4_count_X4_isRail : GoodIn wsX4_count wsX4_isRail := goodIn_r _ [5, 6, 7, 8, 4, 9] (by decide +kernel) (by decide +kernel)
set_option maxRecDepth 20000 in
theorem gX4_count_X4_isRail : GoodIn wsX4_count (va_wsS RX4 52 yX4_isRail wsX4_isRail) := goodIn_app (goodIn_of _ (by decide +kernel)) ggX4_count_X4_isRail
set_option maxRecDepth 20000 in
theorem ggX4_count_X4_isKind : GoodIn wsX4_count wsX4_isKind := goodIn_r _ [13, 1, 7, 8, 4, 9, 26, 27, 28, 29, 30, 31, 32, 33, 34, 35] (by decide +kernel) (by decide +kernel)
set_option maxRecDepth 20000 in
theorem gX4_count_X4_isKind : GoodIn wsX4_count (wsV RX4 66 RX4 yX4_isKind wsX4_isKind) := goodIn_app (goodIn_of _ (by decide +kernel)) ggX4_count_X4_isKind
set_option maxRecDepth 20000 in
theorem ggX4_count_X4_countAt : GoodIn wsX4_count wsX4_countAt := goodIn_r _ [16] (by decide +kernel) (by decide +kernel)
set_option maxRecDepth 20000 in
theorem gX4_count_X4_countAt : GoodIn wsX4_count (va_wsS RX4 79 yX4_countAt wsX4_countAt) := goodIn_app (goodIn_of _ (by decide +kernel)) ggX4_count_X4_countAt
set_option maxRecDepth 20000 in
theorem ggX4_count_X4_fine : GoodIn wsX4_count wsX4_fine := goodIn_r _ [20, 21, 26, 27, 28, 29, 30, 31, 32, 33, 34, 35] (by decide +kernel) (by decide +kernel)
set_option maxRecDepth 20000 in
theorem gX4_count_X4_fine : GoodIn wsX4_count (wsV RX4 63 RX4 yX4_fine wsX4_fine) := goodIn_app (goodIn_of _ (by decide +kernel)) ggX4_count_X4_fine
set_option maxRecDepth 20000 in
theorem ggX4_count_X4_throwing : GoodIn wsX4_count wsX4_throwing := goodIn_r _ [25, 21, 26, 27, 28, 29, 30, 31, 32, 33, 34, 35] (by decide +kernel) (by decide +kernel)
set_option maxRecDepth 20000 in
theorem gX4_count_X4_throwing : GoodIn wsX4_count (wsV RX4 56 RX4 yX4_throwing wsX4_throwing) := goodIn_app (goodIn_of _ (by decide +kernel)) ggX4_count_X4_throwing
theorem dX4_count_0 : decode cX4_count 0 = .ok (.iload_n 1, 1) := by decide +kernel
theorem dX4_count_1 : decode cX4_count 1 = .ok (.invokestatic 52, 3) := by decide +kernel
theorem dX4_count_4 : decode cX4_count 4 = .ok (.ifCond .eq 28, 3) := by decide +kernel
theorem dX4_count_7 : decode cX4_count 7 = .ok (.aload_n 0, 1) := by decide +kernel
theorem dX4_count_8 : decode cX4_count 8 = .ok (.iload_n 2, 1) := by decide +kernel
theorem dX4_count_9 : decode cX4_count 9 = .ok (.invokevirtual 66, 3) := by decide +kernel
theorem dX4_count_12 : decode cX4_count 12 = .ok (.ifCond .eq 20, 3) := by decide +kernel
theorem dX4_count_15 : decode cX4_count 15 = .ok (.aload_n 0, 1) := by decide +kernel
theorem dX4_count_16 : decode cX4_count 16 = .ok (.aload_n 0, 1) := by decide +kernel
theorem dX4_count_17 : decode cX4_count 17 = .ok (.getfield 7, 3) := by decide +kernel
theorem dX4_count_20 : decode cX4_count 20 = .ok (.iload_n 1, 1) := by decide +kernel
theorem dX4_count_21 : decode cX4_count 21 = .ok (.iload_n 2, 1) := by decide +kernel
theorem dX4_count_22 : decode cX4_count 22 = .ok (.invokestatic 79, 3) := by decide +kernel
theorem dX4_count_25 : decode cX4_count 25 = .ok (.iaload, 1) := by decide +kernel
theorem dX4_count_26 : decode cX4_count 26 = .ok (.invokevirtual 63, 3) := by decide +kernel
theorem dX4_count_29 : decode cX4_count 29 = .ok (.goto 8, 3) := by decide +kernel
theorem dX4_count_32 : decode cX4_count 32 = .ok (.aload_n 0, 1) := by decide +kernel
theorem dX4_count_33 : decode cX4_count 33 = .ok (.iconst 1, 1) := by decide +kernel
theorem dX4_count_34 : decode cX4_count 34 = .ok (.invokevirtual 56, 3) := by decide +kernel
theorem dX4_count_37 : decode cX4_count 37 = .ok (.ireturn, 1) := by decide +kernel
set_option maxRecDepth 20000 in
theorem ggX4_sumOf_X4_inBag : GoodIn wsX4_sumOf wsX4_inBag := goodIn_r _ [5, 6, 7, 8, 4, 9, 44, 45, 46, 47, 48, 49, 50, 51, 52, 53] (by decide +kernel) (by decide +kernel)
set_option maxRecDepth 20000 in
theorem gX4_sumOf_X4_inBag : GoodIn wsX4_sumOf (wsV RX4 85 RX4 yX4_inBag wsX4_inBag) := goodIn_app (goodIn_of _ (by decide +kernel)) ggX4_sumOf_X4_inBag
set_option maxRecDepth 20000 in
theorem ggX4_sumOf_X4_railOf : GoodIn wsX4_sumOf wsX4_railOf := goodIn_r _ [13, 1, 2, 3, 4, 5, 6, 7, 8, 9, 14, 15, 16, 17, 18, 19, 20, 21, 22, 23, 24, 25, 26, 27, 28, 29, 30, 31, 32, 33, 34, 35, 36, 37, 38, 39, 40, 41, 42, 43, 44, 45, 46, 47, 48, 49, 50, 51, 52, 53] (by decide +kernel) (by decide +kernel)
set_option maxRecDepth 20000 in
theorem gX4_sumOf_X4_railOf : GoodIn wsX4_sumOf (wsV RX4 142 RX4 yX4_railOf wsX4_railOf) := goodIn_app (goodIn_of _ (by decide +kernel)) ggX4_sumOf_X4_railOf
theorem dX4_sumOf_0 : decode cX4_sumOf 0 = .ok (.iconst 0, 1) := by decide +kernel
theorem dX4_sumOf_1 : decode cX4_sumOf 1 = .ok (.istore_n 2, 1) := by decide +kernel
theorem dX4_sumOf_2 : decode cX4_sumOf 2 = .ok (.iconst 0, 1) := by decide +kernel
theorem dX4_sumOf_3 : decode cX4_sumOf 3 = .ok (.istore_n 3, 1) := by decide +kernel
theorem dX4_sumOf_4 : decode cX4_sumOf 4 = .ok (.iload_n 3, 1) := by decide +kernel
theorem dX4_sumOf_5 : decode cX4_sumOf 5 = .ok (.bipush 6, 2) := by decide +kernel
theorem dX4_sumOf_7 : decode cX4_sumOf 7 = .ok (.if_icmp .ge 42, 3) := by decide +kernel
theorem dX4_sumOf_10 : decode cX4_sumOf 10 = .ok (.iload_n 2, 1) := by decide +kernel
theorem dX4_sumOf_11 : decode cX4_sumOf 11 = .ok (.iload_n 1, 1) := by decide +kernel
theorem dX4_sumOf_12 : decode cX4_sumOf 12 = .ok (.bipush 9, 2) := by decide +kernel
theorem dX4_sumOf_14 : decode cX4_sumOf 14 = .ok (.if_icmp .ne 21, 3) := by decide +kernel
theorem dX4_sumOf_17 : decode cX4_sumOf 17 = .ok (.aload_n 0, 1) := by decide +kernel
theorem dX4_sumOf_18 : decode cX4_sumOf 18 = .ok (.iload_n 3, 1) := by decide +kernel
theorem dX4_sumOf_19 : decode cX4_sumOf 19 = .ok (.invokevirtual 85, 3) := by decide +kernel
theorem dX4_sumOf_22 : decode cX4_sumOf 22 = .ok (.bipush 40, 2) := by decide +kernel
theorem dX4_sumOf_24 : decode cX4_sumOf 24 = .ok (.if_icmp .ne 7, 3) := by decide +kernel
theorem dX4_sumOf_27 : decode cX4_sumOf 27 = .ok (.iconst 1, 1) := by decide +kernel
theorem dX4_sumOf_28 : decode cX4_sumOf 28 = .ok (.goto 13, 3) := by decide +kernel
theorem dX4_sumOf_31 : decode cX4_sumOf 31 = .ok (.iconst 0, 1) := by decide +kernel
theorem dX4_sumOf_32 : decode cX4_sumOf 32 = .ok (.goto 9, 3) := by decide +kernel
theorem dX4_sumOf_35 : decode cX4_sumOf 35 = .ok (.aload_n 0, 1) := by decide +kernel
theorem dX4_sumOf_36 : decode cX4_sumOf 36 = .ok (.iload_n 3, 1) := by decide +kernel
theorem dX4_sumOf_37 : decode cX4_sumOf 37 = .ok (.iload_n 1, 1) := by decide +kernel
theorem dX4_sumOf_38 : decode cX4_sumOf 38 = .ok (.invokevirtual 142, 3) := by decide +kernel
theorem dX4_sumOf_41 : decode cX4_sumOf 41 = .ok (.iadd, 1) := by decide +kernel
theorem dX4_sumOf_42 : decode cX4_sumOf 42 = .ok (.istore_n 2, 1) := by decide +kernel
theorem dX4_sumOf_43 : decode cX4_sumOf 43 = .ok (.iinc 3 1, 3) := by decide +kernel
theorem dX4_sumOf_46 : decode cX4_sumOf 46 = .ok (.goto (-42), 3) := by decide +kernel
theorem dX4_sumOf_49 : decode cX4_sumOf 49 = .ok (.iload_n 2, 1) := by decide +kernel
theorem dX4_sumOf_50 : decode cX4_sumOf 50 = .ok (.ireturn, 1) := by decide +kernel
set_option maxRecDepth 20000 in
theorem ggX4_valueOf_X4_sumOf : GoodIn wsX4_valueOf wsX4_sumOf := goodIn_r _ [6, 7, 8, 9, 5, 10, 1, 11, 12, 13, 14, 15, 16, 17, 18, 19, 20, 21, 22, 23, 24, 25, 26, 27, 28, 29, 30, 31, 32, 33, 34, 35, 36, 37, 38, 39, 40, 41, 42, 43, 44, 45, 46, 47, 56, 57, 58, 59, 60, 61, 62, 63, 64, 65] (by decide +kernel) (by decide +kernel)
set_option maxRecDepth 20000 in
theorem gX4_valueOf_X4_sumOf : GoodIn wsX4_valueOf (wsV RX4 145 RX4 yX4_sumOf wsX4_sumOf) := goodIn_app (goodIn_of _ (by decide +kernel)) ggX4_valueOf_X4_sumOf
set_option maxRecDepth 20000 in
theorem ggX4_valueOf_X4_stuckBy : GoodIn wsX4_valueOf wsX4_stuckBy := goodIn_r _ [51, 18, 19, 20, 5, 21, 1, 22, 23, 24, 56, 57, 58, 59, 60, 61, 62, 63, 64, 65] (by decide +kernel) (by decide +kernel)
set_option maxRecDepth 20000 in
theorem gX4_valueOf_X4_stuckBy : GoodIn wsX4_valueOf (wsV RX4 120 RX4 yX4_stuckBy wsX4_stuckBy) := goodIn_app (goodIn_of _ (by decide +kernel)) ggX4_valueOf_X4_stuckBy
set_option maxRecDepth 20000 in
theorem ggX4_valueOf_X4_rejects : GoodIn wsX4_valueOf wsX4_rejects := goodIn_r _ [55, 1, 33, 34, 35, 5, 36, 37, 38, 39, 56, 57, 58, 59, 60, 61, 62, 63, 64, 65] (by decide +kernel) (by decide +kernel)
set_option maxRecDepth 20000 in
theorem gX4_valueOf_X4_rejects : GoodIn wsX4_valueOf (wsV RX4 113 RX4 yX4_rejects wsX4_rejects) := goodIn_app (goodIn_of _ (by decide +kernel)) ggX4_valueOf_X4_rejects
theorem dX4_valueOf_0 : decode cX4_valueOf 0 = .ok (.iload_n 1, 1) := by decide +kernel
theorem dX4_valueOf_1 : decode cX4_valueOf 1 = .ok (.tableswitch 109 0 8 #[51, 58, 65, 71, 77, 82, 89, 96, 102], 51) := by decide +kernel
theorem dX4_valueOf_52 : decode cX4_valueOf 52 = .ok (.aload_n 0, 1) := by decide +kernel
theorem dX4_valueOf_53 : decode cX4_valueOf 53 = .ok (.getfield 7, 3) := by decide +kernel
theorem dX4_valueOf_56 : decode cX4_valueOf 56 = .ok (.iconst 0, 1) := by decide +kernel
theorem dX4_valueOf_57 : decode cX4_valueOf 57 = .ok (.iaload, 1) := by decide +kernel
theorem dX4_valueOf_58 : decode cX4_valueOf 58 = .ok (.ireturn, 1) := by decide +kernel
theorem dX4_valueOf_59 : decode cX4_valueOf 59 = .ok (.aload_n 0, 1) := by decide +kernel
theorem dX4_valueOf_60 : decode cX4_valueOf 60 = .ok (.getfield 7, 3) := by decide +kernel
theorem dX4_valueOf_63 : decode cX4_valueOf 63 = .ok (.iconst 1, 1) := by decide +kernel
theorem dX4_valueOf_64 : decode cX4_valueOf 64 = .ok (.iaload, 1) := by decide +kernel
theorem dX4_valueOf_65 : decode cX4_valueOf 65 = .ok (.ireturn, 1) := by decide +kernel
theorem dX4_valueOf_66 : decode cX4_valueOf 66 = .ok (.aload_n 0, 1) := by decide +kernel
theorem dX4_valueOf_67 : decode cX4_valueOf 67 = .ok (.iconst 2, 1) := by decide +kernel
theorem dX4_valueOf_68 : decode cX4_valueOf 68 = .ok (.invokevirtual 145, 3) := by decide +kernel
theorem dX4_valueOf_71 : decode cX4_valueOf 71 = .ok (.ireturn, 1) := by decide +kernel
theorem dX4_valueOf_72 : decode cX4_valueOf 72 = .ok (.aload_n 0, 1) := by decide +kernel
theorem dX4_valueOf_73 : decode cX4_valueOf 73 = .ok (.iconst (-1), 1) := by decide +kernel
theorem dX4_valueOf_74 : decode cX4_valueOf 74 = .ok (.invokevirtual 120, 3) := by decide +kernel
theorem dX4_valueOf_77 : decode cX4_valueOf 77 = .ok (.ireturn, 1) := by decide +kernel
theorem dX4_valueOf_78 : decode cX4_valueOf 78 = .ok (.aload_n 0, 1) := by decide +kernel
theorem dX4_valueOf_79 : decode cX4_valueOf 79 = .ok (.invokevirtual 113, 3) := by decide +kernel
theorem dX4_valueOf_82 : decode cX4_valueOf 82 = .ok (.ireturn, 1) := by decide +kernel
theorem dX4_valueOf_83 : decode cX4_valueOf 83 = .ok (.aload_n 0, 1) := by decide +kernel
theorem dX4_valueOf_84 : decode cX4_valueOf 84 = .ok (.getfield 7, 3) := by decide +kernel
theorem dX4_valueOf_87 : decode cX4_valueOf 87 = .ok (.iconst 2, 1) := by decide +kernel
theorem dX4_valueOf_88 : decode cX4_valueOf 88 = .ok (.iaload, 1) := by decide +kernel
theorem dX4_valueOf_89 : decode cX4_valueOf 89 = .ok (.ireturn, 1) := by decide +kernel
theorem dX4_valueOf_90 : decode cX4_valueOf 90 = .ok (.aload_n 0, 1) := by decide +kernel
theorem dX4_valueOf_91 : decode cX4_valueOf 91 = .ok (.bipush 7, 2) := by decide +kernel
theorem dX4_valueOf_93 : decode cX4_valueOf 93 = .ok (.invokevirtual 145, 3) := by decide +kernel
theorem dX4_valueOf_96 : decode cX4_valueOf 96 = .ok (.ireturn, 1) := by decide +kernel
theorem dX4_valueOf_97 : decode cX4_valueOf 97 = .ok (.aload_n 0, 1) := by decide +kernel
theorem dX4_valueOf_98 : decode cX4_valueOf 98 = .ok (.iconst 5, 1) := by decide +kernel
theorem dX4_valueOf_99 : decode cX4_valueOf 99 = .ok (.invokevirtual 145, 3) := by decide +kernel
theorem dX4_valueOf_102 : decode cX4_valueOf 102 = .ok (.ireturn, 1) := by decide +kernel
theorem dX4_valueOf_103 : decode cX4_valueOf 103 = .ok (.aload_n 0, 1) := by decide +kernel
theorem dX4_valueOf_104 : decode cX4_valueOf 104 = .ok (.bipush 6, 2) := by decide +kernel
theorem dX4_valueOf_106 : decode cX4_valueOf 106 = .ok (.invokevirtual 145, 3) := by decide +kernel
theorem dX4_valueOf_109 : decode cX4_valueOf 109 = .ok (.ireturn, 1) := by decide +kernel
theorem dX4_valueOf_110 : decode cX4_valueOf 110 = .ok (.aload_n 0, 1) := by decide +kernel
theorem dX4_valueOf_111 : decode cX4_valueOf 111 = .ok (.bipush 9, 2) := by decide +kernel
theorem dX4_valueOf_113 : decode cX4_valueOf 113 = .ok (.invokevirtual 145, 3) := by decide +kernel
theorem dX4_valueOf_116 : decode cX4_valueOf 116 = .ok (.ireturn, 1) := by decide +kernel
set_option maxRecDepth 20000 in
theorem ggX4_value_X4_in : GoodIn wsX4_value wsX4_in := goodIn_r _ [5] (by decide +kernel) (by decide +kernel)
set_option maxRecDepth 20000 in
theorem gX4_value_X4_in : GoodIn wsX4_value (va_wsS RX4 40 yX4_in wsX4_in) := goodIn_app (goodIn_of _ (by decide +kernel)) ggX4_value_X4_in
set_option maxRecDepth 20000 in
theorem ggX4_value_X4_valueOf : GoodIn wsX4_value wsX4_valueOf := goodIn_r _ [9, 10, 11, 12, 13, 4, 14, 15, 16, 17, 18, 19, 20, 21, 22, 23, 24, 25, 26, 27, 28, 29, 30, 31, 32, 33, 34, 35, 36, 37, 38, 39, 40, 41, 42, 43, 44, 45, 46, 47, 48, 49, 50, 51, 52, 53, 54, 55, 56, 57, 58, 59, 60, 61, 62, 63, 73, 74, 75, 76, 77, 78, 79, 80, 81, 82] (by decide +kernel) (by decide +kernel)
set_option maxRecDepth 20000 in
theorem gX4_value_X4_valueOf : GoodIn wsX4_value (wsV RX4 148 RX4 yX4_valueOf wsX4_valueOf) := goodIn_app (goodIn_of _ (by decide +kernel)) ggX4_value_X4_valueOf
set_option maxRecDepth 20000 in
theorem ggX4_value_X4_fine : GoodIn wsX4_value wsX4_fine := goodIn_r _ [67, 68, 73, 74, 75, 76, 77, 78, 79, 80, 81, 82] (by decide +kernel) (by decide +kernel)
set_option maxRecDepth 20000 in
theorem gX4_value_X4_fine : GoodIn wsX4_value (wsV RX4 63 RX4 yX4_fine wsX4_fine) := goodIn_app (goodIn_of _ (by decide +kernel)) ggX4_value_X4_fine
set_option maxRecDepth 20000 in
theorem ggX4_value_X4_throwing : GoodIn wsX4_value wsX4_throwing := goodIn_r _ [72, 68, 73, 74, 75, 76, 77, 78, 79, 80, 81, 82] (by decide +kernel) (by decide +kernel)
set_option maxRecDepth 20000 in
theorem gX4_value_X4_throwing : GoodIn wsX4_value (wsV RX4 56 RX4 yX4_throwing wsX4_throwing) := goodIn_app (goodIn_of _ (by decide +kernel)) ggX4_value_X4_throwing
theorem dX4_value_0 : decode cX4_value 0 = .ok (.iload_n 1, 1) := by decide +kernel
theorem dX4_value_1 : decode cX4_value 1 = .ok (.i2l, 1) := by decide +kernel
theorem dX4_value_2 : decode cX4_value 2 = .ok (.lconst 0, 1) := by decide +kernel
theorem dX4_value_3 : decode cX4_value 3 = .ok (.ldc2_w 140, 3) := by decide +kernel
theorem dX4_value_6 : decode cX4_value 6 = .ok (.invokestatic 40, 3) := by decide +kernel
theorem dX4_value_9 : decode cX4_value 9 = .ok (.ifCond .eq 15, 3) := by decide +kernel
theorem dX4_value_12 : decode cX4_value 12 = .ok (.aload_n 0, 1) := by decide +kernel
theorem dX4_value_13 : decode cX4_value 13 = .ok (.aload_n 0, 1) := by decide +kernel
theorem dX4_value_14 : decode cX4_value 14 = .ok (.iload_n 1, 1) := by decide +kernel
theorem dX4_value_15 : decode cX4_value 15 = .ok (.invokevirtual 148, 3) := by decide +kernel
theorem dX4_value_18 : decode cX4_value 18 = .ok (.invokevirtual 63, 3) := by decide +kernel
theorem dX4_value_21 : decode cX4_value 21 = .ok (.goto 8, 3) := by decide +kernel
theorem dX4_value_24 : decode cX4_value 24 = .ok (.aload_n 0, 1) := by decide +kernel
theorem dX4_value_25 : decode cX4_value 25 = .ok (.iconst 1, 1) := by decide +kernel
theorem dX4_value_26 : decode cX4_value 26 = .ok (.invokevirtual 56, 3) := by decide +kernel
theorem dX4_value_29 : decode cX4_value 29 = .ok (.ireturn, 1) := by decide +kernel
set_option maxRecDepth 20000 in
theorem ggX4_whereIf_X4_laysAside : GoodIn wsX4_whereIf wsX4_laysAside := goodIn_r _ [5, 6, 7, 45, 46, 47, 48, 49, 50, 51, 52, 53, 54] (by decide +kernel) (by decide +kernel)
set_option maxRecDepth 20000 in
theorem gX4_whereIf_X4_laysAside : GoodIn wsX4_whereIf (wsV RX4 151 RX4 yX4_laysAside wsX4_laysAside) := goodIn_app (goodIn_of _ (by decide +kernel)) ggX4_whereIf_X4_laysAside
set_option maxRecDepth 20000 in
theorem ggX4_whereIf_X4_feeds : GoodIn wsX4_whereIf wsX4_feeds := goodIn_r _ [11, 7, 12, 13, 4, 14, 15, 16, 17, 18, 19, 20, 21, 22, 23, 24, 25, 26, 27, 28, 29, 30, 31, 32, 33, 34, 35, 36, 37, 38, 39, 40, 45, 46, 47, 48, 49, 50, 51, 52, 53, 54] (by decide +kernel) (by decide +kernel)
set_option maxRecDepth 20000 in
theorem gX4_whereIf_X4_feeds : GoodIn wsX4_whereIf (wsV RX4 94 RX4 yX4_feeds wsX4_feeds) := goodIn_app (goodIn_of _ (by decide +kernel)) ggX4_whereIf_X4_feeds
set_option maxRecDepth 20000 in
theorem ggX4_whereIf_X4_takesBack : GoodIn wsX4_whereIf wsX4_takesBack := goodIn_r _ [44, 7, 6, 45, 46, 47, 48, 49, 50, 51, 52, 53, 54] (by decide +kernel) (by decide +kernel)
set_option maxRecDepth 20000 in
theorem gX4_whereIf_X4_takesBack : GoodIn wsX4_whereIf (wsV RX4 154 RX4 yX4_takesBack wsX4_takesBack) := goodIn_app (goodIn_of _ (by decide +kernel)) ggX4_whereIf_X4_takesBack
theorem dX4_whereIf_0 : decode cX4_whereIf 0 = .ok (.aload_n 0, 1) := by decide +kernel
theorem dX4_whereIf_1 : decode cX4_whereIf 1 = .ok (.invokevirtual 151, 3) := by decide +kernel
theorem dX4_whereIf_4 : decode cX4_whereIf 4 = .ok (.aload_n 0, 1) := by decide +kernel
theorem dX4_whereIf_5 : decode cX4_whereIf 5 = .ok (.iload_n 1, 1) := by decide +kernel
theorem dX4_whereIf_6 : decode cX4_whereIf 6 = .ok (.iload_n 2, 1) := by decide +kernel
theorem dX4_whereIf_7 : decode cX4_whereIf 7 = .ok (.invokevirtual 94, 3) := by decide +kernel
theorem dX4_whereIf_10 : decode cX4_whereIf 10 = .ok (.istore_n 3, 1) := by decide +kernel
theorem dX4_whereIf_11 : decode cX4_whereIf 11 = .ok (.aload_n 0, 1) := by decide +kernel
theorem dX4_whereIf_12 : decode cX4_whereIf 12 = .ok (.invokevirtual 154, 3) := by decide +kernel
theorem dX4_whereIf_15 : decode cX4_whereIf 15 = .ok (.iload_n 3, 1) := by decide +kernel
theorem dX4_whereIf_16 : decode cX4_whereIf 16 = .ok (.ireturn, 1) := by decide +kernel
set_option maxRecDepth 20000 in
theorem ggX4_where_X4_isKind : GoodIn wsX4_where wsX4_isKind := goodIn_r _ [6, 7, 8, 9, 5, 10, 66, 67, 68, 69, 70, 71, 72, 73, 74, 75] (by decide +kernel) (by decide +kernel)
set_option maxRecDepth 20000 in
theorem gX4_where_X4_isKind : GoodIn wsX4_where (wsV RX4 66 RX4 yX4_isKind wsX4_isKind) := goodIn_app (goodIn_of _ (by decide +kernel)) ggX4_where_X4_isKind
set_option maxRecDepth 20000 in
theorem ggX4_where_X4_throwing : GoodIn wsX4_where wsX4_throwing := goodIn_r _ [14, 15, 66, 67, 68, 69, 70, 71, 72, 73, 74, 75] (by decide +kernel) (by decide +kernel)
set_option maxRecDepth 20000 in
theorem gX4_where_X4_throwing : GoodIn wsX4_where (wsV RX4 56 RX4 yX4_throwing wsX4_throwing) := goodIn_app (goodIn_of _ (by decide +kernel)) ggX4_where_X4_throwing
set_option maxRecDepth 20000 in
theorem ggX4_where_X4_in : GoodIn wsX4_where wsX4_in := goodIn_r _ [10] (by decide +kernel) (by decide +kernel)
set_option maxRecDepth 20000 in
theorem gX4_where_X4_in : GoodIn wsX4_where (va_wsS RX4 40 yX4_in wsX4_in) := goodIn_app (goodIn_of _ (by decide +kernel)) ggX4_where_X4_in
set_option maxRecDepth 20000 in
theorem ggX4_where_X4_whereIf : GoodIn wsX4_where wsX4_whereIf := goodIn_r _ [19, 20, 21, 22, 5, 23, 24, 7, 25, 26, 27, 28, 29, 30, 31, 32, 33, 34, 35, 36, 37, 38, 39, 40, 41, 42, 43, 44, 45, 46, 47, 48, 49, 50, 51, 52, 53, 54, 55, 56, 57, 58, 59, 60, 61, 66, 67, 68, 69, 70, 71, 72, 73, 74, 75] (by decide +kernel) (by decide +kernel)
set_option maxRecDepth 20000 in
theorem gX4_where_X4_whereIf : GoodIn wsX4_where (wsV RX4 157 RX4 yX4_whereIf wsX4_whereIf) := goodIn_app (goodIn_of _ (by decide +kernel)) ggX4_where_X4_whereIf
set_option maxRecDepth 20000 in
theorem ggX4_where_X4_fine : GoodIn wsX4_where wsX4_fine := goodIn_r _ [65, 15, 66, 67, 68, 69, 70, 71, 72, 73, 74, 75] (by decide +kernel) (by decide +kernel)
set_option maxRecDepth 20000 in
theorem gX4_where_X4_fine : GoodIn wsX4_where (wsV RX4 63 RX4 yX4_fine wsX4_fine) := goodIn_app (goodIn_of _ (by decide +kernel)) ggX4_where_X4_fine
theorem dX4_where_0 : decode cX4_where 0 = .ok (.aload_n 0, 1) := by decide +kernel
theorem dX4_where_1 : decode cX4_where 1 = .ok (.iload_n 1, 1) := by decide +kernel
theorem dX4_where_2 : decode cX4_where 2 = .ok (.invokevirtual 66, 3) := by decide +kernel
theorem dX4_where_5 : decode cX4_where 5 = .ok (.ifCond .ne 9, 3) := by decide +kernel
theorem dX4_where_8 : decode cX4_where 8 = .ok (.aload_n 0, 1) := by decide +kernel
theorem dX4_where_9 : decode cX4_where 9 = .ok (.iconst 1, 1) := by decide +kernel
theorem dX4_where_10 : decode cX4_where 10 = .ok (.invokevirtual 56, 3) := by decide +kernel
theorem dX4_where_13 : decode cX4_where 13 = .ok (.ireturn, 1) := by decide +kernel
theorem dX4_where_14 : decode cX4_where 14 = .ok (.iload_n 2, 1) := by decide +kernel
theorem dX4_where_15 : decode cX4_where 15 = .ok (.i2l, 1) := by decide +kernel
theorem dX4_where_16 : decode cX4_where 16 = .ok (.lconst 0, 1) := by decide +kernel
theorem dX4_where_17 : decode cX4_where 17 = .ok (.ldc2_w 92, 3) := by decide +kernel
theorem dX4_where_20 : decode cX4_where 20 = .ok (.invokestatic 40, 3) := by decide +kernel
theorem dX4_where_23 : decode cX4_where 23 = .ok (.ifCond .eq 16, 3) := by decide +kernel
theorem dX4_where_26 : decode cX4_where 26 = .ok (.aload_n 0, 1) := by decide +kernel
theorem dX4_where_27 : decode cX4_where 27 = .ok (.aload_n 0, 1) := by decide +kernel
theorem dX4_where_28 : decode cX4_where 28 = .ok (.iload_n 1, 1) := by decide +kernel
theorem dX4_where_29 : decode cX4_where 29 = .ok (.iload_n 2, 1) := by decide +kernel
theorem dX4_where_30 : decode cX4_where 30 = .ok (.invokevirtual 157, 3) := by decide +kernel
theorem dX4_where_33 : decode cX4_where 33 = .ok (.invokevirtual 63, 3) := by decide +kernel
theorem dX4_where_36 : decode cX4_where 36 = .ok (.goto 8, 3) := by decide +kernel
theorem dX4_where_39 : decode cX4_where 39 = .ok (.aload_n 0, 1) := by decide +kernel
theorem dX4_where_40 : decode cX4_where 40 = .ok (.iconst 2, 1) := by decide +kernel
theorem dX4_where_41 : decode cX4_where 41 = .ok (.invokevirtual 56, 3) := by decide +kernel
theorem dX4_where_44 : decode cX4_where 44 = .ok (.ireturn, 1) := by decide +kernel
set_option maxRecDepth 20000 in
theorem ggX4_mostWearOf_X4_whereIf : GoodIn wsX4_mostWearOf wsX4_whereIf := goodIn_r _ [5, 6, 7, 8, 4, 9, 10, 11, 12, 13, 14, 15, 16, 17, 18, 19, 20, 21, 22, 23, 24, 25, 26, 27, 28, 29, 30, 31, 32, 33, 34, 35, 36, 37, 38, 39, 40, 41, 42, 43, 44, 45, 46, 47, 48, 49, 50, 51, 52, 53, 54, 55, 56, 57, 58] (by decide +kernel) (by decide +kernel)
set_option maxRecDepth 20000 in
theorem gX4_mostWearOf_X4_whereIf : GoodIn wsX4_mostWearOf (wsV RX4 157 RX4 yX4_whereIf wsX4_whereIf) := goodIn_app (goodIn_of _ (by decide +kernel)) ggX4_mostWearOf_X4_whereIf
set_option maxRecDepth 20000 in
theorem ggX4_mostWearOf_X4_ofKind : GoodIn wsX4_mostWearOf wsX4_ofKind := goodIn_r _ [33, 11, 16, 17, 4, 18, 49, 50, 51, 52, 53, 54, 55, 56, 57, 58] (by decide +kernel) (by decide +kernel)
set_option maxRecDepth 20000 in
theorem gX4_mostWearOf_X4_ofKind : GoodIn wsX4_mostWearOf (wsV RX4 69 RX4 yX4_ofKind wsX4_ofKind) := goodIn_app (goodIn_of _ (by decide +kernel)) ggX4_mostWearOf_X4_ofKind
theorem dX4_mostWearOf_0 : decode cX4_mostWearOf 0 = .ok (.iconst 0, 1) := by decide +kernel
theorem dX4_mostWearOf_1 : decode cX4_mostWearOf 1 = .ok (.istore_n 2, 1) := by decide +kernel
theorem dX4_mostWearOf_2 : decode cX4_mostWearOf 2 = .ok (.iload_n 2, 1) := by decide +kernel
theorem dX4_mostWearOf_3 : decode cX4_mostWearOf 3 = .ok (.sipush 1000, 3) := by decide +kernel
theorem dX4_mostWearOf_6 : decode cX4_mostWearOf 6 = .ok (.if_icmp .ge 24, 3) := by decide +kernel
theorem dX4_mostWearOf_9 : decode cX4_mostWearOf 9 = .ok (.aload_n 0, 1) := by decide +kernel
theorem dX4_mostWearOf_10 : decode cX4_mostWearOf 10 = .ok (.iload_n 1, 1) := by decide +kernel
theorem dX4_mostWearOf_11 : decode cX4_mostWearOf 11 = .ok (.iload_n 2, 1) := by decide +kernel
theorem dX4_mostWearOf_12 : decode cX4_mostWearOf 12 = .ok (.invokevirtual 157, 3) := by decide +kernel
theorem dX4_mostWearOf_15 : decode cX4_mostWearOf 15 = .ok (.aload_n 0, 1) := by decide +kernel
theorem dX4_mostWearOf_16 : decode cX4_mostWearOf 16 = .ok (.iload_n 1, 1) := by decide +kernel
theorem dX4_mostWearOf_17 : decode cX4_mostWearOf 17 = .ok (.iconst 2, 1) := by decide +kernel
theorem dX4_mostWearOf_18 : decode cX4_mostWearOf 18 = .ok (.invokevirtual 69, 3) := by decide +kernel
theorem dX4_mostWearOf_21 : decode cX4_mostWearOf 21 = .ok (.if_icmp .ne 9, 3) := by decide +kernel
theorem dX4_mostWearOf_24 : decode cX4_mostWearOf 24 = .ok (.iinc 2 1, 3) := by decide +kernel
theorem dX4_mostWearOf_27 : decode cX4_mostWearOf 27 = .ok (.goto (-25), 3) := by decide +kernel
theorem dX4_mostWearOf_30 : decode cX4_mostWearOf 30 = .ok (.iload_n 2, 1) := by decide +kernel
theorem dX4_mostWearOf_31 : decode cX4_mostWearOf 31 = .ok (.iconst 1, 1) := by decide +kernel
theorem dX4_mostWearOf_32 : decode cX4_mostWearOf 32 = .ok (.isub, 1) := by decide +kernel
theorem dX4_mostWearOf_33 : decode cX4_mostWearOf 33 = .ok (.ireturn, 1) := by decide +kernel
set_option maxRecDepth 20000 in
theorem ggX4_mostWear_X4_isKind : GoodIn wsX4_mostWear wsX4_isKind := goodIn_r _ [5, 6, 7, 8, 4, 9, 69, 70, 71, 72, 73, 74, 75, 76, 77, 78] (by decide +kernel) (by decide +kernel)
set_option maxRecDepth 20000 in
theorem gX4_mostWear_X4_isKind : GoodIn wsX4_mostWear (wsV RX4 66 RX4 yX4_isKind wsX4_isKind) := goodIn_app (goodIn_of _ (by decide +kernel)) ggX4_mostWear_X4_isKind
set_option maxRecDepth 20000 in
theorem ggX4_mostWear_X4_mostWearOf : GoodIn wsX4_mostWear wsX4_mostWearOf := goodIn_r _ [13, 14, 15, 16, 4, 17, 18, 19, 20, 21, 22, 6, 23, 24, 25, 26, 27, 28, 29, 30, 31, 32, 33, 34, 35, 36, 37, 38, 39, 40, 41, 42, 43, 44, 45, 46, 47, 48, 49, 50, 51, 52, 53, 54, 55, 56, 57, 58, 59, 69, 70, 71, 72, 73, 74, 75, 76, 77, 78] (by decide +kernel) (by decide +kernel)
set_option maxRecDepth 20000 in
theorem gX4_mostWear_X4_mostWearOf : GoodIn wsX4_mostWear (wsV RX4 160 RX4 yX4_mostWearOf wsX4_mostWearOf) := goodIn_app (goodIn_of _ (by decide +kernel)) ggX4_mostWear_X4_mostWearOf
set_option maxRecDepth 20000 in
theorem ggX4_mostWear_X4_fine : GoodIn wsX4_mostWear wsX4_fine := goodIn_r _ [63, 64, 69, 70, 71, 72, 73, 74, 75, 76, 77, 78] (by decide +kernel) (by decide +kernel)
set_option maxRecDepth 20000 in
theorem gX4_mostWear_X4_fine : GoodIn wsX4_mostWear (wsV RX4 63 RX4 yX4_fine wsX4_fine) := goodIn_app (goodIn_of _ (by decide +kernel)) ggX4_mostWear_X4_fine
set_option maxRecDepth 20000 in
theorem ggX4_mostWear_X4_throwing : GoodIn wsX4_mostWear wsX4_throwing := goodIn_r _ [68, 64, 69, 70, 71, 72, 73, 74, 75, 76, 77, 78] (by decide +kernel) (by decide +kernel)
set_option maxRecDepth 20000 in
theorem gX4_mostWear_X4_throwing : GoodIn wsX4_mostWear (wsV RX4 56 RX4 yX4_throwing wsX4_throwing) := goodIn_app (goodIn_of _ (by decide +kernel)) ggX4_mostWear_X4_throwing
theorem dX4_mostWear_0 : decode cX4_mostWear 0 = .ok (.aload_n 0, 1) := by decide +kernel
theorem dX4_mostWear_1 : decode cX4_mostWear 1 = .ok (.iload_n 1, 1) := by decide +kernel
theorem dX4_mostWear_2 : decode cX4_mostWear 2 = .ok (.invokevirtual 66, 3) := by decide +kernel
theorem dX4_mostWear_5 : decode cX4_mostWear 5 = .ok (.ifCond .eq 15, 3) := by decide +kernel
theorem dX4_mostWear_8 : decode cX4_mostWear 8 = .ok (.aload_n 0, 1) := by decide +kernel
theorem dX4_mostWear_9 : decode cX4_mostWear 9 = .ok (.aload_n 0, 1) := by decide +kernel
theorem dX4_mostWear_10 : decode cX4_mostWear 10 = .ok (.iload_n 1, 1) := by decide +kernel
theorem dX4_mostWear_11 : decode cX4_mostWear 11 = .ok (.invokevirtual 160, 3) := by decide +kernel
theorem dX4_mostWear_14 : decode cX4_mostWear 14 = .ok (.invokevirtual 63, 3) := by decide +kernel
theorem dX4_mostWear_17 : decode cX4_mostWear 17 = .ok (.goto 8, 3) := by decide +kernel
theorem dX4_mostWear_20 : decode cX4_mostWear 20 = .ok (.aload_n 0, 1) := by decide +kernel
theorem dX4_mostWear_21 : decode cX4_mostWear 21 = .ok (.iconst 1, 1) := by decide +kernel
theorem dX4_mostWear_22 : decode cX4_mostWear 22 = .ok (.invokevirtual 56, 3) := by decide +kernel
theorem dX4_mostWear_25 : decode cX4_mostWear 25 = .ok (.ireturn, 1) := by decide +kernel
set_option maxRecDepth 20000 in
theorem ggX4_does_X4_ofKind : GoodIn wsX4_does wsX4_ofKind := goodIn_r _ [6, 1, 7, 8, 5, 9, 10, 11, 12, 13, 14, 15, 16, 17, 18, 19] (by decide +kernel) (by decide +kernel)
set_option maxRecDepth 20000 in
theorem gX4_does_X4_ofKind : GoodIn wsX4_does (wsV RX4 69 RX4 yX4_ofKind wsX4_ofKind) := goodIn_app (goodIn_of _ (by decide +kernel)) ggX4_does_X4_ofKind
theorem dX4_does_0 : decode cX4_does 0 = .ok (.iconst 1, 1) := by decide +kernel
theorem dX4_does_1 : decode cX4_does 1 = .ok (.istore_n 3, 1) := by decide +kernel
theorem dX4_does_2 : decode cX4_does 2 = .ok (.iconst 0, 1) := by decide +kernel
theorem dX4_does_3 : decode cX4_does 3 = .ok (.istore 4, 2) := by decide +kernel
theorem dX4_does_5 : decode cX4_does 5 = .ok (.iload 4, 2) := by decide +kernel
theorem dX4_does_7 : decode cX4_does 7 = .ok (.aload_n 0, 1) := by decide +kernel
theorem dX4_does_8 : decode cX4_does 8 = .ok (.getfield 7, 3) := by decide +kernel
theorem dX4_does_11 : decode cX4_does 11 = .ok (.iconst 0, 1) := by decide +kernel
theorem dX4_does_12 : decode cX4_does 12 = .ok (.iaload, 1) := by decide +kernel
theorem dX4_does_13 : decode cX4_does 13 = .ok (.if_icmp .ge 62, 3) := by decide +kernel
theorem dX4_does_16 : decode cX4_does 16 = .ok (.iload_n 2, 1) := by decide +kernel
theorem dX4_does_17 : decode cX4_does 17 = .ok (.aload_n 0, 1) := by decide +kernel
theorem dX4_does_18 : decode cX4_does 18 = .ok (.iload 4, 2) := by decide +kernel
theorem dX4_does_20 : decode cX4_does 20 = .ok (.iconst 0, 1) := by decide +kernel
theorem dX4_does_21 : decode cX4_does 21 = .ok (.invokevirtual 69, 3) := by decide +kernel
theorem dX4_does_24 : decode cX4_does 24 = .ok (.isub, 1) := by decide +kernel
theorem dX4_does_25 : decode cX4_does 25 = .ok (.istore 5, 2) := by decide +kernel
theorem dX4_does_27 : decode cX4_does 27 = .ok (.aload_n 0, 1) := by decide +kernel
theorem dX4_does_28 : decode cX4_does 28 = .ok (.iload 4, 2) := by decide +kernel
theorem dX4_does_30 : decode cX4_does 30 = .ok (.iconst 2, 1) := by decide +kernel
theorem dX4_does_31 : decode cX4_does 31 = .ok (.invokevirtual 69, 3) := by decide +kernel
theorem dX4_does_34 : decode cX4_does 34 = .ok (.istore 6, 2) := by decide +kernel
theorem dX4_does_36 : decode cX4_does 36 = .ok (.iload_n 3, 1) := by decide +kernel
theorem dX4_does_37 : decode cX4_does 37 = .ok (.ifCond .eq 30, 3) := by decide +kernel
theorem dX4_does_40 : decode cX4_does 40 = .ok (.iload 6, 2) := by decide +kernel
theorem dX4_does_42 : decode cX4_does 42 = .ok (.iload_n 1, 1) := by decide +kernel
theorem dX4_does_43 : decode cX4_does 43 = .ok (.if_icmp .ne 9, 3) := by decide +kernel
theorem dX4_does_46 : decode cX4_does 46 = .ok (.iload 5, 2) := by decide +kernel
theorem dX4_does_48 : decode cX4_does 48 = .ok (.iconst 5, 1) := by decide +kernel
theorem dX4_does_49 : decode cX4_does 49 = .ok (.if_icmp .lt 18, 3) := by decide +kernel
theorem dX4_does_52 : decode cX4_does 52 = .ok (.iload 6, 2) := by decide +kernel
theorem dX4_does_54 : decode cX4_does 54 = .ok (.iload_n 1, 1) := by decide +kernel
theorem dX4_does_55 : decode cX4_does 55 = .ok (.if_icmp .le 8, 3) := by decide +kernel
theorem dX4_does_58 : decode cX4_does 58 = .ok (.iload 5, 2) := by decide +kernel
theorem dX4_does_60 : decode cX4_does 60 = .ok (.ifCond .gt 7, 3) := by decide +kernel
theorem dX4_does_63 : decode cX4_does 63 = .ok (.iconst 1, 1) := by decide +kernel
theorem dX4_does_64 : decode cX4_does 64 = .ok (.goto 4, 3) := by decide +kernel
theorem dX4_does_67 : decode cX4_does 67 = .ok (.iconst 0, 1) := by decide +kernel
theorem dX4_does_68 : decode cX4_does 68 = .ok (.istore_n 3, 1) := by decide +kernel
theorem dX4_does_69 : decode cX4_does 69 = .ok (.iinc 4 1, 3) := by decide +kernel
theorem dX4_does_72 : decode cX4_does 72 = .ok (.goto (-67), 3) := by decide +kernel
theorem dX4_does_75 : decode cX4_does 75 = .ok (.iload_n 3, 1) := by decide +kernel
theorem dX4_does_76 : decode cX4_does 76 = .ok (.ireturn, 1) := by decide +kernel
set_option maxRecDepth 20000 in
theorem ggX4_bestGap_X4_isRail : GoodIn wsX4_bestGap wsX4_isRail := goodIn_r _ [4, 5, 6, 7, 3, 8] (by decide +kernel) (by decide +kernel)
set_option maxRecDepth 20000 in
theorem gX4_bestGap_X4_isRail : GoodIn wsX4_bestGap (va_wsS RX4 52 yX4_isRail wsX4_isRail) := goodIn_app (goodIn_of _ (by decide +kernel)) ggX4_bestGap_X4_isRail
set_option maxRecDepth 20000 in
theorem ggX4_bestGap_X4_throwing : GoodIn wsX4_bestGap wsX4_throwing := goodIn_r _ [12, 13, 34, 35, 36, 37, 38, 39, 40, 41, 42, 43] (by decide +kernel) (by decide +kernel)
set_option maxRecDepth 20000 in
theorem gX4_bestGap_X4_throwing : GoodIn wsX4_bestGap (wsV RX4 56 RX4 yX4_throwing wsX4_throwing) := goodIn_app (goodIn_of _ (by decide +kernel)) ggX4_bestGap_X4_throwing
set_option maxRecDepth 20000 in
theorem ggX4_bestGap_X4_due : GoodIn wsX4_bestGap wsX4_due := goodIn_r _ [17, 18, 19, 20, 21, 3, 22, 23, 24, 25, 34, 35, 36, 37, 38, 39, 40, 41, 42, 43] (by decide +kernel) (by decide +kernel)
set_option maxRecDepth 20000 in
theorem gX4_bestGap_X4_due : GoodIn wsX4_bestGap (wsV RX4 128 RX4 yX4_due wsX4_due) := goodIn_app (goodIn_of _ (by decide +kernel)) ggX4_bestGap_X4_due
set_option maxRecDepth 20000 in
theorem ggX4_bestGap_X4_fine : GoodIn wsX4_bestGap wsX4_fine := goodIn_r _ [29, 13, 34, 35, 36, 37, 38, 39, 40, 41, 42, 43] (by decide +kernel) (by decide +kernel)
set_option maxRecDepth 20000 in
theorem gX4_bestGap_X4_fine : GoodIn wsX4_bestGap (wsV RX4 63 RX4 yX4_fine wsX4_fine) := goodIn_app (goodIn_of _ (by decide +kernel)) ggX4_bestGap_X4_fine
set_option maxRecDepth 20000 in
theorem ggX4_bestGap_X4_does : GoodIn wsX4_bestGap wsX4_does := goodIn_r _ [33, 18, 19, 20, 21, 3, 22, 23, 24, 25, 34, 35, 36, 37, 38, 39, 40, 41, 42, 43] (by decide +kernel) (by decide +kernel)
set_option maxRecDepth 20000 in
theorem gX4_bestGap_X4_does : GoodIn wsX4_bestGap (wsV RX4 163 RX4 yX4_does wsX4_does) := goodIn_app (goodIn_of _ (by decide +kernel)) ggX4_bestGap_X4_does
theorem dX4_bestGap_0 : decode cX4_bestGap 0 = .ok (.iload_n 1, 1) := by decide +kernel
theorem dX4_bestGap_1 : decode cX4_bestGap 1 = .ok (.invokestatic 52, 3) := by decide +kernel
theorem dX4_bestGap_4 : decode cX4_bestGap 4 = .ok (.ifCond .ne 9, 3) := by decide +kernel
theorem dX4_bestGap_7 : decode cX4_bestGap 7 = .ok (.aload_n 0, 1) := by decide +kernel
theorem dX4_bestGap_8 : decode cX4_bestGap 8 = .ok (.iconst 1, 1) := by decide +kernel
theorem dX4_bestGap_9 : decode cX4_bestGap 9 = .ok (.invokevirtual 56, 3) := by decide +kernel
theorem dX4_bestGap_12 : decode cX4_bestGap 12 = .ok (.ireturn, 1) := by decide +kernel
theorem dX4_bestGap_13 : decode cX4_bestGap 13 = .ok (.aload_n 0, 1) := by decide +kernel
theorem dX4_bestGap_14 : decode cX4_bestGap 14 = .ok (.iload_n 1, 1) := by decide +kernel
theorem dX4_bestGap_15 : decode cX4_bestGap 15 = .ok (.invokevirtual 128, 3) := by decide +kernel
theorem dX4_bestGap_18 : decode cX4_bestGap 18 = .ok (.iconst (-1), 1) := by decide +kernel
theorem dX4_bestGap_19 : decode cX4_bestGap 19 = .ok (.if_icmp .ne 9, 3) := by decide +kernel
theorem dX4_bestGap_22 : decode cX4_bestGap 22 = .ok (.aload_n 0, 1) := by decide +kernel
theorem dX4_bestGap_23 : decode cX4_bestGap 23 = .ok (.iconst (-1), 1) := by decide +kernel
theorem dX4_bestGap_24 : decode cX4_bestGap 24 = .ok (.invokevirtual 63, 3) := by decide +kernel
theorem dX4_bestGap_27 : decode cX4_bestGap 27 = .ok (.ireturn, 1) := by decide +kernel
theorem dX4_bestGap_28 : decode cX4_bestGap 28 = .ok (.sipush 900, 3) := by decide +kernel
theorem dX4_bestGap_31 : decode cX4_bestGap 31 = .ok (.istore_n 2, 1) := by decide +kernel
theorem dX4_bestGap_32 : decode cX4_bestGap 32 = .ok (.iload_n 2, 1) := by decide +kernel
theorem dX4_bestGap_33 : decode cX4_bestGap 33 = .ok (.sipush 4100, 3) := by decide +kernel
theorem dX4_bestGap_36 : decode cX4_bestGap 36 = .ok (.if_icmp .gt 24, 3) := by decide +kernel
theorem dX4_bestGap_39 : decode cX4_bestGap 39 = .ok (.aload_n 0, 1) := by decide +kernel
theorem dX4_bestGap_40 : decode cX4_bestGap 40 = .ok (.iload_n 1, 1) := by decide +kernel
theorem dX4_bestGap_41 : decode cX4_bestGap 41 = .ok (.iload_n 2, 1) := by decide +kernel
theorem dX4_bestGap_42 : decode cX4_bestGap 42 = .ok (.invokevirtual 163, 3) := by decide +kernel
theorem dX4_bestGap_45 : decode cX4_bestGap 45 = .ok (.ifCond .eq 9, 3) := by decide +kernel
theorem dX4_bestGap_48 : decode cX4_bestGap 48 = .ok (.aload_n 0, 1) := by decide +kernel
theorem dX4_bestGap_49 : decode cX4_bestGap 49 = .ok (.iload_n 2, 1) := by decide +kernel
theorem dX4_bestGap_50 : decode cX4_bestGap 50 = .ok (.invokevirtual 63, 3) := by decide +kernel
theorem dX4_bestGap_53 : decode cX4_bestGap 53 = .ok (.ireturn, 1) := by decide +kernel
theorem dX4_bestGap_54 : decode cX4_bestGap 54 = .ok (.iinc 2 1, 3) := by decide +kernel
theorem dX4_bestGap_57 : decode cX4_bestGap 57 = .ok (.goto (-25), 3) := by decide +kernel
theorem dX4_bestGap_60 : decode cX4_bestGap 60 = .ok (.aload_n 0, 1) := by decide +kernel
theorem dX4_bestGap_61 : decode cX4_bestGap 61 = .ok (.iconst (-1), 1) := by decide +kernel
theorem dX4_bestGap_62 : decode cX4_bestGap 62 = .ok (.invokevirtual 63, 3) := by decide +kernel
theorem dX4_bestGap_65 : decode cX4_bestGap 65 = .ok (.ireturn, 1) := by decide +kernel
set_option maxRecDepth 20000 in
theorem ggX4_supply_X4_isKind : GoodIn wsX4_supply wsX4_isKind := goodIn_r _ [5, 6, 7, 8, 4, 9, 61, 62, 63, 64, 65, 66, 67, 68, 69, 70] (by decide +kernel) (by decide +kernel)
set_option maxRecDepth 20000 in
theorem gX4_supply_X4_isKind : GoodIn wsX4_supply (wsV RX4 66 RX4 yX4_isKind wsX4_isKind) := goodIn_app (goodIn_of _ (by decide +kernel)) ggX4_supply_X4_isKind
set_option maxRecDepth 20000 in
theorem ggX4_supply_X4_throwing : GoodIn wsX4_supply wsX4_throwing := goodIn_r _ [13, 14, 61, 62, 63, 64, 65, 66, 67, 68, 69, 70] (by decide +kernel) (by decide +kernel)
set_option maxRecDepth 20000 in
theorem gX4_supply_X4_throwing : GoodIn wsX4_supply (wsV RX4 56 RX4 yX4_throwing wsX4_throwing) := goodIn_app (goodIn_of _ (by decide +kernel)) ggX4_supply_X4_throwing
set_option maxRecDepth 20000 in
theorem ggX4_supply_X4_laysAside : GoodIn wsX4_supply wsX4_laysAside := goodIn_r _ [18, 19, 6, 61, 62, 63, 64, 65, 66, 67, 68, 69, 70] (by decide +kernel) (by decide +kernel)
set_option maxRecDepth 20000 in
theorem gX4_supply_X4_laysAside : GoodIn wsX4_supply (wsV RX4 151 RX4 yX4_laysAside wsX4_laysAside) := goodIn_app (goodIn_of _ (by decide +kernel)) ggX4_supply_X4_laysAside
set_option maxRecDepth 20000 in
theorem ggX4_supply_X4_feeds : GoodIn wsX4_supply wsX4_feeds := goodIn_r _ [23, 6, 24, 25, 4, 26, 27, 28, 29, 30, 31, 32, 33, 34, 35, 36, 37, 38, 39, 40, 41, 42, 43, 44, 45, 46, 47, 48, 49, 50, 51, 52, 61, 62, 63, 64, 65, 66, 67, 68, 69, 70] (by decide +kernel) (by decide +kernel)
set_option maxRecDepth 20000 in
theorem gX4_supply_X4_feeds : GoodIn wsX4_supply (wsV RX4 94 RX4 yX4_feeds wsX4_feeds) := goodIn_app (goodIn_of _ (by decide +kernel)) ggX4_supply_X4_feeds
set_option maxRecDepth 20000 in
theorem ggX4_supply_X4_ofKind : GoodIn wsX4_supply wsX4_ofKind := goodIn_r _ [41, 6, 24, 25, 4, 26, 61, 62, 63, 64, 65, 66, 67, 68, 69, 70] (by decide +kernel) (by decide +kernel)
set_option maxRecDepth 20000 in
theorem gX4_supply_X4_ofKind : GoodIn wsX4_supply (wsV RX4 69 RX4 yX4_ofKind wsX4_ofKind) := goodIn_app (goodIn_of _ (by decide +kernel)) ggX4_supply_X4_ofKind
set_option maxRecDepth 20000 in
theorem ggX4_supply_X4_takesBack : GoodIn wsX4_supply wsX4_takesBack := goodIn_r _ [56, 6, 19, 61, 62, 63, 64, 65, 66, 67, 68, 69, 70] (by decide +kernel) (by decide +kernel)
set_option maxRecDepth 20000 in
theorem gX4_supply_X4_takesBack : GoodIn wsX4_supply (wsV RX4 154 RX4 yX4_takesBack wsX4_takesBack) := goodIn_app (goodIn_of _ (by decide +kernel)) ggX4_supply_X4_takesBack
set_option maxRecDepth 20000 in
theorem ggX4_supply_X4_fine : GoodIn wsX4_supply wsX4_fine := goodIn_r _ [60, 14, 61, 62, 63, 64, 65, 66, 67, 68, 69, 70] (by decide +kernel) (by decide +kernel)
set_option maxRecDepth 20000 in
theorem gX4_supply_X4_fine : GoodIn wsX4_supply (wsV RX4 63 RX4 yX4_fine wsX4_fine) := goodIn_app (goodIn_of _ (by decide +kernel)) ggX4_supply_X4_fine
theorem dX4_supply_0 : decode cX4_supply 0 = .ok (.aload_n 0, 1) := by decide +kernel
theorem dX4_supply_1 : decode cX4_supply 1 = .ok (.iload_n 1, 1) := by decide +kernel
theorem dX4_supply_2 : decode cX4_supply 2 = .ok (.invokevirtual 66, 3) := by decide +kernel
theorem dX4_supply_5 : decode cX4_supply 5 = .ok (.ifCond .ne 9, 3) := by decide +kernel
theorem dX4_supply_8 : decode cX4_supply 8 = .ok (.aload_n 0, 1) := by decide +kernel
theorem dX4_supply_9 : decode cX4_supply 9 = .ok (.iconst 1, 1) := by decide +kernel
theorem dX4_supply_10 : decode cX4_supply 10 = .ok (.invokevirtual 56, 3) := by decide +kernel
theorem dX4_supply_13 : decode cX4_supply 13 = .ok (.ireturn, 1) := by decide +kernel
theorem dX4_supply_14 : decode cX4_supply 14 = .ok (.aload_n 0, 1) := by decide +kernel
theorem dX4_supply_15 : decode cX4_supply 15 = .ok (.invokevirtual 151, 3) := by decide +kernel
theorem dX4_supply_18 : decode cX4_supply 18 = .ok (.iconst 0, 1) := by decide +kernel
theorem dX4_supply_19 : decode cX4_supply 19 = .ok (.istore_n 2, 1) := by decide +kernel
theorem dX4_supply_20 : decode cX4_supply 20 = .ok (.iload_n 2, 1) := by decide +kernel
theorem dX4_supply_21 : decode cX4_supply 21 = .ok (.bipush 40, 2) := by decide +kernel
theorem dX4_supply_23 : decode cX4_supply 23 = .ok (.if_icmp .ge 24, 3) := by decide +kernel
theorem dX4_supply_26 : decode cX4_supply 26 = .ok (.aload_n 0, 1) := by decide +kernel
theorem dX4_supply_27 : decode cX4_supply 27 = .ok (.iload_n 1, 1) := by decide +kernel
theorem dX4_supply_28 : decode cX4_supply 28 = .ok (.iconst 0, 1) := by decide +kernel
theorem dX4_supply_29 : decode cX4_supply 29 = .ok (.invokevirtual 94, 3) := by decide +kernel
theorem dX4_supply_32 : decode cX4_supply 32 = .ok (.aload_n 0, 1) := by decide +kernel
theorem dX4_supply_33 : decode cX4_supply 33 = .ok (.iload_n 1, 1) := by decide +kernel
theorem dX4_supply_34 : decode cX4_supply 34 = .ok (.iconst 2, 1) := by decide +kernel
theorem dX4_supply_35 : decode cX4_supply 35 = .ok (.invokevirtual 69, 3) := by decide +kernel
theorem dX4_supply_38 : decode cX4_supply 38 = .ok (.if_icmp .ne 9, 3) := by decide +kernel
theorem dX4_supply_41 : decode cX4_supply 41 = .ok (.iinc 2 1, 3) := by decide +kernel
theorem dX4_supply_44 : decode cX4_supply 44 = .ok (.goto (-24), 3) := by decide +kernel
theorem dX4_supply_47 : decode cX4_supply 47 = .ok (.aload_n 0, 1) := by decide +kernel
theorem dX4_supply_48 : decode cX4_supply 48 = .ok (.invokevirtual 154, 3) := by decide +kernel
theorem dX4_supply_51 : decode cX4_supply 51 = .ok (.aload_n 0, 1) := by decide +kernel
theorem dX4_supply_52 : decode cX4_supply 52 = .ok (.iload_n 2, 1) := by decide +kernel
theorem dX4_supply_53 : decode cX4_supply 53 = .ok (.invokevirtual 63, 3) := by decide +kernel
theorem dX4_supply_56 : decode cX4_supply 56 = .ok (.ireturn, 1) := by decide +kernel
set_option maxRecDepth 20000 in
theorem ggX4_worstKind_X4_inBags : GoodIn wsX4_worstKind wsX4_inBags := goodIn_r _ [6, 1, 7, 8, 5, 9, 22, 23, 24, 25, 26, 27, 28, 29, 30, 31] (by decide +kernel) (by decide +kernel)
set_option maxRecDepth 20000 in
theorem gX4_worstKind_X4_inBags : GoodIn wsX4_worstKind (wsV RX4 117 RX4 yX4_inBags wsX4_inBags) := goodIn_app (goodIn_of _ (by decide +kernel)) ggX4_worstKind_X4_inBags
set_option maxRecDepth 20000 in
theorem ggX4_worstKind_X4_ofKind : GoodIn wsX4_worstKind wsX4_ofKind := goodIn_r _ [13, 1, 14, 15, 5, 16, 22, 23, 24, 25, 26, 27, 28, 29, 30, 31] (by decide +kernel) (by decide +kernel)
set_option maxRecDepth 20000 in
theorem gX4_worstKind_X4_ofKind : GoodIn wsX4_worstKind (wsV RX4 69 RX4 yX4_ofKind wsX4_ofKind) := goodIn_app (goodIn_of _ (by decide +kernel)) ggX4_worstKind_X4_ofKind
set_option maxRecDepth 20000 in
theorem ggX4_worstKind_X4_countAt : GoodIn wsX4_worstKind wsX4_countAt := goodIn_r _ [9] (by decide +kernel) (by decide +kernel)
set_option maxRecDepth 20000 in
theorem gX4_worstKind_X4_countAt : GoodIn wsX4_worstKind (va_wsS RX4 79 yX4_countAt wsX4_countAt) := goodIn_app (goodIn_of _ (by decide +kernel)) ggX4_worstKind_X4_countAt
set_option maxRecDepth 20000 in
theorem ggX4_worstKind_X4_fine : GoodIn wsX4_worstKind wsX4_fine := goodIn_r _ [20, 21, 22, 23, 24, 25, 26, 27, 28, 29, 30, 31] (by decide +kernel) (by decide +kernel)
set_option maxRecDepth 20000 in
theorem gX4_worstKind_X4_fine : GoodIn wsX4_worstKind (wsV RX4 63 RX4 yX4_fine wsX4_fine) := goodIn_app (goodIn_of _ (by decide +kernel)) ggX4_worstKind_X4_fine
theorem dX4_worstKind_0 : decode cX4_worstKind 0 = .ok (.iconst (-1), 1) := by decide +kernel
theorem dX4_worstKind_1 : decode cX4_worstKind 1 = .ok (.istore_n 1, 1) := by decide +kernel
theorem dX4_worstKind_2 : decode cX4_worstKind 2 = .ok (.iconst 0, 1) := by decide +kernel
theorem dX4_worstKind_3 : decode cX4_worstKind 3 = .ok (.istore_n 2, 1) := by decide +kernel
theorem dX4_worstKind_4 : decode cX4_worstKind 4 = .ok (.iconst 0, 1) := by decide +kernel
theorem dX4_worstKind_5 : decode cX4_worstKind 5 = .ok (.istore_n 3, 1) := by decide +kernel
theorem dX4_worstKind_6 : decode cX4_worstKind 6 = .ok (.iload_n 3, 1) := by decide +kernel
theorem dX4_worstKind_7 : decode cX4_worstKind 7 = .ok (.aload_n 0, 1) := by decide +kernel
theorem dX4_worstKind_8 : decode cX4_worstKind 8 = .ok (.getfield 7, 3) := by decide +kernel
theorem dX4_worstKind_11 : decode cX4_worstKind 11 = .ok (.iconst 0, 1) := by decide +kernel
theorem dX4_worstKind_12 : decode cX4_worstKind 12 = .ok (.iaload, 1) := by decide +kernel
theorem dX4_worstKind_13 : decode cX4_worstKind 13 = .ok (.if_icmp .ge 57, 3) := by decide +kernel
theorem dX4_worstKind_16 : decode cX4_worstKind 16 = .ok (.aload_n 0, 1) := by decide +kernel
theorem dX4_worstKind_17 : decode cX4_worstKind 17 = .ok (.iload_n 3, 1) := by decide +kernel
theorem dX4_worstKind_18 : decode cX4_worstKind 18 = .ok (.invokevirtual 117, 3) := by decide +kernel
theorem dX4_worstKind_21 : decode cX4_worstKind 21 = .ok (.aload_n 0, 1) := by decide +kernel
theorem dX4_worstKind_22 : decode cX4_worstKind 22 = .ok (.getfield 7, 3) := by decide +kernel
theorem dX4_worstKind_25 : decode cX4_worstKind 25 = .ok (.aload_n 0, 1) := by decide +kernel
theorem dX4_worstKind_26 : decode cX4_worstKind 26 = .ok (.iload_n 3, 1) := by decide +kernel
theorem dX4_worstKind_27 : decode cX4_worstKind 27 = .ok (.iconst 2, 1) := by decide +kernel
theorem dX4_worstKind_28 : decode cX4_worstKind 28 = .ok (.invokevirtual 69, 3) := by decide +kernel
theorem dX4_worstKind_31 : decode cX4_worstKind 31 = .ok (.iload_n 3, 1) := by decide +kernel
theorem dX4_worstKind_32 : decode cX4_worstKind 32 = .ok (.invokestatic 79, 3) := by decide +kernel
theorem dX4_worstKind_35 : decode cX4_worstKind 35 = .ok (.iaload, 1) := by decide +kernel
theorem dX4_worstKind_36 : decode cX4_worstKind 36 = .ok (.isub, 1) := by decide +kernel
theorem dX4_worstKind_37 : decode cX4_worstKind 37 = .ok (.istore 4, 2) := by decide +kernel
theorem dX4_worstKind_39 : decode cX4_worstKind 39 = .ok (.iload 4, 2) := by decide +kernel
theorem dX4_worstKind_41 : decode cX4_worstKind 41 = .ok (.iload_n 2, 1) := by decide +kernel
theorem dX4_worstKind_42 : decode cX4_worstKind 42 = .ok (.if_icmp .le 7, 3) := by decide +kernel
theorem dX4_worstKind_45 : decode cX4_worstKind 45 = .ok (.iload_n 3, 1) := by decide +kernel
theorem dX4_worstKind_46 : decode cX4_worstKind 46 = .ok (.goto 4, 3) := by decide +kernel
theorem dX4_worstKind_49 : decode cX4_worstKind 49 = .ok (.iload_n 1, 1) := by decide +kernel
theorem dX4_worstKind_50 : decode cX4_worstKind 50 = .ok (.istore_n 1, 1) := by decide +kernel
theorem dX4_worstKind_51 : decode cX4_worstKind 51 = .ok (.iload 4, 2) := by decide +kernel
theorem dX4_worstKind_53 : decode cX4_worstKind 53 = .ok (.iload_n 2, 1) := by decide +kernel
theorem dX4_worstKind_54 : decode cX4_worstKind 54 = .ok (.if_icmp .le 8, 3) := by decide +kernel
theorem dX4_worstKind_57 : decode cX4_worstKind 57 = .ok (.iload 4, 2) := by decide +kernel
theorem dX4_worstKind_59 : decode cX4_worstKind 59 = .ok (.goto 4, 3) := by decide +kernel
theorem dX4_worstKind_62 : decode cX4_worstKind 62 = .ok (.iload_n 2, 1) := by decide +kernel
theorem dX4_worstKind_63 : decode cX4_worstKind 63 = .ok (.istore_n 2, 1) := by decide +kernel
theorem dX4_worstKind_64 : decode cX4_worstKind 64 = .ok (.iinc 3 1, 3) := by decide +kernel
theorem dX4_worstKind_67 : decode cX4_worstKind 67 = .ok (.goto (-61), 3) := by decide +kernel
theorem dX4_worstKind_70 : decode cX4_worstKind 70 = .ok (.aload_n 0, 1) := by decide +kernel
theorem dX4_worstKind_71 : decode cX4_worstKind 71 = .ok (.iload_n 1, 1) := by decide +kernel
theorem dX4_worstKind_72 : decode cX4_worstKind 72 = .ok (.invokevirtual 63, 3) := by decide +kernel
theorem dX4_worstKind_75 : decode cX4_worstKind 75 = .ok (.ireturn, 1) := by decide +kernel
set_option maxRecDepth 20000 in
theorem ggX4_right_X4_sumOf : GoodIn wsX4_right wsX4_sumOf := goodIn_r _ [6, 7, 8, 9, 5, 10, 11, 12, 13, 14, 15, 16, 17, 18, 19, 20, 21, 22, 23, 24, 25, 26, 27, 28, 29, 30, 31, 32, 33, 34, 35, 36, 37, 38, 39, 40, 41, 42, 43, 44, 45, 46, 47, 48, 49, 50, 51, 52, 53, 54, 55, 56, 57, 58] (by decide +kernel) (by decide +kernel)
set_option maxRecDepth 20000 in
theorem gX4_right_X4_sumOf : GoodIn wsX4_right (wsV RX4 145 RX4 yX4_sumOf wsX4_sumOf) := goodIn_app (goodIn_of _ (by decide +kernel)) ggX4_right_X4_sumOf
theorem dX4_right_0 : decode cX4_right 0 = .ok (.aload_n 0, 1) := by decide +kernel
theorem dX4_right_1 : decode cX4_right 1 = .ok (.iconst 0, 1) := by decide +kernel
theorem dX4_right_2 : decode cX4_right 2 = .ok (.putfield 30, 3) := by decide +kernel
theorem dX4_right_5 : decode cX4_right 5 = .ok (.aload_n 0, 1) := by decide +kernel
theorem dX4_right_6 : decode cX4_right 6 = .ok (.iconst 2, 1) := by decide +kernel
theorem dX4_right_7 : decode cX4_right 7 = .ok (.invokevirtual 145, 3) := by decide +kernel
theorem dX4_right_10 : decode cX4_right 10 = .ok (.aload_n 0, 1) := by decide +kernel
theorem dX4_right_11 : decode cX4_right 11 = .ok (.bipush 7, 2) := by decide +kernel
theorem dX4_right_13 : decode cX4_right 13 = .ok (.invokevirtual 145, 3) := by decide +kernel
theorem dX4_right_16 : decode cX4_right 16 = .ok (.isub, 1) := by decide +kernel
theorem dX4_right_17 : decode cX4_right 17 = .ok (.i2d, 1) := by decide +kernel
theorem dX4_right_18 : decode cX4_right 18 = .ok (.dstore_n 1, 1) := by decide +kernel
theorem dX4_right_19 : decode cX4_right 19 = .ok (.aload_n 0, 1) := by decide +kernel
theorem dX4_right_20 : decode cX4_right 20 = .ok (.iconst 2, 1) := by decide +kernel
theorem dX4_right_21 : decode cX4_right 21 = .ok (.invokevirtual 145, 3) := by decide +kernel
theorem dX4_right_24 : decode cX4_right 24 = .ok (.i2d, 1) := by decide +kernel
theorem dX4_right_25 : decode cX4_right 25 = .ok (.dstore_n 3, 1) := by decide +kernel
theorem dX4_right_26 : decode cX4_right 26 = .ok (.aload_n 0, 1) := by decide +kernel
theorem dX4_right_27 : decode cX4_right 27 = .ok (.iconst 2, 1) := by decide +kernel
theorem dX4_right_28 : decode cX4_right 28 = .ok (.invokevirtual 145, 3) := by decide +kernel
theorem dX4_right_31 : decode cX4_right 31 = .ok (.ifCond .ne 7, 3) := by decide +kernel
theorem dX4_right_34 : decode cX4_right 34 = .ok (.dconst 1, 1) := by decide +kernel
theorem dX4_right_35 : decode cX4_right 35 = .ok (.goto 6, 3) := by decide +kernel
theorem dX4_right_38 : decode cX4_right 38 = .ok (.dload_n 1, 1) := by decide +kernel
theorem dX4_right_39 : decode cX4_right 39 = .ok (.dload_n 3, 1) := by decide +kernel
theorem dX4_right_40 : decode cX4_right 40 = .ok (.ddiv, 1) := by decide +kernel
theorem dX4_right_41 : decode cX4_right 41 = .ok (.dreturn, 1) := by decide +kernel
set_option maxRecDepth 20000 in
theorem ggX4_append_X4_in : GoodIn wsX4_append wsX4_in := goodIn_r _ [7] (by decide +kernel) (by decide +kernel)
set_option maxRecDepth 20000 in
theorem gX4_append_X4_in : GoodIn wsX4_append (va_wsS RX4 40 yX4_in wsX4_in) := goodIn_app (goodIn_of _ (by decide +kernel)) ggX4_append_X4_in
set_option maxRecDepth 20000 in
theorem ggX4_append_X4_throwing : GoodIn wsX4_append wsX4_throwing := goodIn_r _ [11, 12, 17, 18, 19, 20, 21, 22, 23, 24, 25, 26] (by decide +kernel) (by decide +kernel)
set_option maxRecDepth 20000 in
theorem gX4_append_X4_throwing : GoodIn wsX4_append (wsV RX4 56 RX4 yX4_throwing wsX4_throwing) := goodIn_app (goodIn_of _ (by decide +kernel)) ggX4_append_X4_throwing
set_option maxRecDepth 20000 in
theorem ggX4_append_X4_fine : GoodIn wsX4_append wsX4_fine := goodIn_r _ [16, 12, 17, 18, 19, 20, 21, 22, 23, 24, 25, 26] (by decide +kernel) (by decide +kernel)
set_option maxRecDepth 20000 in
theorem gX4_append_X4_fine : GoodIn wsX4_append (wsV RX4 63 RX4 yX4_fine wsX4_fine) := goodIn_app (goodIn_of _ (by decide +kernel)) ggX4_append_X4_fine
theorem dX4_append_0 : decode cX4_append 0 = .ok (.iload_n 1, 1) := by decide +kernel
theorem dX4_append_1 : decode cX4_append 1 = .ok (.i2l, 1) := by decide +kernel
theorem dX4_append_2 : decode cX4_append 2 = .ok (.lconst 0, 1) := by decide +kernel
theorem dX4_append_3 : decode cX4_append 3 = .ok (.ldc2_w 167, 3) := by decide +kernel
theorem dX4_append_6 : decode cX4_append 6 = .ok (.invokestatic 40, 3) := by decide +kernel
theorem dX4_append_9 : decode cX4_append 9 = .ok (.ifCond .ne 9, 3) := by decide +kernel
theorem dX4_append_12 : decode cX4_append 12 = .ok (.aload_n 0, 1) := by decide +kernel
theorem dX4_append_13 : decode cX4_append 13 = .ok (.iconst 1, 1) := by decide +kernel
theorem dX4_append_14 : decode cX4_append 14 = .ok (.invokevirtual 56, 3) := by decide +kernel
theorem dX4_append_17 : decode cX4_append 17 = .ok (.ireturn, 1) := by decide +kernel
theorem dX4_append_18 : decode cX4_append 18 = .ok (.aload_n 0, 1) := by decide +kernel
theorem dX4_append_19 : decode cX4_append 19 = .ok (.getfield 169, 3) := by decide +kernel
theorem dX4_append_22 : decode cX4_append 22 = .ok (.bipush 90, 2) := by decide +kernel
theorem dX4_append_24 : decode cX4_append 24 = .ok (.if_icmp .ne 9, 3) := by decide +kernel
theorem dX4_append_27 : decode cX4_append 27 = .ok (.aload_n 0, 1) := by decide +kernel
theorem dX4_append_28 : decode cX4_append 28 = .ok (.iconst 2, 1) := by decide +kernel
theorem dX4_append_29 : decode cX4_append 29 = .ok (.invokevirtual 56, 3) := by decide +kernel
theorem dX4_append_32 : decode cX4_append 32 = .ok (.ireturn, 1) := by decide +kernel
theorem dX4_append_33 : decode cX4_append 33 = .ok (.aload_n 0, 1) := by decide +kernel
theorem dX4_append_34 : decode cX4_append 34 = .ok (.getfield 19, 3) := by decide +kernel
theorem dX4_append_37 : decode cX4_append 37 = .ok (.aload_n 0, 1) := by decide +kernel
theorem dX4_append_38 : decode cX4_append 38 = .ok (.getfield 169, 3) := by decide +kernel
theorem dX4_append_41 : decode cX4_append 41 = .ok (.iload_n 1, 1) := by decide +kernel
theorem dX4_append_42 : decode cX4_append 42 = .ok (.iastore, 1) := by decide +kernel
theorem dX4_append_43 : decode cX4_append 43 = .ok (.aload_n 0, 1) := by decide +kernel
theorem dX4_append_44 : decode cX4_append 44 = .ok (.dup, 1) := by decide +kernel
theorem dX4_append_45 : decode cX4_append 45 = .ok (.getfield 169, 3) := by decide +kernel
theorem dX4_append_48 : decode cX4_append 48 = .ok (.iconst 1, 1) := by decide +kernel
theorem dX4_append_49 : decode cX4_append 49 = .ok (.iadd, 1) := by decide +kernel
theorem dX4_append_50 : decode cX4_append 50 = .ok (.putfield 169, 3) := by decide +kernel
theorem dX4_append_53 : decode cX4_append 53 = .ok (.aload_n 0, 1) := by decide +kernel
theorem dX4_append_54 : decode cX4_append 54 = .ok (.aload_n 0, 1) := by decide +kernel
theorem dX4_append_55 : decode cX4_append 55 = .ok (.getfield 169, 3) := by decide +kernel
theorem dX4_append_58 : decode cX4_append 58 = .ok (.invokevirtual 63, 3) := by decide +kernel
theorem dX4_append_61 : decode cX4_append 61 = .ok (.ireturn, 1) := by decide +kernel
set_option maxRecDepth 20000 in
theorem ggX4_clearText_X4_fine : GoodIn wsX4_clearText wsX4_fine := goodIn_r _ [6, 7, 8, 9, 10, 11, 12, 13, 14, 15, 16, 17] (by decide +kernel) (by decide +kernel)
set_option maxRecDepth 20000 in
theorem gX4_clearText_X4_fine : GoodIn wsX4_clearText (wsV RX4 63 RX4 yX4_fine wsX4_fine) := goodIn_app (goodIn_of _ (by decide +kernel)) ggX4_clearText_X4_fine
theorem dX4_clearText_0 : decode cX4_clearText 0 = .ok (.aload_n 0, 1) := by decide +kernel
theorem dX4_clearText_1 : decode cX4_clearText 1 = .ok (.getfield 169, 3) := by decide +kernel
theorem dX4_clearText_4 : decode cX4_clearText 4 = .ok (.istore_n 1, 1) := by decide +kernel
theorem dX4_clearText_5 : decode cX4_clearText 5 = .ok (.aload_n 0, 1) := by decide +kernel
theorem dX4_clearText_6 : decode cX4_clearText 6 = .ok (.iconst 0, 1) := by decide +kernel
theorem dX4_clearText_7 : decode cX4_clearText 7 = .ok (.putfield 169, 3) := by decide +kernel
theorem dX4_clearText_10 : decode cX4_clearText 10 = .ok (.aload_n 0, 1) := by decide +kernel
theorem dX4_clearText_11 : decode cX4_clearText 11 = .ok (.iload_n 1, 1) := by decide +kernel
theorem dX4_clearText_12 : decode cX4_clearText 12 = .ok (.invokevirtual 63, 3) := by decide +kernel
theorem dX4_clearText_15 : decode cX4_clearText 15 = .ok (.ireturn, 1) := by decide +kernel
theorem dX4_here_0 : decode cX4_here 0 = .ok (.aload_n 0, 1) := by decide +kernel
theorem dX4_here_1 : decode cX4_here 1 = .ok (.getfield 172, 3) := by decide +kernel
theorem dX4_here_4 : decode cX4_here 4 = .ok (.aload_n 0, 1) := by decide +kernel
theorem dX4_here_5 : decode cX4_here 5 = .ok (.getfield 169, 3) := by decide +kernel
theorem dX4_here_8 : decode cX4_here 8 = .ok (.if_icmp .ge 15, 3) := by decide +kernel
theorem dX4_here_11 : decode cX4_here 11 = .ok (.aload_n 0, 1) := by decide +kernel
theorem dX4_here_12 : decode cX4_here 12 = .ok (.getfield 19, 3) := by decide +kernel
theorem dX4_here_15 : decode cX4_here 15 = .ok (.aload_n 0, 1) := by decide +kernel
theorem dX4_here_16 : decode cX4_here 16 = .ok (.getfield 172, 3) := by decide +kernel
theorem dX4_here_19 : decode cX4_here 19 = .ok (.iaload, 1) := by decide +kernel
theorem dX4_here_20 : decode cX4_here 20 = .ok (.goto 4, 3) := by decide +kernel
theorem dX4_here_23 : decode cX4_here 23 = .ok (.iconst (-1), 1) := by decide +kernel
theorem dX4_here_24 : decode cX4_here 24 = .ok (.ireturn, 1) := by decide +kernel
set_option maxRecDepth 20000 in
theorem ggX4_passes_X4_here : GoodIn wsX4_passes wsX4_here := goodIn_r _ [6, 1, 7, 8, 9, 10, 11, 12, 13, 14, 15, 16, 17, 18] (by decide +kernel) (by decide +kernel)
set_option maxRecDepth 20000 in
theorem gX4_passes_X4_here : GoodIn wsX4_passes (wsV RX4 175 RX4 yX4_here wsX4_here) := goodIn_app (goodIn_of _ (by decide +kernel)) ggX4_passes_X4_here
theorem dX4_passes_0 : decode cX4_passes 0 = .ok (.aload_n 0, 1) := by decide +kernel
theorem dX4_passes_1 : decode cX4_passes 1 = .ok (.invokevirtual 175, 3) := by decide +kernel
theorem dX4_passes_4 : decode cX4_passes 4 = .ok (.iload_n 1, 1) := by decide +kernel
theorem dX4_passes_5 : decode cX4_passes 5 = .ok (.if_icmp .ne 7, 3) := by decide +kernel
theorem dX4_passes_8 : decode cX4_passes 8 = .ok (.iconst 1, 1) := by decide +kernel
theorem dX4_passes_9 : decode cX4_passes 9 = .ok (.goto 4, 3) := by decide +kernel
theorem dX4_passes_12 : decode cX4_passes 12 = .ok (.iconst 0, 1) := by decide +kernel
theorem dX4_passes_13 : decode cX4_passes 13 = .ok (.istore_n 2, 1) := by decide +kernel
theorem dX4_passes_14 : decode cX4_passes 14 = .ok (.aload_n 0, 1) := by decide +kernel
theorem dX4_passes_15 : decode cX4_passes 15 = .ok (.dup, 1) := by decide +kernel
theorem dX4_passes_16 : decode cX4_passes 16 = .ok (.getfield 172, 3) := by decide +kernel
theorem dX4_passes_19 : decode cX4_passes 19 = .ok (.iload_n 2, 1) := by decide +kernel
theorem dX4_passes_20 : decode cX4_passes 20 = .ok (.ifCond .eq 7, 3) := by decide +kernel
theorem dX4_passes_23 : decode cX4_passes 23 = .ok (.iconst 1, 1) := by decide +kernel
theorem dX4_passes_24 : decode cX4_passes 24 = .ok (.goto 4, 3) := by decide +kernel
theorem dX4_passes_27 : decode cX4_passes 27 = .ok (.iconst 0, 1) := by decide +kernel
theorem dX4_passes_28 : decode cX4_passes 28 = .ok (.iadd, 1) := by decide +kernel
theorem dX4_passes_29 : decode cX4_passes 29 = .ok (.putfield 172, 3) := by decide +kernel
theorem dX4_passes_32 : decode cX4_passes 32 = .ok (.iload_n 2, 1) := by decide +kernel
theorem dX4_passes_33 : decode cX4_passes 33 = .ok (.ireturn, 1) := by decide +kernel
set_option maxRecDepth 20000 in
theorem ggX4_readsCoin_X4_here : GoodIn wsX4_readsCoin wsX4_here := goodIn_r _ [11, 5, 12, 13, 21, 22, 23, 24, 25, 26, 27, 28, 29, 30] (by decide +kernel) (by decide +kernel)
set_option maxRecDepth 20000 in
theorem gX4_readsCoin_X4_here : GoodIn wsX4_readsCoin (wsV RX4 175 RX4 yX4_here wsX4_here) := goodIn_app (goodIn_of _ (by decide +kernel)) ggX4_readsCoin_X4_here
set_option maxRecDepth 20000 in
theorem ggX4_readsCoin_X4_in : GoodIn wsX4_readsCoin wsX4_in := goodIn_r _ [16] (by decide +kernel) (by decide +kernel)
set_option maxRecDepth 20000 in
theorem gX4_readsCoin_X4_in : GoodIn wsX4_readsCoin (va_wsS RX4 40 yX4_in wsX4_in) := goodIn_app (goodIn_of _ (by decide +kernel)) ggX4_readsCoin_X4_in
set_option maxRecDepth 20000 in
theorem ggX4_readsCoin_X4_passes : GoodIn wsX4_readsCoin wsX4_passes := goodIn_r _ [20, 5, 7, 8, 9, 10, 11, 12, 13, 21, 22, 23, 24, 25, 26, 27, 28, 29, 30] (by decide +kernel) (by decide +kernel)
set_option maxRecDepth 20000 in
theorem gX4_readsCoin_X4_passes : GoodIn wsX4_readsCoin (wsV RX4 186 RX4 yX4_passes wsX4_passes) := goodIn_app (goodIn_of _ (by decide +kernel)) ggX4_readsCoin_X4_passes
theorem dX4_readsCoin_0 : decode cX4_readsCoin 0 = .ok (.aload_n 0, 1) := by decide +kernel
theorem dX4_readsCoin_1 : decode cX4_readsCoin 1 = .ok (.invokevirtual 175, 3) := by decide +kernel
theorem dX4_readsCoin_4 : decode cX4_readsCoin 4 = .ok (.i2l, 1) := by decide +kernel
theorem dX4_readsCoin_5 : decode cX4_readsCoin 5 = .ok (.ldc2_w 178, 3) := by decide +kernel
theorem dX4_readsCoin_8 : decode cX4_readsCoin 8 = .ok (.bipush 48, 2) := by decide +kernel
theorem dX4_readsCoin_10 : decode cX4_readsCoin 10 = .ok (.aload_n 0, 1) := by decide +kernel
theorem dX4_readsCoin_11 : decode cX4_readsCoin 11 = .ok (.getfield 7, 3) := by decide +kernel
theorem dX4_readsCoin_14 : decode cX4_readsCoin 14 = .ok (.iconst 0, 1) := by decide +kernel
theorem dX4_readsCoin_15 : decode cX4_readsCoin 15 = .ok (.iaload, 1) := by decide +kernel
theorem dX4_readsCoin_16 : decode cX4_readsCoin 16 = .ok (.iadd, 1) := by decide +kernel
theorem dX4_readsCoin_17 : decode cX4_readsCoin 17 = .ok (.i2l, 1) := by decide +kernel
theorem dX4_readsCoin_18 : decode cX4_readsCoin 18 = .ok (.lconst 1, 1) := by decide +kernel
theorem dX4_readsCoin_19 : decode cX4_readsCoin 19 = .ok (.lsub, 1) := by decide +kernel
theorem dX4_readsCoin_20 : decode cX4_readsCoin 20 = .ok (.invokestatic 40, 3) := by decide +kernel
theorem dX4_readsCoin_23 : decode cX4_readsCoin 23 = .ok (.ifCond .ne 5, 3) := by decide +kernel
theorem dX4_readsCoin_26 : decode cX4_readsCoin 26 = .ok (.iconst 0, 1) := by decide +kernel
theorem dX4_readsCoin_27 : decode cX4_readsCoin 27 = .ok (.ireturn, 1) := by decide +kernel
theorem dX4_readsCoin_28 : decode cX4_readsCoin 28 = .ok (.aload_n 0, 1) := by decide +kernel
theorem dX4_readsCoin_29 : decode cX4_readsCoin 29 = .ok (.aload_n 0, 1) := by decide +kernel
theorem dX4_readsCoin_30 : decode cX4_readsCoin 30 = .ok (.invokevirtual 175, 3) := by decide +kernel
theorem dX4_readsCoin_33 : decode cX4_readsCoin 33 = .ok (.bipush 48, 2) := by decide +kernel
theorem dX4_readsCoin_35 : decode cX4_readsCoin 35 = .ok (.isub, 1) := by decide +kernel
theorem dX4_readsCoin_36 : decode cX4_readsCoin 36 = .ok (.putfield 180, 3) := by decide +kernel
theorem dX4_readsCoin_39 : decode cX4_readsCoin 39 = .ok (.aload_n 0, 1) := by decide +kernel
theorem dX4_readsCoin_40 : decode cX4_readsCoin 40 = .ok (.iconst 0, 1) := by decide +kernel
theorem dX4_readsCoin_41 : decode cX4_readsCoin 41 = .ok (.putfield 183, 3) := by decide +kernel
theorem dX4_readsCoin_44 : decode cX4_readsCoin 44 = .ok (.aload_n 0, 1) := by decide +kernel
theorem dX4_readsCoin_45 : decode cX4_readsCoin 45 = .ok (.dup, 1) := by decide +kernel
theorem dX4_readsCoin_46 : decode cX4_readsCoin 46 = .ok (.getfield 172, 3) := by decide +kernel
theorem dX4_readsCoin_49 : decode cX4_readsCoin 49 = .ok (.iconst 1, 1) := by decide +kernel
theorem dX4_readsCoin_50 : decode cX4_readsCoin 50 = .ok (.iadd, 1) := by decide +kernel
theorem dX4_readsCoin_51 : decode cX4_readsCoin 51 = .ok (.putfield 172, 3) := by decide +kernel
theorem dX4_readsCoin_54 : decode cX4_readsCoin 54 = .ok (.aload_n 0, 1) := by decide +kernel
theorem dX4_readsCoin_55 : decode cX4_readsCoin 55 = .ok (.bipush 119, 2) := by decide +kernel
theorem dX4_readsCoin_57 : decode cX4_readsCoin 57 = .ok (.invokevirtual 186, 3) := by decide +kernel
theorem dX4_readsCoin_60 : decode cX4_readsCoin 60 = .ok (.ifCond .eq 77, 3) := by decide +kernel
theorem dX4_readsCoin_63 : decode cX4_readsCoin 63 = .ok (.aload_n 0, 1) := by decide +kernel
theorem dX4_readsCoin_64 : decode cX4_readsCoin 64 = .ok (.getfield 172, 3) := by decide +kernel
theorem dX4_readsCoin_67 : decode cX4_readsCoin 67 = .ok (.istore_n 1, 1) := by decide +kernel
theorem dX4_readsCoin_68 : decode cX4_readsCoin 68 = .ok (.aload_n 0, 1) := by decide +kernel
theorem dX4_readsCoin_69 : decode cX4_readsCoin 69 = .ok (.invokevirtual 175, 3) := by decide +kernel
theorem dX4_readsCoin_72 : decode cX4_readsCoin 72 = .ok (.i2l, 1) := by decide +kernel
theorem dX4_readsCoin_73 : decode cX4_readsCoin 73 = .ok (.ldc2_w 178, 3) := by decide +kernel
theorem dX4_readsCoin_76 : decode cX4_readsCoin 76 = .ok (.ldc2_w 189, 3) := by decide +kernel
theorem dX4_readsCoin_79 : decode cX4_readsCoin 79 = .ok (.invokestatic 40, 3) := by decide +kernel
theorem dX4_readsCoin_82 : decode cX4_readsCoin 82 = .ok (.ifCond .eq 45, 3) := by decide +kernel
theorem dX4_readsCoin_85 : decode cX4_readsCoin 85 = .ok (.aload_n 0, 1) := by decide +kernel
theorem dX4_readsCoin_86 : decode cX4_readsCoin 86 = .ok (.getfield 172, 3) := by decide +kernel
theorem dX4_readsCoin_89 : decode cX4_readsCoin 89 = .ok (.iload_n 1, 1) := by decide +kernel
theorem dX4_readsCoin_90 : decode cX4_readsCoin 90 = .ok (.iconst 3, 1) := by decide +kernel
theorem dX4_readsCoin_91 : decode cX4_readsCoin 91 = .ok (.iadd, 1) := by decide +kernel
theorem dX4_readsCoin_92 : decode cX4_readsCoin 92 = .ok (.if_icmp .ge 35, 3) := by decide +kernel
theorem dX4_readsCoin_95 : decode cX4_readsCoin 95 = .ok (.aload_n 0, 1) := by decide +kernel
theorem dX4_readsCoin_96 : decode cX4_readsCoin 96 = .ok (.bipush 10, 2) := by decide +kernel
theorem dX4_readsCoin_98 : decode cX4_readsCoin 98 = .ok (.aload_n 0, 1) := by decide +kernel
theorem dX4_readsCoin_99 : decode cX4_readsCoin 99 = .ok (.getfield 183, 3) := by decide +kernel
theorem dX4_readsCoin_102 : decode cX4_readsCoin 102 = .ok (.imul, 1) := by decide +kernel
theorem dX4_readsCoin_103 : decode cX4_readsCoin 103 = .ok (.aload_n 0, 1) := by decide +kernel
theorem dX4_readsCoin_104 : decode cX4_readsCoin 104 = .ok (.invokevirtual 175, 3) := by decide +kernel
theorem dX4_readsCoin_107 : decode cX4_readsCoin 107 = .ok (.iadd, 1) := by decide +kernel
theorem dX4_readsCoin_108 : decode cX4_readsCoin 108 = .ok (.bipush 48, 2) := by decide +kernel
theorem dX4_readsCoin_110 : decode cX4_readsCoin 110 = .ok (.isub, 1) := by decide +kernel
theorem dX4_readsCoin_111 : decode cX4_readsCoin 111 = .ok (.putfield 183, 3) := by decide +kernel
theorem dX4_readsCoin_114 : decode cX4_readsCoin 114 = .ok (.aload_n 0, 1) := by decide +kernel
theorem dX4_readsCoin_115 : decode cX4_readsCoin 115 = .ok (.dup, 1) := by decide +kernel
theorem dX4_readsCoin_116 : decode cX4_readsCoin 116 = .ok (.getfield 172, 3) := by decide +kernel
theorem dX4_readsCoin_119 : decode cX4_readsCoin 119 = .ok (.iconst 1, 1) := by decide +kernel
theorem dX4_readsCoin_120 : decode cX4_readsCoin 120 = .ok (.iadd, 1) := by decide +kernel
theorem dX4_readsCoin_121 : decode cX4_readsCoin 121 = .ok (.putfield 172, 3) := by decide +kernel
theorem dX4_readsCoin_124 : decode cX4_readsCoin 124 = .ok (.goto (-56), 3) := by decide +kernel
theorem dX4_readsCoin_127 : decode cX4_readsCoin 127 = .ok (.aload_n 0, 1) := by decide +kernel
theorem dX4_readsCoin_128 : decode cX4_readsCoin 128 = .ok (.getfield 172, 3) := by decide +kernel
theorem dX4_readsCoin_131 : decode cX4_readsCoin 131 = .ok (.iload_n 1, 1) := by decide +kernel
theorem dX4_readsCoin_132 : decode cX4_readsCoin 132 = .ok (.if_icmp .ne 5, 3) := by decide +kernel
theorem dX4_readsCoin_135 : decode cX4_readsCoin 135 = .ok (.iconst 0, 1) := by decide +kernel
theorem dX4_readsCoin_136 : decode cX4_readsCoin 136 = .ok (.ireturn, 1) := by decide +kernel
theorem dX4_readsCoin_137 : decode cX4_readsCoin 137 = .ok (.aload_n 0, 1) := by decide +kernel
theorem dX4_readsCoin_138 : decode cX4_readsCoin 138 = .ok (.bipush 59, 2) := by decide +kernel
theorem dX4_readsCoin_140 : decode cX4_readsCoin 140 = .ok (.invokevirtual 186, 3) := by decide +kernel
theorem dX4_readsCoin_143 : decode cX4_readsCoin 143 = .ok (.ireturn, 1) := by decide +kernel
set_option maxRecDepth 20000 in
theorem ggX4_parse_X4_readsCoin : GoodIn wsX4_parse wsX4_readsCoin := goodIn_r _ [10, 11, 12, 3, 4, 1, 13, 14, 15, 16, 9, 17, 2, 18, 19, 20, 21, 22, 23, 24, 25, 70, 71, 72, 73, 74, 75, 76, 77, 78, 79] (by decide +kernel) (by decide +kernel)
set_option maxRecDepth 20000 in
theorem gX4_parse_X4_readsCoin : GoodIn wsX4_parse (wsV RX4 191 RX4 yX4_readsCoin wsX4_readsCoin) := goodIn_app (goodIn_of _ (by decide +kernel)) ggX4_parse_X4_readsCoin
set_option maxRecDepth 20000 in
theorem ggX4_parse_X4_fine : GoodIn wsX4_parse wsX4_fine := goodIn_r _ [29, 30, 70, 71, 72, 73, 74, 75, 76, 77, 78, 79] (by decide +kernel) (by decide +kernel)
set_option maxRecDepth 20000 in
theorem gX4_parse_X4_fine : GoodIn wsX4_parse (wsV RX4 63 RX4 yX4_fine wsX4_fine) := goodIn_app (goodIn_of _ (by decide +kernel)) ggX4_parse_X4_fine
set_option maxRecDepth 20000 in
theorem ggX4_parse_X4_save : GoodIn wsX4_parse wsX4_save := goodIn_r _ [34, 35, 36, 12, 70, 71, 72, 73, 74, 75, 76, 77, 78, 79] (by decide +kernel) (by decide +kernel)
set_option maxRecDepth 20000 in
theorem gX4_parse_X4_save : GoodIn wsX4_parse (wsV RX4 60 RX4 yX4_save wsX4_save) := goodIn_app (goodIn_of _ (by decide +kernel)) ggX4_parse_X4_save
set_option maxRecDepth 20000 in
theorem ggX4_parse_X4_feeds : GoodIn wsX4_parse wsX4_feeds := goodIn_r _ [40, 12, 41, 42, 9, 43, 44, 45, 46, 47, 48, 49, 50, 51, 52, 53, 54, 55, 56, 57, 58, 59, 60, 61, 62, 63, 64, 65, 66, 67, 68, 69, 70, 71, 72, 73, 74, 75, 76, 77, 78, 79] (by decide +kernel) (by decide +kernel)
set_option maxRecDepth 20000 in
theorem gX4_parse_X4_feeds : GoodIn wsX4_parse (wsV RX4 94 RX4 yX4_feeds wsX4_feeds) := goodIn_app (goodIn_of _ (by decide +kernel)) ggX4_parse_X4_feeds
set_option maxRecDepth 20000 in
theorem ggX4_parse_X4_in : GoodIn wsX4_parse wsX4_in := goodIn_r _ [21] (by decide +kernel) (by decide +kernel)
set_option maxRecDepth 20000 in
theorem gX4_parse_X4_in : GoodIn wsX4_parse (va_wsS RX4 40 yX4_in wsX4_in) := goodIn_app (goodIn_of _ (by decide +kernel)) ggX4_parse_X4_in
theorem dX4_parse_0 : decode cX4_parse 0 = .ok (.aload_n 0, 1) := by decide +kernel
theorem dX4_parse_1 : decode cX4_parse 1 = .ok (.iconst 0, 1) := by decide +kernel
theorem dX4_parse_2 : decode cX4_parse 2 = .ok (.putfield 172, 3) := by decide +kernel
theorem dX4_parse_5 : decode cX4_parse 5 = .ok (.aload_n 0, 1) := by decide +kernel
theorem dX4_parse_6 : decode cX4_parse 6 = .ok (.getfield 172, 3) := by decide +kernel
theorem dX4_parse_9 : decode cX4_parse 9 = .ok (.aload_n 0, 1) := by decide +kernel
theorem dX4_parse_10 : decode cX4_parse 10 = .ok (.getfield 169, 3) := by decide +kernel
theorem dX4_parse_13 : decode cX4_parse 13 = .ok (.if_icmp .ge 22, 3) := by decide +kernel
theorem dX4_parse_16 : decode cX4_parse 16 = .ok (.aload_n 0, 1) := by decide +kernel
theorem dX4_parse_17 : decode cX4_parse 17 = .ok (.invokevirtual 191, 3) := by decide +kernel
theorem dX4_parse_20 : decode cX4_parse 20 = .ok (.ifCond .ne (-15), 3) := by decide +kernel
theorem dX4_parse_23 : decode cX4_parse 23 = .ok (.aload_n 0, 1) := by decide +kernel
theorem dX4_parse_24 : decode cX4_parse 24 = .ok (.bipush (-10), 2) := by decide +kernel
theorem dX4_parse_26 : decode cX4_parse 26 = .ok (.aload_n 0, 1) := by decide +kernel
theorem dX4_parse_27 : decode cX4_parse 27 = .ok (.getfield 172, 3) := by decide +kernel
theorem dX4_parse_30 : decode cX4_parse 30 = .ok (.isub, 1) := by decide +kernel
theorem dX4_parse_31 : decode cX4_parse 31 = .ok (.invokevirtual 63, 3) := by decide +kernel
theorem dX4_parse_34 : decode cX4_parse 34 = .ok (.ireturn, 1) := by decide +kernel
theorem dX4_parse_35 : decode cX4_parse 35 = .ok (.aload_n 0, 1) := by decide +kernel
theorem dX4_parse_36 : decode cX4_parse 36 = .ok (.invokevirtual 60, 3) := by decide +kernel
theorem dX4_parse_39 : decode cX4_parse 39 = .ok (.iconst 0, 1) := by decide +kernel
theorem dX4_parse_40 : decode cX4_parse 40 = .ok (.istore_n 1, 1) := by decide +kernel
theorem dX4_parse_41 : decode cX4_parse 41 = .ok (.aload_n 0, 1) := by decide +kernel
theorem dX4_parse_42 : decode cX4_parse 42 = .ok (.iconst 0, 1) := by decide +kernel
theorem dX4_parse_43 : decode cX4_parse 43 = .ok (.putfield 172, 3) := by decide +kernel
theorem dX4_parse_46 : decode cX4_parse 46 = .ok (.aload_n 0, 1) := by decide +kernel
theorem dX4_parse_47 : decode cX4_parse 47 = .ok (.getfield 172, 3) := by decide +kernel
theorem dX4_parse_50 : decode cX4_parse 50 = .ok (.aload_n 0, 1) := by decide +kernel
theorem dX4_parse_51 : decode cX4_parse 51 = .ok (.getfield 169, 3) := by decide +kernel
theorem dX4_parse_54 : decode cX4_parse 54 = .ok (.if_icmp .ge 46, 3) := by decide +kernel
theorem dX4_parse_57 : decode cX4_parse 57 = .ok (.aload_n 0, 1) := by decide +kernel
theorem dX4_parse_58 : decode cX4_parse 58 = .ok (.invokevirtual 191, 3) := by decide +kernel
theorem dX4_parse_61 : decode cX4_parse 61 = .ok (.istore_n 2, 1) := by decide +kernel
theorem dX4_parse_62 : decode cX4_parse 62 = .ok (.iload_n 1, 1) := by decide +kernel
theorem dX4_parse_63 : decode cX4_parse 63 = .ok (.iload_n 2, 1) := by decide +kernel
theorem dX4_parse_64 : decode cX4_parse 64 = .ok (.ifCond .eq 30, 3) := by decide +kernel
theorem dX4_parse_67 : decode cX4_parse 67 = .ok (.aload_n 0, 1) := by decide +kernel
theorem dX4_parse_68 : decode cX4_parse 68 = .ok (.aload_n 0, 1) := by decide +kernel
theorem dX4_parse_69 : decode cX4_parse 69 = .ok (.getfield 180, 3) := by decide +kernel
theorem dX4_parse_72 : decode cX4_parse 72 = .ok (.aload_n 0, 1) := by decide +kernel
theorem dX4_parse_73 : decode cX4_parse 73 = .ok (.getfield 183, 3) := by decide +kernel
theorem dX4_parse_76 : decode cX4_parse 76 = .ok (.invokevirtual 94, 3) := by decide +kernel
theorem dX4_parse_79 : decode cX4_parse 79 = .ok (.i2l, 1) := by decide +kernel
theorem dX4_parse_80 : decode cX4_parse 80 = .ok (.lconst 0, 1) := by decide +kernel
theorem dX4_parse_81 : decode cX4_parse 81 = .ok (.ldc2_w 44, 3) := by decide +kernel
theorem dX4_parse_84 : decode cX4_parse 84 = .ok (.invokestatic 40, 3) := by decide +kernel
theorem dX4_parse_87 : decode cX4_parse 87 = .ok (.ifCond .eq 7, 3) := by decide +kernel
theorem dX4_parse_90 : decode cX4_parse 90 = .ok (.iconst 1, 1) := by decide +kernel
theorem dX4_parse_91 : decode cX4_parse 91 = .ok (.goto 4, 3) := by decide +kernel
theorem dX4_parse_94 : decode cX4_parse 94 = .ok (.iconst 0, 1) := by decide +kernel
theorem dX4_parse_95 : decode cX4_parse 95 = .ok (.iadd, 1) := by decide +kernel
theorem dX4_parse_96 : decode cX4_parse 96 = .ok (.istore_n 1, 1) := by decide +kernel
theorem dX4_parse_97 : decode cX4_parse 97 = .ok (.goto (-51), 3) := by decide +kernel
theorem dX4_parse_100 : decode cX4_parse 100 = .ok (.aload_n 0, 1) := by decide +kernel
theorem dX4_parse_101 : decode cX4_parse 101 = .ok (.iload_n 1, 1) := by decide +kernel
theorem dX4_parse_102 : decode cX4_parse 102 = .ok (.invokevirtual 63, 3) := by decide +kernel
theorem dX4_parse_105 : decode cX4_parse 105 = .ok (.ireturn, 1) := by decide +kernel
set_option maxRecDepth 20000 in
theorem ggX4_undo_X4_throwing : GoodIn wsX4_undo wsX4_throwing := goodIn_r _ [8, 9, 14, 15, 16, 17, 18, 19, 20, 21, 22, 23] (by decide +kernel) (by decide +kernel)
set_option maxRecDepth 20000 in
theorem gX4_undo_X4_throwing : GoodIn wsX4_undo (wsV RX4 56 RX4 yX4_throwing wsX4_throwing) := goodIn_app (goodIn_of _ (by decide +kernel)) ggX4_undo_X4_throwing
set_option maxRecDepth 20000 in
theorem ggX4_undo_X4_fine : GoodIn wsX4_undo wsX4_fine := goodIn_r _ [13, 9, 14, 15, 16, 17, 18, 19, 20, 21, 22, 23] (by decide +kernel) (by decide +kernel)
set_option maxRecDepth 20000 in
theorem gX4_undo_X4_fine : GoodIn wsX4_undo (wsV RX4 63 RX4 yX4_fine wsX4_fine) := goodIn_app (goodIn_of _ (by decide +kernel)) ggX4_undo_X4_fine
theorem dX4_undo_0 : decode cX4_undo 0 = .ok (.aload_n 0, 1) := by decide +kernel
theorem dX4_undo_1 : decode cX4_undo 1 = .ok (.getfield 34, 3) := by decide +kernel
theorem dX4_undo_4 : decode cX4_undo 4 = .ok (.ifCond .ne 9, 3) := by decide +kernel
theorem dX4_undo_7 : decode cX4_undo 7 = .ok (.aload_n 0, 1) := by decide +kernel
theorem dX4_undo_8 : decode cX4_undo 8 = .ok (.iconst 1, 1) := by decide +kernel
theorem dX4_undo_9 : decode cX4_undo 9 = .ok (.invokevirtual 56, 3) := by decide +kernel
theorem dX4_undo_12 : decode cX4_undo 12 = .ok (.ireturn, 1) := by decide +kernel
theorem dX4_undo_13 : decode cX4_undo 13 = .ok (.aload_n 0, 1) := by decide +kernel
theorem dX4_undo_14 : decode cX4_undo 14 = .ok (.dup, 1) := by decide +kernel
theorem dX4_undo_15 : decode cX4_undo 15 = .ok (.getfield 34, 3) := by decide +kernel
theorem dX4_undo_18 : decode cX4_undo 18 = .ok (.iconst 1, 1) := by decide +kernel
theorem dX4_undo_19 : decode cX4_undo 19 = .ok (.isub, 1) := by decide +kernel
theorem dX4_undo_20 : decode cX4_undo 20 = .ok (.putfield 34, 3) := by decide +kernel
theorem dX4_undo_23 : decode cX4_undo 23 = .ok (.iconst 0, 1) := by decide +kernel
theorem dX4_undo_24 : decode cX4_undo 24 = .ok (.istore_n 1, 1) := by decide +kernel
theorem dX4_undo_25 : decode cX4_undo 25 = .ok (.iload_n 1, 1) := by decide +kernel
theorem dX4_undo_26 : decode cX4_undo 26 = .ok (.bipush 99, 2) := by decide +kernel
theorem dX4_undo_28 : decode cX4_undo 28 = .ok (.if_icmp .ge 29, 3) := by decide +kernel
theorem dX4_undo_31 : decode cX4_undo 31 = .ok (.aload_n 0, 1) := by decide +kernel
theorem dX4_undo_32 : decode cX4_undo 32 = .ok (.getfield 7, 3) := by decide +kernel
theorem dX4_undo_35 : decode cX4_undo 35 = .ok (.iload_n 1, 1) := by decide +kernel
theorem dX4_undo_36 : decode cX4_undo 36 = .ok (.aload_n 0, 1) := by decide +kernel
theorem dX4_undo_37 : decode cX4_undo 37 = .ok (.getfield 13, 3) := by decide +kernel
theorem dX4_undo_40 : decode cX4_undo 40 = .ok (.bipush 99, 2) := by decide +kernel
theorem dX4_undo_42 : decode cX4_undo 42 = .ok (.aload_n 0, 1) := by decide +kernel
theorem dX4_undo_43 : decode cX4_undo 43 = .ok (.getfield 34, 3) := by decide +kernel
theorem dX4_undo_46 : decode cX4_undo 46 = .ok (.imul, 1) := by decide +kernel
theorem dX4_undo_47 : decode cX4_undo 47 = .ok (.iload_n 1, 1) := by decide +kernel
theorem dX4_undo_48 : decode cX4_undo 48 = .ok (.iadd, 1) := by decide +kernel
theorem dX4_undo_49 : decode cX4_undo 49 = .ok (.iaload, 1) := by decide +kernel
theorem dX4_undo_50 : decode cX4_undo 50 = .ok (.iastore, 1) := by decide +kernel
theorem dX4_undo_51 : decode cX4_undo 51 = .ok (.iinc 1 1, 3) := by decide +kernel
theorem dX4_undo_54 : decode cX4_undo 54 = .ok (.goto (-29), 3) := by decide +kernel
theorem dX4_undo_57 : decode cX4_undo 57 = .ok (.aload_n 0, 1) := by decide +kernel
theorem dX4_undo_58 : decode cX4_undo 58 = .ok (.aload_n 0, 1) := by decide +kernel
theorem dX4_undo_59 : decode cX4_undo 59 = .ok (.getfield 34, 3) := by decide +kernel
theorem dX4_undo_62 : decode cX4_undo 62 = .ok (.invokevirtual 63, 3) := by decide +kernel
theorem dX4_undo_65 : decode cX4_undo 65 = .ok (.ireturn, 1) := by decide +kernel
set_option maxRecDepth 20000 in
theorem ggX4_digest_X4_valueOf : GoodIn wsX4_digest wsX4_valueOf := goodIn_r _ [11, 5, 12, 13, 14, 10, 15, 16, 17, 18, 19, 20, 21, 22, 23, 24, 25, 26, 27, 28, 29, 30, 31, 32, 33, 34, 35, 36, 37, 38, 39, 40, 41, 42, 43, 44, 45, 46, 47, 48, 49, 50, 51, 52, 53, 54, 55, 56, 57, 58, 59, 60, 61, 62, 63, 64, 102, 103, 104, 105, 106, 107, 108, 109, 110, 111] (by decide +kernel) (by decide +kernel)
set_option maxRecDepth 20000 in
theorem gX4_digest_X4_valueOf : GoodIn wsX4_digest (wsV RX4 148 RX4 yX4_valueOf wsX4_valueOf) := goodIn_app (goodIn_of _ (by decide +kernel)) ggX4_digest_X4_valueOf
set_option maxRecDepth 20000 in
theorem ggX4_digest_X4_kindOf : GoodIn wsX4_digest wsX4_kindOf := goodIn_r _ [68, 69, 70, 71, 10, 72, 5, 20, 21, 22, 57, 58, 59, 60, 27, 28, 29, 30, 31, 32, 33, 42, 43, 44, 45, 46, 47, 48, 102, 103, 104, 105, 106, 107, 108, 109, 110, 111] (by decide +kernel) (by decide +kernel)
set_option maxRecDepth 20000 in
theorem gX4_digest_X4_kindOf : GoodIn wsX4_digest (wsV RX4 125 RX4 yX4_kindOf wsX4_kindOf) := goodIn_app (goodIn_of _ (by decide +kernel)) ggX4_digest_X4_kindOf
set_option maxRecDepth 20000 in
theorem ggX4_digest_X4_mostWearOf : GoodIn wsX4_digest wsX4_mostWearOf := goodIn_r _ [76, 77, 78, 79, 10, 80, 81, 82, 83, 84, 85, 5, 86, 87, 88, 89, 46, 47, 48, 27, 28, 29, 30, 31, 32, 33, 90, 91, 92, 93, 42, 43, 44, 45, 16, 17, 18, 19, 20, 21, 22, 94, 95, 96, 97, 98, 99, 100, 101, 102, 103, 104, 105, 106, 107, 108, 109, 110, 111] (by decide +kernel) (by decide +kernel)
set_option maxRecDepth 20000 in
theorem gX4_digest_X4_mostWearOf : GoodIn wsX4_digest (wsV RX4 160 RX4 yX4_mostWearOf wsX4_mostWearOf) := goodIn_app (goodIn_of _ (by decide +kernel)) ggX4_digest_X4_mostWearOf
set_option maxRecDepth 20000 in
theorem ggX4_digest_X4_railOf : GoodIn wsX4_digest wsX4_railOf := goodIn_r _ [26, 16, 17, 18, 10, 19, 5, 20, 21, 22, 27, 28, 29, 30, 31, 32, 33, 34, 35, 36, 37, 38, 39, 40, 41, 42, 43, 44, 45, 46, 47, 48, 49, 50, 51, 52, 53, 54, 55, 56, 102, 103, 104, 105, 106, 107, 108, 109, 110, 111] (by decide +kernel) (by decide +kernel)
set_option maxRecDepth 20000 in
theorem gX4_digest_X4_railOf : GoodIn wsX4_digest (wsV RX4 142 RX4 yX4_railOf wsX4_railOf) := goodIn_app (goodIn_of _ (by decide +kernel)) ggX4_digest_X4_railOf
set_option maxRecDepth 20000 in
theorem ggX4_digest_X4_countAt : GoodIn wsX4_digest wsX4_countAt := goodIn_r _ [22] (by decide +kernel) (by decide +kernel)
set_option maxRecDepth 20000 in
theorem gX4_digest_X4_countAt : GoodIn wsX4_digest (va_wsS RX4 79 yX4_countAt wsX4_countAt) := goodIn_app (goodIn_of _ (by decide +kernel)) ggX4_digest_X4_countAt
theorem dX4_digest_0 : decode cX4_digest 0 = .ok (.aload_n 0, 1) := by decide +kernel
theorem dX4_digest_1 : decode cX4_digest 1 = .ok (.iconst 0, 1) := by decide +kernel
theorem dX4_digest_2 : decode cX4_digest 2 = .ok (.putfield 30, 3) := by decide +kernel
theorem dX4_digest_5 : decode cX4_digest 5 = .ok (.ldc2_w 195, 3) := by decide +kernel
theorem dX4_digest_8 : decode cX4_digest 8 = .ok (.aload_n 0, 1) := by decide +kernel
theorem dX4_digest_9 : decode cX4_digest 9 = .ok (.getfield 169, 3) := by decide +kernel
theorem dX4_digest_12 : decode cX4_digest 12 = .ok (.i2l, 1) := by decide +kernel
theorem dX4_digest_13 : decode cX4_digest 13 = .ok (.ladd, 1) := by decide +kernel
theorem dX4_digest_14 : decode cX4_digest 14 = .ok (.lstore_n 1, 1) := by decide +kernel
theorem dX4_digest_15 : decode cX4_digest 15 = .ok (.iconst 0, 1) := by decide +kernel
theorem dX4_digest_16 : decode cX4_digest 16 = .ok (.istore_n 3, 1) := by decide +kernel
theorem dX4_digest_17 : decode cX4_digest 17 = .ok (.iload_n 3, 1) := by decide +kernel
theorem dX4_digest_18 : decode cX4_digest 18 = .ok (.bipush 10, 2) := by decide +kernel
theorem dX4_digest_20 : decode cX4_digest 20 = .ok (.if_icmp .ge 22, 3) := by decide +kernel
theorem dX4_digest_23 : decode cX4_digest 23 = .ok (.ldc2_w 197, 3) := by decide +kernel
theorem dX4_digest_26 : decode cX4_digest 26 = .ok (.lload_n 1, 1) := by decide +kernel
theorem dX4_digest_27 : decode cX4_digest 27 = .ok (.lmul, 1) := by decide +kernel
theorem dX4_digest_28 : decode cX4_digest 28 = .ok (.aload_n 0, 1) := by decide +kernel
theorem dX4_digest_29 : decode cX4_digest 29 = .ok (.iload_n 3, 1) := by decide +kernel
theorem dX4_digest_30 : decode cX4_digest 30 = .ok (.invokevirtual 148, 3) := by decide +kernel
theorem dX4_digest_33 : decode cX4_digest 33 = .ok (.i2l, 1) := by decide +kernel
theorem dX4_digest_34 : decode cX4_digest 34 = .ok (.ladd, 1) := by decide +kernel
theorem dX4_digest_35 : decode cX4_digest 35 = .ok (.lstore_n 1, 1) := by decide +kernel
theorem dX4_digest_36 : decode cX4_digest 36 = .ok (.iinc 3 1, 3) := by decide +kernel
theorem dX4_digest_39 : decode cX4_digest 39 = .ok (.goto (-22), 3) := by decide +kernel
theorem dX4_digest_42 : decode cX4_digest 42 = .ok (.iconst 0, 1) := by decide +kernel
theorem dX4_digest_43 : decode cX4_digest 43 = .ok (.istore_n 3, 1) := by decide +kernel
theorem dX4_digest_44 : decode cX4_digest 44 = .ok (.iload_n 3, 1) := by decide +kernel
theorem dX4_digest_45 : decode cX4_digest 45 = .ok (.aload_n 0, 1) := by decide +kernel
theorem dX4_digest_46 : decode cX4_digest 46 = .ok (.getfield 7, 3) := by decide +kernel
theorem dX4_digest_49 : decode cX4_digest 49 = .ok (.iconst 0, 1) := by decide +kernel
theorem dX4_digest_50 : decode cX4_digest 50 = .ok (.iaload, 1) := by decide +kernel
theorem dX4_digest_51 : decode cX4_digest 51 = .ok (.if_icmp .ge 53, 3) := by decide +kernel
theorem dX4_digest_54 : decode cX4_digest 54 = .ok (.iconst 0, 1) := by decide +kernel
theorem dX4_digest_55 : decode cX4_digest 55 = .ok (.istore 4, 2) := by decide +kernel
theorem dX4_digest_57 : decode cX4_digest 57 = .ok (.iload 4, 2) := by decide +kernel
theorem dX4_digest_59 : decode cX4_digest 59 = .ok (.bipush 7, 2) := by decide +kernel
theorem dX4_digest_61 : decode cX4_digest 61 = .ok (.if_icmp .ge 24, 3) := by decide +kernel
theorem dX4_digest_64 : decode cX4_digest 64 = .ok (.ldc2_w 197, 3) := by decide +kernel
theorem dX4_digest_67 : decode cX4_digest 67 = .ok (.lload_n 1, 1) := by decide +kernel
theorem dX4_digest_68 : decode cX4_digest 68 = .ok (.lmul, 1) := by decide +kernel
theorem dX4_digest_69 : decode cX4_digest 69 = .ok (.aload_n 0, 1) := by decide +kernel
theorem dX4_digest_70 : decode cX4_digest 70 = .ok (.iload_n 3, 1) := by decide +kernel
theorem dX4_digest_71 : decode cX4_digest 71 = .ok (.iload 4, 2) := by decide +kernel
theorem dX4_digest_73 : decode cX4_digest 73 = .ok (.invokevirtual 125, 3) := by decide +kernel
theorem dX4_digest_76 : decode cX4_digest 76 = .ok (.i2l, 1) := by decide +kernel
theorem dX4_digest_77 : decode cX4_digest 77 = .ok (.ladd, 1) := by decide +kernel
theorem dX4_digest_78 : decode cX4_digest 78 = .ok (.lstore_n 1, 1) := by decide +kernel
theorem dX4_digest_79 : decode cX4_digest 79 = .ok (.iinc 4 1, 3) := by decide +kernel
theorem dX4_digest_82 : decode cX4_digest 82 = .ok (.goto (-25), 3) := by decide +kernel
theorem dX4_digest_85 : decode cX4_digest 85 = .ok (.ldc2_w 197, 3) := by decide +kernel
theorem dX4_digest_88 : decode cX4_digest 88 = .ok (.lload_n 1, 1) := by decide +kernel
theorem dX4_digest_89 : decode cX4_digest 89 = .ok (.lmul, 1) := by decide +kernel
theorem dX4_digest_90 : decode cX4_digest 90 = .ok (.aload_n 0, 1) := by decide +kernel
theorem dX4_digest_91 : decode cX4_digest 91 = .ok (.iload_n 3, 1) := by decide +kernel
theorem dX4_digest_92 : decode cX4_digest 92 = .ok (.invokevirtual 160, 3) := by decide +kernel
theorem dX4_digest_95 : decode cX4_digest 95 = .ok (.i2l, 1) := by decide +kernel
theorem dX4_digest_96 : decode cX4_digest 96 = .ok (.ladd, 1) := by decide +kernel
theorem dX4_digest_97 : decode cX4_digest 97 = .ok (.lstore_n 1, 1) := by decide +kernel
theorem dX4_digest_98 : decode cX4_digest 98 = .ok (.iinc 3 1, 3) := by decide +kernel
theorem dX4_digest_101 : decode cX4_digest 101 = .ok (.goto (-57), 3) := by decide +kernel
theorem dX4_digest_104 : decode cX4_digest 104 = .ok (.iconst 0, 1) := by decide +kernel
theorem dX4_digest_105 : decode cX4_digest 105 = .ok (.istore_n 3, 1) := by decide +kernel
theorem dX4_digest_106 : decode cX4_digest 106 = .ok (.iload_n 3, 1) := by decide +kernel
theorem dX4_digest_107 : decode cX4_digest 107 = .ok (.bipush 6, 2) := by decide +kernel
theorem dX4_digest_109 : decode cX4_digest 109 = .ok (.if_icmp .ge 79, 3) := by decide +kernel
theorem dX4_digest_112 : decode cX4_digest 112 = .ok (.iconst 0, 1) := by decide +kernel
theorem dX4_digest_113 : decode cX4_digest 113 = .ok (.istore 4, 2) := by decide +kernel
theorem dX4_digest_115 : decode cX4_digest 115 = .ok (.iload 4, 2) := by decide +kernel
theorem dX4_digest_117 : decode cX4_digest 117 = .ok (.bipush 10, 2) := by decide +kernel
theorem dX4_digest_119 : decode cX4_digest 119 = .ok (.if_icmp .ge 24, 3) := by decide +kernel
theorem dX4_digest_122 : decode cX4_digest 122 = .ok (.ldc2_w 197, 3) := by decide +kernel
theorem dX4_digest_125 : decode cX4_digest 125 = .ok (.lload_n 1, 1) := by decide +kernel
theorem dX4_digest_126 : decode cX4_digest 126 = .ok (.lmul, 1) := by decide +kernel
theorem dX4_digest_127 : decode cX4_digest 127 = .ok (.aload_n 0, 1) := by decide +kernel
theorem dX4_digest_128 : decode cX4_digest 128 = .ok (.iload_n 3, 1) := by decide +kernel
theorem dX4_digest_129 : decode cX4_digest 129 = .ok (.iload 4, 2) := by decide +kernel
theorem dX4_digest_131 : decode cX4_digest 131 = .ok (.invokevirtual 142, 3) := by decide +kernel
theorem dX4_digest_134 : decode cX4_digest 134 = .ok (.i2l, 1) := by decide +kernel
theorem dX4_digest_135 : decode cX4_digest 135 = .ok (.ladd, 1) := by decide +kernel
theorem dX4_digest_136 : decode cX4_digest 136 = .ok (.lstore_n 1, 1) := by decide +kernel
theorem dX4_digest_137 : decode cX4_digest 137 = .ok (.iinc 4 1, 3) := by decide +kernel
theorem dX4_digest_140 : decode cX4_digest 140 = .ok (.goto (-25), 3) := by decide +kernel
theorem dX4_digest_143 : decode cX4_digest 143 = .ok (.iconst 0, 1) := by decide +kernel
theorem dX4_digest_144 : decode cX4_digest 144 = .ok (.istore 4, 2) := by decide +kernel
theorem dX4_digest_146 : decode cX4_digest 146 = .ok (.iload 4, 2) := by decide +kernel
theorem dX4_digest_148 : decode cX4_digest 148 = .ok (.aload_n 0, 1) := by decide +kernel
theorem dX4_digest_149 : decode cX4_digest 149 = .ok (.getfield 7, 3) := by decide +kernel
theorem dX4_digest_152 : decode cX4_digest 152 = .ok (.iconst 0, 1) := by decide +kernel
theorem dX4_digest_153 : decode cX4_digest 153 = .ok (.iaload, 1) := by decide +kernel
theorem dX4_digest_154 : decode cX4_digest 154 = .ok (.if_icmp .ge 28, 3) := by decide +kernel
theorem dX4_digest_157 : decode cX4_digest 157 = .ok (.ldc2_w 197, 3) := by decide +kernel
theorem dX4_digest_160 : decode cX4_digest 160 = .ok (.lload_n 1, 1) := by decide +kernel
theorem dX4_digest_161 : decode cX4_digest 161 = .ok (.lmul, 1) := by decide +kernel
theorem dX4_digest_162 : decode cX4_digest 162 = .ok (.aload_n 0, 1) := by decide +kernel
theorem dX4_digest_163 : decode cX4_digest 163 = .ok (.getfield 7, 3) := by decide +kernel
theorem dX4_digest_166 : decode cX4_digest 166 = .ok (.iload_n 3, 1) := by decide +kernel
theorem dX4_digest_167 : decode cX4_digest 167 = .ok (.iload 4, 2) := by decide +kernel
theorem dX4_digest_169 : decode cX4_digest 169 = .ok (.invokestatic 79, 3) := by decide +kernel
theorem dX4_digest_172 : decode cX4_digest 172 = .ok (.iaload, 1) := by decide +kernel
theorem dX4_digest_173 : decode cX4_digest 173 = .ok (.i2l, 1) := by decide +kernel
theorem dX4_digest_174 : decode cX4_digest 174 = .ok (.ladd, 1) := by decide +kernel
theorem dX4_digest_175 : decode cX4_digest 175 = .ok (.lstore_n 1, 1) := by decide +kernel
theorem dX4_digest_176 : decode cX4_digest 176 = .ok (.iinc 4 1, 3) := by decide +kernel
theorem dX4_digest_179 : decode cX4_digest 179 = .ok (.goto (-33), 3) := by decide +kernel
theorem dX4_digest_182 : decode cX4_digest 182 = .ok (.iinc 3 1, 3) := by decide +kernel
theorem dX4_digest_185 : decode cX4_digest 185 = .ok (.goto (-79), 3) := by decide +kernel
theorem dX4_digest_188 : decode cX4_digest 188 = .ok (.ldc2_w 197, 3) := by decide +kernel
theorem dX4_digest_191 : decode cX4_digest 191 = .ok (.lload_n 1, 1) := by decide +kernel
theorem dX4_digest_192 : decode cX4_digest 192 = .ok (.lmul, 1) := by decide +kernel
theorem dX4_digest_193 : decode cX4_digest 193 = .ok (.aload_n 0, 1) := by decide +kernel
theorem dX4_digest_194 : decode cX4_digest 194 = .ok (.getfield 34, 3) := by decide +kernel
theorem dX4_digest_197 : decode cX4_digest 197 = .ok (.i2l, 1) := by decide +kernel
theorem dX4_digest_198 : decode cX4_digest 198 = .ok (.ladd, 1) := by decide +kernel
theorem dX4_digest_199 : decode cX4_digest 199 = .ok (.lreturn, 1) := by decide +kernel
theorem dJ9_max_7cf53_0 : decode cJ9_max_7cf53 0 = .ok (.iload_n 0, 1) := by decide +kernel
theorem dJ9_max_7cf53_1 : decode cJ9_max_7cf53 1 = .ok (.iload_n 1, 1) := by decide +kernel
theorem dJ9_max_7cf53_2 : decode cJ9_max_7cf53 2 = .ok (.if_icmp .lt 7, 3) := by decide +kernel
theorem dJ9_max_7cf53_5 : decode cJ9_max_7cf53 5 = .ok (.iload_n 0, 1) := by decide +kernel
theorem dJ9_max_7cf53_6 : decode cJ9_max_7cf53 6 = .ok (.goto 4, 3) := by decide +kernel
theorem dJ9_max_7cf53_9 : decode cJ9_max_7cf53 9 = .ok (.iload_n 1, 1) := by decide +kernel
theorem dJ9_max_7cf53_10 : decode cJ9_max_7cf53 10 = .ok (.ireturn, 1) := by decide +kernel
theorem dJ9_min_7cf53_0 : decode cJ9_min_7cf53 0 = .ok (.iload_n 0, 1) := by decide +kernel
theorem dJ9_min_7cf53_1 : decode cJ9_min_7cf53 1 = .ok (.iload_n 1, 1) := by decide +kernel
theorem dJ9_min_7cf53_2 : decode cJ9_min_7cf53 2 = .ok (.if_icmp .gt 7, 3) := by decide +kernel
theorem dJ9_min_7cf53_5 : decode cJ9_min_7cf53 5 = .ok (.iload_n 0, 1) := by decide +kernel
theorem dJ9_min_7cf53_6 : decode cJ9_min_7cf53 6 = .ok (.goto 4, 3) := by decide +kernel
theorem dJ9_min_7cf53_9 : decode cJ9_min_7cf53 9 = .ok (.iload_n 1, 1) := by decide +kernel
theorem dJ9_min_7cf53_10 : decode cJ9_min_7cf53 10 = .ok (.ireturn, 1) := by decide +kernel
set_option maxRecDepth 20000 in
theorem ggL_addKind_X3_addKind : GoodIn wsL_addKind wsX3_addKind := goodIn_ca (goodIn_ca (goodIn_r _ [7, 8, 9, 10, 11, 12, 13, 14, 6, 15, 16, 17, 18, 19, 20, 21, 22, 23, 24, 25, 26, 27, 28, 29, 30, 31, 32, 33, 34, 35, 36, 37, 38, 39, 40, 41, 42, 43, 44, 45, 46, 47, 48, 49, 50, 51, 52, 53, 54, 55, 56, 57, 58, 59, 60, 61, 62, 63, 64, 65, 66, 67, 68, 69, 70, 71, 72, 73, 74] (by decide +kernel) (by decide +kernel)) (goodIn_sub (fun _ h => List.mem_cons_of_mem _ (List.mem_append_left _ (List.mem_append_right _ h))) (by decide +kernel))) (goodIn_sub (fun _ h => List.mem_cons_of_mem _ (List.mem_append_right _ h)) (by decide +kernel))
set_option maxRecDepth 20000 in
theorem gL_addKind_X3_addKind : GoodIn wsL_addKind (wsV RL 7 RX3 yX3_addKind wsX3_addKind) := goodIn_app (goodIn_of _ (by decide +kernel)) ggL_addKind_X3_addKind
theorem dL_addKind_0 : decode cL_addKind 0 = .ok (.aload 4, 2) := by decide +kernel
theorem dL_addKind_2 : decode cL_addKind 2 = .ok (.iconst 0, 1) := by decide +kernel
theorem dL_addKind_3 : decode cL_addKind 3 = .ok (.aload_n 0, 1) := by decide +kernel
theorem dL_addKind_4 : decode cL_addKind 4 = .ok (.iload_n 1, 1) := by decide +kernel
theorem dL_addKind_5 : decode cL_addKind 5 = .ok (.iload_n 2, 1) := by decide +kernel
theorem dL_addKind_6 : decode cL_addKind 6 = .ok (.iload_n 3, 1) := by decide +kernel
theorem dL_addKind_7 : decode cL_addKind 7 = .ok (.invokevirtual 7, 3) := by decide +kernel
theorem dL_addKind_10 : decode cL_addKind 10 = .ok (.i2l, 1) := by decide +kernel
theorem dL_addKind_11 : decode cL_addKind 11 = .ok (.lastore, 1) := by decide +kernel
theorem dL_addKind_12 : decode cL_addKind 12 = .ok (.goto 11, 3) := by decide +kernel
theorem dL_addKind_15 : decode cL_addKind 15 = .ok (.astore 5, 2) := by decide +kernel
theorem dL_addKind_17 : decode cL_addKind 17 = .ok (.iconst 1, 1) := by decide +kernel
theorem dL_addKind_18 : decode cL_addKind 18 = .ok (.ireturn, 1) := by decide +kernel
theorem dL_addKind_19 : decode cL_addKind 19 = .ok (.astore 5, 2) := by decide +kernel
theorem dL_addKind_21 : decode cL_addKind 21 = .ok (.iconst 2, 1) := by decide +kernel
theorem dL_addKind_22 : decode cL_addKind 22 = .ok (.ireturn, 1) := by decide +kernel
theorem dL_addKind_23 : decode cL_addKind 23 = .ok (.iconst 0, 1) := by decide +kernel
theorem dL_addKind_24 : decode cL_addKind 24 = .ok (.ireturn, 1) := by decide +kernel
set_option maxRecDepth 20000 in
theorem ggL_setHome_X3_setHome : GoodIn wsL_setHome wsX3_setHome := goodIn_ca (goodIn_ca (goodIn_r _ [7, 8, 9, 10, 11, 12, 13, 6, 14, 15, 16, 17, 18, 19, 20, 21, 22, 23, 24, 25, 26, 27, 28, 29, 30, 31, 32, 33, 34, 35, 36, 37, 38, 39, 40, 41, 42, 43, 44, 45, 46, 47, 48, 49, 50, 51, 52, 53, 54, 55, 56, 57, 58, 59, 60, 61, 62, 63, 64, 65, 66, 67, 68, 69, 70, 71, 72, 73, 74, 75] (by decide +kernel) (by decide +kernel)) (goodIn_sub (fun _ h => List.mem_cons_of_mem _ (List.mem_append_left _ (List.mem_append_right _ h))) (by decide +kernel))) (goodIn_sub (fun _ h => List.mem_cons_of_mem _ (List.mem_append_right _ h)) (by decide +kernel))
set_option maxRecDepth 20000 in
theorem gL_setHome_X3_setHome : GoodIn wsL_setHome (wsV RL 17 RX3 yX3_setHome wsX3_setHome) := goodIn_app (goodIn_of _ (by decide +kernel)) ggL_setHome_X3_setHome
theorem dL_setHome_0 : decode cL_setHome 0 = .ok (.aload_n 3, 1) := by decide +kernel
theorem dL_setHome_1 : decode cL_setHome 1 = .ok (.iconst 0, 1) := by decide +kernel
theorem dL_setHome_2 : decode cL_setHome 2 = .ok (.aload_n 0, 1) := by decide +kernel
theorem dL_setHome_3 : decode cL_setHome 3 = .ok (.iload_n 1, 1) := by decide +kernel
theorem dL_setHome_4 : decode cL_setHome 4 = .ok (.iload_n 2, 1) := by decide +kernel
theorem dL_setHome_5 : decode cL_setHome 5 = .ok (.invokevirtual 17, 3) := by decide +kernel
theorem dL_setHome_8 : decode cL_setHome 8 = .ok (.i2l, 1) := by decide +kernel
theorem dL_setHome_9 : decode cL_setHome 9 = .ok (.lastore, 1) := by decide +kernel
theorem dL_setHome_10 : decode cL_setHome 10 = .ok (.goto 11, 3) := by decide +kernel
theorem dL_setHome_13 : decode cL_setHome 13 = .ok (.astore 4, 2) := by decide +kernel
theorem dL_setHome_15 : decode cL_setHome 15 = .ok (.iconst 1, 1) := by decide +kernel
theorem dL_setHome_16 : decode cL_setHome 16 = .ok (.ireturn, 1) := by decide +kernel
theorem dL_setHome_17 : decode cL_setHome 17 = .ok (.astore 4, 2) := by decide +kernel
theorem dL_setHome_19 : decode cL_setHome 19 = .ok (.iconst 2, 1) := by decide +kernel
theorem dL_setHome_20 : decode cL_setHome 20 = .ok (.ireturn, 1) := by decide +kernel
theorem dL_setHome_21 : decode cL_setHome 21 = .ok (.iconst 0, 1) := by decide +kernel
theorem dL_setHome_22 : decode cL_setHome 22 = .ok (.ireturn, 1) := by decide +kernel
set_option maxRecDepth 20000 in
theorem ggL_setGap_X3_setGap : GoodIn wsL_setGap wsX3_setGap := goodIn_ca (goodIn_ca (goodIn_ca (goodIn_r _ [8, 9, 10, 11, 12, 13, 14, 15, 16, 7, 17, 18, 19, 20, 21, 22, 23, 24, 25, 26, 27, 28, 29, 30, 31, 32, 33, 34, 35, 36, 37, 38, 39, 40, 41, 42, 43, 44, 45, 46, 47, 48, 49, 50, 51, 52, 53, 54, 55, 56, 57, 58, 59, 60, 61, 62, 63, 64, 65, 66, 67, 68, 69, 70, 71, 72, 73, 74, 75, 76, 77, 78, 79, 80, 81, 82, 83, 84] (by decide +kernel) (by decide +kernel)) (goodIn_sub (fun _ h => List.mem_cons_of_mem _ (List.mem_append_left _ (List.mem_append_left _ (List.mem_append_right _ h)))) (by decide +kernel))) (goodIn_sub (fun _ h => List.mem_cons_of_mem _ (List.mem_append_left _ (List.mem_append_right _ h))) (by decide +kernel))) (goodIn_sub (fun _ h => List.mem_cons_of_mem _ (List.mem_append_right _ h)) (by decide +kernel))
set_option maxRecDepth 20000 in
theorem gL_setGap_X3_setGap : GoodIn wsL_setGap (wsV RL 23 RX3 yX3_setGap wsX3_setGap) := goodIn_app (goodIn_of _ (by decide +kernel)) ggL_setGap_X3_setGap
theorem dL_setGap_0 : decode cL_setGap 0 = .ok (.aload_n 3, 1) := by decide +kernel
theorem dL_setGap_1 : decode cL_setGap 1 = .ok (.iconst 0, 1) := by decide +kernel
theorem dL_setGap_2 : decode cL_setGap 2 = .ok (.aload_n 0, 1) := by decide +kernel
theorem dL_setGap_3 : decode cL_setGap 3 = .ok (.iload_n 1, 1) := by decide +kernel
theorem dL_setGap_4 : decode cL_setGap 4 = .ok (.iload_n 2, 1) := by decide +kernel
theorem dL_setGap_5 : decode cL_setGap 5 = .ok (.invokevirtual 23, 3) := by decide +kernel
theorem dL_setGap_8 : decode cL_setGap 8 = .ok (.i2l, 1) := by decide +kernel
theorem dL_setGap_9 : decode cL_setGap 9 = .ok (.lastore, 1) := by decide +kernel
theorem dL_setGap_10 : decode cL_setGap 10 = .ok (.goto 15, 3) := by decide +kernel
theorem dL_setGap_13 : decode cL_setGap 13 = .ok (.astore 4, 2) := by decide +kernel
theorem dL_setGap_15 : decode cL_setGap 15 = .ok (.iconst 1, 1) := by decide +kernel
theorem dL_setGap_16 : decode cL_setGap 16 = .ok (.ireturn, 1) := by decide +kernel
theorem dL_setGap_17 : decode cL_setGap 17 = .ok (.astore 4, 2) := by decide +kernel
theorem dL_setGap_19 : decode cL_setGap 19 = .ok (.iconst 2, 1) := by decide +kernel
theorem dL_setGap_20 : decode cL_setGap 20 = .ok (.ireturn, 1) := by decide +kernel
theorem dL_setGap_21 : decode cL_setGap 21 = .ok (.astore 4, 2) := by decide +kernel
theorem dL_setGap_23 : decode cL_setGap 23 = .ok (.iconst 3, 1) := by decide +kernel
theorem dL_setGap_24 : decode cL_setGap 24 = .ok (.ireturn, 1) := by decide +kernel
theorem dL_setGap_25 : decode cL_setGap 25 = .ok (.iconst 0, 1) := by decide +kernel
theorem dL_setGap_26 : decode cL_setGap 26 = .ok (.ireturn, 1) := by decide +kernel
set_option maxRecDepth 20000 in
theorem ggL_feed_X3_feed : GoodIn wsL_feed wsX3_feed := goodIn_ca (goodIn_ca (goodIn_r _ [7, 8, 9, 10, 11, 12, 6, 13, 14, 15, 16, 17, 18, 19, 20, 21, 22, 23, 24, 25, 26, 27, 28, 29, 30, 31, 32, 33, 34, 35, 36, 37, 38, 39, 40, 41, 42, 43, 44, 45, 46, 47, 48, 49, 50, 51, 52, 53, 54, 55, 56, 57, 58, 59, 60, 61, 62, 63, 64, 65, 66, 67, 68, 69, 70, 71, 72, 73, 74, 75, 76, 77, 78, 79, 80, 81, 82, 83, 84, 85, 86, 87, 88, 89, 90, 91, 92, 93, 94, 95, 96, 97, 98, 99, 100, 101, 102, 103, 104, 105, 106, 107, 108, 109, 110, 111, 112, 113, 114] (by decide +kernel) (by decide +kernel)) (goodIn_sub (fun _ h => List.mem_cons_of_mem _ (List.mem_append_left _ (List.mem_append_right _ h))) (by decide +kernel))) (goodIn_sub (fun _ h => List.mem_cons_of_mem _ (List.mem_append_right _ h)) (by decide +kernel))
set_option maxRecDepth 20000 in
theorem gL_feed_X3_feed : GoodIn wsL_feed (wsV RL 26 RX3 yX3_feed wsX3_feed) := goodIn_app (goodIn_of _ (by decide +kernel)) ggL_feed_X3_feed
theorem dL_feed_0 : decode cL_feed 0 = .ok (.aload_n 3, 1) := by decide +kernel
theorem dL_feed_1 : decode cL_feed 1 = .ok (.iconst 0, 1) := by decide +kernel
theorem dL_feed_2 : decode cL_feed 2 = .ok (.aload_n 0, 1) := by decide +kernel
theorem dL_feed_3 : decode cL_feed 3 = .ok (.iload_n 1, 1) := by decide +kernel
theorem dL_feed_4 : decode cL_feed 4 = .ok (.iload_n 2, 1) := by decide +kernel
theorem dL_feed_5 : decode cL_feed 5 = .ok (.invokevirtual 26, 3) := by decide +kernel
theorem dL_feed_8 : decode cL_feed 8 = .ok (.i2l, 1) := by decide +kernel
theorem dL_feed_9 : decode cL_feed 9 = .ok (.lastore, 1) := by decide +kernel
theorem dL_feed_10 : decode cL_feed 10 = .ok (.goto 11, 3) := by decide +kernel
theorem dL_feed_13 : decode cL_feed 13 = .ok (.astore 4, 2) := by decide +kernel
theorem dL_feed_15 : decode cL_feed 15 = .ok (.iconst 1, 1) := by decide +kernel
theorem dL_feed_16 : decode cL_feed 16 = .ok (.ireturn, 1) := by decide +kernel
theorem dL_feed_17 : decode cL_feed 17 = .ok (.astore 4, 2) := by decide +kernel
theorem dL_feed_19 : decode cL_feed 19 = .ok (.iconst 2, 1) := by decide +kernel
theorem dL_feed_20 : decode cL_feed 20 = .ok (.ireturn, 1) := by decide +kernel
theorem dL_feed_21 : decode cL_feed 21 = .ok (.iconst 0, 1) := by decide +kernel
theorem dL_feed_22 : decode cL_feed 22 = .ok (.ireturn, 1) := by decide +kernel
set_option maxRecDepth 20000 in
theorem ggL_feedSome_X3_feedSome : GoodIn wsL_feedSome wsX3_feedSome := goodIn_ca (goodIn_ca (goodIn_r _ [7, 8, 9, 10, 11, 12, 13, 14, 15, 6, 16, 17, 18, 19, 20, 21, 22, 23, 24, 25, 26, 27, 28, 29, 30, 31, 32, 33, 34, 35, 36, 37, 38, 39, 40, 41, 42, 43, 44, 45, 46, 47, 48, 49, 50, 51, 52, 53, 54, 55, 56, 57, 58, 59, 60, 61, 62, 63, 64, 65, 66, 67, 68, 69, 70, 71, 72, 73, 74, 75, 76, 77, 78, 79, 80, 81, 82, 83, 84, 85, 86, 87, 88, 89, 90, 91, 92, 93, 94, 95, 96, 97, 98, 99, 100, 101, 102, 103, 104, 105, 106, 107, 108, 109, 110, 111, 112, 113, 114, 115, 116, 117, 118, 119, 120, 121] (by decide +kernel) (by decide +kernel)) (goodIn_sub (fun _ h => List.mem_cons_of_mem _ (List.mem_append_left _ (List.mem_append_right _ h))) (by decide +kernel))) (goodIn_sub (fun _ h => List.mem_cons_of_mem _ (List.mem_append_right _ h)) (by decide +kernel))
set_option maxRecDepth 20000 in
theorem gL_feedSome_X3_feedSome : GoodIn wsL_feedSome (wsV RL 29 RX3 yX3_feedSome wsX3_feedSome) := goodIn_app (goodIn_of _ (by decide +kernel)) ggL_feedSome_X3_feedSome
theorem dL_feedSome_0 : decode cL_feedSome 0 = .ok (.aload_n 3, 1) := by decide +kernel
theorem dL_feedSome_1 : decode cL_feedSome 1 = .ok (.iconst 0, 1) := by decide +kernel
theorem dL_feedSome_2 : decode cL_feedSome 2 = .ok (.aload_n 0, 1) := by decide +kernel
theorem dL_feedSome_3 : decode cL_feedSome 3 = .ok (.iload_n 1, 1) := by decide +kernel
theorem dL_feedSome_4 : decode cL_feedSome 4 = .ok (.iload_n 2, 1) := by decide +kernel
theorem dL_feedSome_5 : decode cL_feedSome 5 = .ok (.invokevirtual 29, 3) := by decide +kernel
theorem dL_feedSome_8 : decode cL_feedSome 8 = .ok (.i2l, 1) := by decide +kernel
theorem dL_feedSome_9 : decode cL_feedSome 9 = .ok (.lastore, 1) := by decide +kernel
