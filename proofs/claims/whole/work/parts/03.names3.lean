theorem dX4_save_45 : decode cX4_save 45 = .ok (.putfield 34, 3) := by decide +kernel
theorem dX4_save_48 : decode cX4_save 48 = .ok (.iconst 0, 1) := by decide +kernel
theorem dX4_save_49 : decode cX4_save 49 = .ok (.istore_n 1, 1) := by decide +kernel
theorem dX4_save_50 : decode cX4_save 50 = .ok (.iload_n 1, 1) := by decide +kernel
theorem dX4_save_51 : decode cX4_save 51 = .ok (.bipush 99, 2) := by decide +kernel
theorem dX4_save_53 : decode cX4_save 53 = .ok (.if_icmp .ge 29, 3) := by decide +kernel
theorem dX4_save_56 : decode cX4_save 56 = .ok (.aload_n 0, 1) := by decide +kernel
theorem dX4_save_57 : decode cX4_save 57 = .ok (.getfield 13, 3) := by decide +kernel
theorem dX4_save_60 : decode cX4_save 60 = .ok (.bipush 99, 2) := by decide +kernel
theorem dX4_save_62 : decode cX4_save 62 = .ok (.aload_n 0, 1) := by decide +kernel
theorem dX4_save_63 : decode cX4_save 63 = .ok (.getfield 34, 3) := by decide +kernel
theorem dX4_save_66 : decode cX4_save 66 = .ok (.imul, 1) := by decide +kernel
theorem dX4_save_67 : decode cX4_save 67 = .ok (.iload_n 1, 1) := by decide +kernel
theorem dX4_save_68 : decode cX4_save 68 = .ok (.iadd, 1) := by decide +kernel
theorem dX4_save_69 : decode cX4_save 69 = .ok (.aload_n 0, 1) := by decide +kernel
theorem dX4_save_70 : decode cX4_save 70 = .ok (.getfield 7, 3) := by decide +kernel
theorem dX4_save_73 : decode cX4_save 73 = .ok (.iload_n 1, 1) := by decide +kernel
theorem dX4_save_74 : decode cX4_save 74 = .ok (.iaload, 1) := by decide +kernel
theorem dX4_save_75 : decode cX4_save 75 = .ok (.iastore, 1) := by decide +kernel
theorem dX4_save_76 : decode cX4_save 76 = .ok (.iinc 1 1, 3) := by decide +kernel
theorem dX4_save_79 : decode cX4_save 79 = .ok (.goto (-29), 3) := by decide +kernel
theorem dX4_save_82 : decode cX4_save 82 = .ok (.aload_n 0, 1) := by decide +kernel
theorem dX4_save_83 : decode cX4_save 83 = .ok (.dup, 1) := by decide +kernel
theorem dX4_save_84 : decode cX4_save 84 = .ok (.getfield 34, 3) := by decide +kernel
theorem dX4_save_87 : decode cX4_save 87 = .ok (.iconst 1, 1) := by decide +kernel
theorem dX4_save_88 : decode cX4_save 88 = .ok (.iadd, 1) := by decide +kernel
theorem dX4_save_89 : decode cX4_save 89 = .ok (.putfield 34, 3) := by decide +kernel
theorem dX4_save_92 : decode cX4_save 92 = .ok (.return_, 1) := by decide +kernel
theorem dX4_laysAside_0 : decode cX4_laysAside 0 = .ok (.iconst 0, 1) := by decide +kernel
theorem dX4_laysAside_1 : decode cX4_laysAside 1 = .ok (.istore_n 1, 1) := by decide +kernel
theorem dX4_laysAside_2 : decode cX4_laysAside 2 = .ok (.iload_n 1, 1) := by decide +kernel
theorem dX4_laysAside_3 : decode cX4_laysAside 3 = .ok (.bipush 99, 2) := by decide +kernel
theorem dX4_laysAside_5 : decode cX4_laysAside 5 = .ok (.if_icmp .ge 21, 3) := by decide +kernel
theorem dX4_laysAside_8 : decode cX4_laysAside 8 = .ok (.aload_n 0, 1) := by decide +kernel
theorem dX4_laysAside_9 : decode cX4_laysAside 9 = .ok (.getfield 16, 3) := by decide +kernel
theorem dX4_laysAside_12 : decode cX4_laysAside 12 = .ok (.iload_n 1, 1) := by decide +kernel
theorem dX4_laysAside_13 : decode cX4_laysAside 13 = .ok (.aload_n 0, 1) := by decide +kernel
theorem dX4_laysAside_14 : decode cX4_laysAside 14 = .ok (.getfield 7, 3) := by decide +kernel
theorem dX4_laysAside_17 : decode cX4_laysAside 17 = .ok (.iload_n 1, 1) := by decide +kernel
theorem dX4_laysAside_18 : decode cX4_laysAside 18 = .ok (.iaload, 1) := by decide +kernel
theorem dX4_laysAside_19 : decode cX4_laysAside 19 = .ok (.iastore, 1) := by decide +kernel
theorem dX4_laysAside_20 : decode cX4_laysAside 20 = .ok (.iinc 1 1, 3) := by decide +kernel
theorem dX4_laysAside_23 : decode cX4_laysAside 23 = .ok (.goto (-21), 3) := by decide +kernel
theorem dX4_laysAside_26 : decode cX4_laysAside 26 = .ok (.return_, 1) := by decide +kernel
theorem dX4_takesBack_0 : decode cX4_takesBack 0 = .ok (.iconst 0, 1) := by decide +kernel
theorem dX4_takesBack_1 : decode cX4_takesBack 1 = .ok (.istore_n 1, 1) := by decide +kernel
theorem dX4_takesBack_2 : decode cX4_takesBack 2 = .ok (.iload_n 1, 1) := by decide +kernel
theorem dX4_takesBack_3 : decode cX4_takesBack 3 = .ok (.bipush 99, 2) := by decide +kernel
theorem dX4_takesBack_5 : decode cX4_takesBack 5 = .ok (.if_icmp .ge 21, 3) := by decide +kernel
theorem dX4_takesBack_8 : decode cX4_takesBack 8 = .ok (.aload_n 0, 1) := by decide +kernel
theorem dX4_takesBack_9 : decode cX4_takesBack 9 = .ok (.getfield 7, 3) := by decide +kernel
theorem dX4_takesBack_12 : decode cX4_takesBack 12 = .ok (.iload_n 1, 1) := by decide +kernel
theorem dX4_takesBack_13 : decode cX4_takesBack 13 = .ok (.aload_n 0, 1) := by decide +kernel
theorem dX4_takesBack_14 : decode cX4_takesBack 14 = .ok (.getfield 16, 3) := by decide +kernel
theorem dX4_takesBack_17 : decode cX4_takesBack 17 = .ok (.iload_n 1, 1) := by decide +kernel
theorem dX4_takesBack_18 : decode cX4_takesBack 18 = .ok (.iaload, 1) := by decide +kernel
theorem dX4_takesBack_19 : decode cX4_takesBack 19 = .ok (.iastore, 1) := by decide +kernel
theorem dX4_takesBack_20 : decode cX4_takesBack 20 = .ok (.iinc 1 1, 3) := by decide +kernel
theorem dX4_takesBack_23 : decode cX4_takesBack 23 = .ok (.goto (-21), 3) := by decide +kernel
theorem dX4_takesBack_26 : decode cX4_takesBack 26 = .ok (.return_, 1) := by decide +kernel
theorem dX4_kindAt_0 : decode cX4_kindAt 0 = .ok (.iconst 3, 1) := by decide +kernel
theorem dX4_kindAt_1 : decode cX4_kindAt 1 = .ok (.iconst 5, 1) := by decide +kernel
theorem dX4_kindAt_2 : decode cX4_kindAt 2 = .ok (.iload_n 0, 1) := by decide +kernel
theorem dX4_kindAt_3 : decode cX4_kindAt 3 = .ok (.imul, 1) := by decide +kernel
theorem dX4_kindAt_4 : decode cX4_kindAt 4 = .ok (.iadd, 1) := by decide +kernel
theorem dX4_kindAt_5 : decode cX4_kindAt 5 = .ok (.iload_n 1, 1) := by decide +kernel
theorem dX4_kindAt_6 : decode cX4_kindAt 6 = .ok (.iadd, 1) := by decide +kernel
theorem dX4_kindAt_7 : decode cX4_kindAt 7 = .ok (.ireturn, 1) := by decide +kernel
theorem dX4_railAt_0 : decode cX4_railAt 0 = .ok (.bipush 33, 2) := by decide +kernel
theorem dX4_railAt_2 : decode cX4_railAt 2 = .ok (.iconst 5, 1) := by decide +kernel
theorem dX4_railAt_3 : decode cX4_railAt 3 = .ok (.iload_n 0, 1) := by decide +kernel
theorem dX4_railAt_4 : decode cX4_railAt 4 = .ok (.imul, 1) := by decide +kernel
theorem dX4_railAt_5 : decode cX4_railAt 5 = .ok (.iadd, 1) := by decide +kernel
theorem dX4_railAt_6 : decode cX4_railAt 6 = .ok (.iload_n 1, 1) := by decide +kernel
theorem dX4_railAt_7 : decode cX4_railAt 7 = .ok (.iadd, 1) := by decide +kernel
theorem dX4_railAt_8 : decode cX4_railAt 8 = .ok (.ireturn, 1) := by decide +kernel
theorem dX4_countAt_0 : decode cX4_countAt 0 = .ok (.bipush 63, 2) := by decide +kernel
theorem dX4_countAt_2 : decode cX4_countAt 2 = .ok (.bipush 6, 2) := by decide +kernel
theorem dX4_countAt_4 : decode cX4_countAt 4 = .ok (.iload_n 0, 1) := by decide +kernel
theorem dX4_countAt_5 : decode cX4_countAt 5 = .ok (.imul, 1) := by decide +kernel
theorem dX4_countAt_6 : decode cX4_countAt 6 = .ok (.iadd, 1) := by decide +kernel
theorem dX4_countAt_7 : decode cX4_countAt 7 = .ok (.iload_n 1, 1) := by decide +kernel
theorem dX4_countAt_8 : decode cX4_countAt 8 = .ok (.iadd, 1) := by decide +kernel
theorem dX4_countAt_9 : decode cX4_countAt 9 = .ok (.ireturn, 1) := by decide +kernel
set_option maxRecDepth 20000 in
theorem ggX4_ofKind_X4_kindAt : GoodIn wsX4_ofKind wsX4_kindAt := goodIn_r _ [5] (by decide +kernel) (by decide +kernel)
set_option maxRecDepth 20000 in
theorem gX4_ofKind_X4_kindAt : GoodIn wsX4_ofKind (va_wsS RX4 37 yX4_kindAt wsX4_kindAt) := goodIn_app (goodIn_of _ (by decide +kernel)) ggX4_ofKind_X4_kindAt
theorem dX4_ofKind_0 : decode cX4_ofKind 0 = .ok (.aload_n 0, 1) := by decide +kernel
theorem dX4_ofKind_1 : decode cX4_ofKind 1 = .ok (.getfield 7, 3) := by decide +kernel
theorem dX4_ofKind_4 : decode cX4_ofKind 4 = .ok (.iload_n 1, 1) := by decide +kernel
theorem dX4_ofKind_5 : decode cX4_ofKind 5 = .ok (.iload_n 2, 1) := by decide +kernel
theorem dX4_ofKind_6 : decode cX4_ofKind 6 = .ok (.invokestatic 37, 3) := by decide +kernel
theorem dX4_ofKind_9 : decode cX4_ofKind 9 = .ok (.iaload, 1) := by decide +kernel
theorem dX4_ofKind_10 : decode cX4_ofKind 10 = .ok (.ireturn, 1) := by decide +kernel
set_option maxRecDepth 20000 in
theorem ggX4_ofRail_X4_railAt : GoodIn wsX4_ofRail wsX4_railAt := goodIn_r _ [5] (by decide +kernel) (by decide +kernel)
set_option maxRecDepth 20000 in
theorem gX4_ofRail_X4_railAt : GoodIn wsX4_ofRail (va_wsS RX4 22 yX4_railAt wsX4_railAt) := goodIn_app (goodIn_of _ (by decide +kernel)) ggX4_ofRail_X4_railAt
theorem dX4_ofRail_0 : decode cX4_ofRail 0 = .ok (.aload_n 0, 1) := by decide +kernel
theorem dX4_ofRail_1 : decode cX4_ofRail 1 = .ok (.getfield 7, 3) := by decide +kernel
theorem dX4_ofRail_4 : decode cX4_ofRail 4 = .ok (.iload_n 1, 1) := by decide +kernel
theorem dX4_ofRail_5 : decode cX4_ofRail 5 = .ok (.iload_n 2, 1) := by decide +kernel
theorem dX4_ofRail_6 : decode cX4_ofRail 6 = .ok (.invokestatic 22, 3) := by decide +kernel
theorem dX4_ofRail_9 : decode cX4_ofRail 9 = .ok (.iaload, 1) := by decide +kernel
theorem dX4_ofRail_10 : decode cX4_ofRail 10 = .ok (.ireturn, 1) := by decide +kernel
set_option maxRecDepth 20000 in
theorem ggX4_isKind_X4_in : GoodIn wsX4_isKind wsX4_in := goodIn_r _ [5] (by decide +kernel) (by decide +kernel)
set_option maxRecDepth 20000 in
theorem gX4_isKind_X4_in : GoodIn wsX4_isKind (va_wsS RX4 40 yX4_in wsX4_in) := goodIn_app (goodIn_of _ (by decide +kernel)) ggX4_isKind_X4_in
theorem dX4_isKind_0 : decode cX4_isKind 0 = .ok (.iload_n 1, 1) := by decide +kernel
theorem dX4_isKind_1 : decode cX4_isKind 1 = .ok (.i2l, 1) := by decide +kernel
theorem dX4_isKind_2 : decode cX4_isKind 2 = .ok (.lconst 0, 1) := by decide +kernel
theorem dX4_isKind_3 : decode cX4_isKind 3 = .ok (.aload_n 0, 1) := by decide +kernel
theorem dX4_isKind_4 : decode cX4_isKind 4 = .ok (.getfield 7, 3) := by decide +kernel
theorem dX4_isKind_7 : decode cX4_isKind 7 = .ok (.iconst 0, 1) := by decide +kernel
theorem dX4_isKind_8 : decode cX4_isKind 8 = .ok (.iaload, 1) := by decide +kernel
theorem dX4_isKind_9 : decode cX4_isKind 9 = .ok (.i2l, 1) := by decide +kernel
theorem dX4_isKind_10 : decode cX4_isKind 10 = .ok (.lconst 1, 1) := by decide +kernel
theorem dX4_isKind_11 : decode cX4_isKind 11 = .ok (.lsub, 1) := by decide +kernel
theorem dX4_isKind_12 : decode cX4_isKind 12 = .ok (.invokestatic 40, 3) := by decide +kernel
theorem dX4_isKind_15 : decode cX4_isKind 15 = .ok (.ireturn, 1) := by decide +kernel
set_option maxRecDepth 20000 in
theorem ggX4_isRail_X4_in : GoodIn wsX4_isRail wsX4_in := goodIn_r _ [5] (by decide +kernel) (by decide +kernel)
set_option maxRecDepth 20000 in
theorem gX4_isRail_X4_in : GoodIn wsX4_isRail (va_wsS RX4 40 yX4_in wsX4_in) := goodIn_app (goodIn_of _ (by decide +kernel)) ggX4_isRail_X4_in
theorem dX4_isRail_0 : decode cX4_isRail 0 = .ok (.iload_n 0, 1) := by decide +kernel
theorem dX4_isRail_1 : decode cX4_isRail 1 = .ok (.i2l, 1) := by decide +kernel
theorem dX4_isRail_2 : decode cX4_isRail 2 = .ok (.lconst 0, 1) := by decide +kernel
theorem dX4_isRail_3 : decode cX4_isRail 3 = .ok (.ldc2_w 44, 3) := by decide +kernel
theorem dX4_isRail_6 : decode cX4_isRail 6 = .ok (.invokestatic 40, 3) := by decide +kernel
theorem dX4_isRail_9 : decode cX4_isRail 9 = .ok (.ireturn, 1) := by decide +kernel
set_option maxRecDepth 20000 in
theorem ggX4_clears_X4_railAt : GoodIn wsX4_clears wsX4_railAt := goodIn_r _ [5] (by decide +kernel) (by decide +kernel)
set_option maxRecDepth 20000 in
theorem gX4_clears_X4_railAt : GoodIn wsX4_clears (va_wsS RX4 22 yX4_railAt wsX4_railAt) := goodIn_app (goodIn_of _ (by decide +kernel)) ggX4_clears_X4_railAt
theorem dX4_clears_0 : decode cX4_clears 0 = .ok (.aload_n 0, 1) := by decide +kernel
theorem dX4_clears_1 : decode cX4_clears 1 = .ok (.getfield 7, 3) := by decide +kernel
theorem dX4_clears_4 : decode cX4_clears 4 = .ok (.iload_n 1, 1) := by decide +kernel
theorem dX4_clears_5 : decode cX4_clears 5 = .ok (.iconst 2, 1) := by decide +kernel
theorem dX4_clears_6 : decode cX4_clears 6 = .ok (.invokestatic 22, 3) := by decide +kernel
theorem dX4_clears_9 : decode cX4_clears 9 = .ok (.iconst (-1), 1) := by decide +kernel
theorem dX4_clears_10 : decode cX4_clears 10 = .ok (.iastore, 1) := by decide +kernel
theorem dX4_clears_11 : decode cX4_clears 11 = .ok (.aload_n 0, 1) := by decide +kernel
theorem dX4_clears_12 : decode cX4_clears 12 = .ok (.getfield 7, 3) := by decide +kernel
theorem dX4_clears_15 : decode cX4_clears 15 = .ok (.iload_n 1, 1) := by decide +kernel
theorem dX4_clears_16 : decode cX4_clears 16 = .ok (.iconst 3, 1) := by decide +kernel
theorem dX4_clears_17 : decode cX4_clears 17 = .ok (.invokestatic 22, 3) := by decide +kernel
theorem dX4_clears_20 : decode cX4_clears 20 = .ok (.iconst (-1), 1) := by decide +kernel
theorem dX4_clears_21 : decode cX4_clears 21 = .ok (.iastore, 1) := by decide +kernel
theorem dX4_clears_22 : decode cX4_clears 22 = .ok (.return_, 1) := by decide +kernel
set_option maxRecDepth 20000 in
theorem ggX4_addKind_X4_in : GoodIn wsX4_addKind wsX4_in := goodIn_r _ [8] (by decide +kernel) (by decide +kernel)
set_option maxRecDepth 20000 in
theorem gX4_addKind_X4_in : GoodIn wsX4_addKind (va_wsS RX4 40 yX4_in wsX4_in) := goodIn_app (goodIn_of _ (by decide +kernel)) ggX4_addKind_X4_in
set_option maxRecDepth 20000 in
theorem ggX4_addKind_X4_isRail : GoodIn wsX4_addKind wsX4_isRail := goodIn_r _ [11, 12, 5, 6, 7, 8] (by decide +kernel) (by decide +kernel)
set_option maxRecDepth 20000 in
theorem gX4_addKind_X4_isRail : GoodIn wsX4_addKind (va_wsS RX4 52 yX4_isRail wsX4_isRail) := goodIn_app (goodIn_of _ (by decide +kernel)) ggX4_addKind_X4_isRail
set_option maxRecDepth 20000 in
theorem ggX4_addKind_X4_throwing : GoodIn wsX4_addKind wsX4_throwing := goodIn_r _ [16, 17, 31, 32, 33, 34, 35, 36, 37, 38, 39, 40] (by decide +kernel) (by decide +kernel)
set_option maxRecDepth 20000 in
theorem gX4_addKind_X4_throwing : GoodIn wsX4_addKind (wsV RX4 56 RX4 yX4_throwing wsX4_throwing) := goodIn_app (goodIn_of _ (by decide +kernel)) ggX4_addKind_X4_throwing
set_option maxRecDepth 20000 in
theorem ggX4_addKind_X4_save : GoodIn wsX4_addKind wsX4_save := goodIn_r _ [21, 22, 23, 4, 31, 32, 33, 34, 35, 36, 37, 38, 39, 40] (by decide +kernel) (by decide +kernel)
set_option maxRecDepth 20000 in
theorem gX4_addKind_X4_save : GoodIn wsX4_addKind (wsV RX4 60 RX4 yX4_save wsX4_save) := goodIn_app (goodIn_of _ (by decide +kernel)) ggX4_addKind_X4_save
set_option maxRecDepth 20000 in
theorem ggX4_addKind_X4_kindAt : GoodIn wsX4_addKind wsX4_kindAt := goodIn_r _ [26] (by decide +kernel) (by decide +kernel)
set_option maxRecDepth 20000 in
theorem gX4_addKind_X4_kindAt : GoodIn wsX4_addKind (va_wsS RX4 37 yX4_kindAt wsX4_kindAt) := goodIn_app (goodIn_of _ (by decide +kernel)) ggX4_addKind_X4_kindAt
set_option maxRecDepth 20000 in
theorem ggX4_addKind_X4_fine : GoodIn wsX4_addKind wsX4_fine := goodIn_r _ [30, 17, 31, 32, 33, 34, 35, 36, 37, 38, 39, 40] (by decide +kernel) (by decide +kernel)
set_option maxRecDepth 20000 in
theorem gX4_addKind_X4_fine : GoodIn wsX4_addKind (wsV RX4 63 RX4 yX4_fine wsX4_fine) := goodIn_app (goodIn_of _ (by decide +kernel)) ggX4_addKind_X4_fine
theorem dX4_addKind_0 : decode cX4_addKind 0 = .ok (.iload_n 1, 1) := by decide +kernel
theorem dX4_addKind_1 : decode cX4_addKind 1 = .ok (.i2l, 1) := by decide +kernel
theorem dX4_addKind_2 : decode cX4_addKind 2 = .ok (.ldc2_w 46, 3) := by decide +kernel
theorem dX4_addKind_5 : decode cX4_addKind 5 = .ok (.ldc2_w 48, 3) := by decide +kernel
theorem dX4_addKind_8 : decode cX4_addKind 8 = .ok (.invokestatic 40, 3) := by decide +kernel
theorem dX4_addKind_11 : decode cX4_addKind 11 = .ok (.ifCond .eq 22, 3) := by decide +kernel
theorem dX4_addKind_14 : decode cX4_addKind 14 = .ok (.iload_n 2, 1) := by decide +kernel
theorem dX4_addKind_15 : decode cX4_addKind 15 = .ok (.i2l, 1) := by decide +kernel
theorem dX4_addKind_16 : decode cX4_addKind 16 = .ok (.lconst 1, 1) := by decide +kernel
theorem dX4_addKind_17 : decode cX4_addKind 17 = .ok (.ldc2_w 50, 3) := by decide +kernel
theorem dX4_addKind_20 : decode cX4_addKind 20 = .ok (.invokestatic 40, 3) := by decide +kernel
theorem dX4_addKind_23 : decode cX4_addKind 23 = .ok (.ifCond .eq 10, 3) := by decide +kernel
theorem dX4_addKind_26 : decode cX4_addKind 26 = .ok (.iload_n 3, 1) := by decide +kernel
theorem dX4_addKind_27 : decode cX4_addKind 27 = .ok (.invokestatic 52, 3) := by decide +kernel
theorem dX4_addKind_30 : decode cX4_addKind 30 = .ok (.ifCond .ne 9, 3) := by decide +kernel
theorem dX4_addKind_33 : decode cX4_addKind 33 = .ok (.aload_n 0, 1) := by decide +kernel
theorem dX4_addKind_34 : decode cX4_addKind 34 = .ok (.iconst 1, 1) := by decide +kernel
theorem dX4_addKind_35 : decode cX4_addKind 35 = .ok (.invokevirtual 56, 3) := by decide +kernel
theorem dX4_addKind_38 : decode cX4_addKind 38 = .ok (.ireturn, 1) := by decide +kernel
theorem dX4_addKind_39 : decode cX4_addKind 39 = .ok (.aload_n 0, 1) := by decide +kernel
theorem dX4_addKind_40 : decode cX4_addKind 40 = .ok (.getfield 7, 3) := by decide +kernel
theorem dX4_addKind_43 : decode cX4_addKind 43 = .ok (.iconst 0, 1) := by decide +kernel
theorem dX4_addKind_44 : decode cX4_addKind 44 = .ok (.iaload, 1) := by decide +kernel
theorem dX4_addKind_45 : decode cX4_addKind 45 = .ok (.bipush 6, 2) := by decide +kernel
theorem dX4_addKind_47 : decode cX4_addKind 47 = .ok (.if_icmp .ne 9, 3) := by decide +kernel
theorem dX4_addKind_50 : decode cX4_addKind 50 = .ok (.aload_n 0, 1) := by decide +kernel
theorem dX4_addKind_51 : decode cX4_addKind 51 = .ok (.iconst 2, 1) := by decide +kernel
theorem dX4_addKind_52 : decode cX4_addKind 52 = .ok (.invokevirtual 56, 3) := by decide +kernel
theorem dX4_addKind_55 : decode cX4_addKind 55 = .ok (.ireturn, 1) := by decide +kernel
theorem dX4_addKind_56 : decode cX4_addKind 56 = .ok (.aload_n 0, 1) := by decide +kernel
theorem dX4_addKind_57 : decode cX4_addKind 57 = .ok (.invokevirtual 60, 3) := by decide +kernel
theorem dX4_addKind_60 : decode cX4_addKind 60 = .ok (.aload_n 0, 1) := by decide +kernel
theorem dX4_addKind_61 : decode cX4_addKind 61 = .ok (.getfield 7, 3) := by decide +kernel
theorem dX4_addKind_64 : decode cX4_addKind 64 = .ok (.iconst 0, 1) := by decide +kernel
theorem dX4_addKind_65 : decode cX4_addKind 65 = .ok (.iaload, 1) := by decide +kernel
theorem dX4_addKind_66 : decode cX4_addKind 66 = .ok (.istore 4, 2) := by decide +kernel
theorem dX4_addKind_68 : decode cX4_addKind 68 = .ok (.aload_n 0, 1) := by decide +kernel
theorem dX4_addKind_69 : decode cX4_addKind 69 = .ok (.getfield 7, 3) := by decide +kernel
theorem dX4_addKind_72 : decode cX4_addKind 72 = .ok (.iload 4, 2) := by decide +kernel
theorem dX4_addKind_74 : decode cX4_addKind 74 = .ok (.iconst 0, 1) := by decide +kernel
theorem dX4_addKind_75 : decode cX4_addKind 75 = .ok (.invokestatic 37, 3) := by decide +kernel
theorem dX4_addKind_78 : decode cX4_addKind 78 = .ok (.iload_n 1, 1) := by decide +kernel
theorem dX4_addKind_79 : decode cX4_addKind 79 = .ok (.iastore, 1) := by decide +kernel
theorem dX4_addKind_80 : decode cX4_addKind 80 = .ok (.aload_n 0, 1) := by decide +kernel
theorem dX4_addKind_81 : decode cX4_addKind 81 = .ok (.getfield 7, 3) := by decide +kernel
theorem dX4_addKind_84 : decode cX4_addKind 84 = .ok (.iload 4, 2) := by decide +kernel
theorem dX4_addKind_86 : decode cX4_addKind 86 = .ok (.iconst 1, 1) := by decide +kernel
theorem dX4_addKind_87 : decode cX4_addKind 87 = .ok (.invokestatic 37, 3) := by decide +kernel
theorem dX4_addKind_90 : decode cX4_addKind 90 = .ok (.iload_n 2, 1) := by decide +kernel
theorem dX4_addKind_91 : decode cX4_addKind 91 = .ok (.iastore, 1) := by decide +kernel
theorem dX4_addKind_92 : decode cX4_addKind 92 = .ok (.aload_n 0, 1) := by decide +kernel
theorem dX4_addKind_93 : decode cX4_addKind 93 = .ok (.getfield 7, 3) := by decide +kernel
theorem dX4_addKind_96 : decode cX4_addKind 96 = .ok (.iload 4, 2) := by decide +kernel
theorem dX4_addKind_98 : decode cX4_addKind 98 = .ok (.iconst 2, 1) := by decide +kernel
theorem dX4_addKind_99 : decode cX4_addKind 99 = .ok (.invokestatic 37, 3) := by decide +kernel
theorem dX4_addKind_102 : decode cX4_addKind 102 = .ok (.iload_n 3, 1) := by decide +kernel
theorem dX4_addKind_103 : decode cX4_addKind 103 = .ok (.iastore, 1) := by decide +kernel
theorem dX4_addKind_104 : decode cX4_addKind 104 = .ok (.aload_n 0, 1) := by decide +kernel
theorem dX4_addKind_105 : decode cX4_addKind 105 = .ok (.getfield 7, 3) := by decide +kernel
theorem dX4_addKind_108 : decode cX4_addKind 108 = .ok (.iconst 0, 1) := by decide +kernel
theorem dX4_addKind_109 : decode cX4_addKind 109 = .ok (.dup2, 1) := by decide +kernel
theorem dX4_addKind_110 : decode cX4_addKind 110 = .ok (.iaload, 1) := by decide +kernel
theorem dX4_addKind_111 : decode cX4_addKind 111 = .ok (.iconst 1, 1) := by decide +kernel
theorem dX4_addKind_112 : decode cX4_addKind 112 = .ok (.iadd, 1) := by decide +kernel
theorem dX4_addKind_113 : decode cX4_addKind 113 = .ok (.iastore, 1) := by decide +kernel
theorem dX4_addKind_114 : decode cX4_addKind 114 = .ok (.aload_n 0, 1) := by decide +kernel
theorem dX4_addKind_115 : decode cX4_addKind 115 = .ok (.iload 4, 2) := by decide +kernel
theorem dX4_addKind_117 : decode cX4_addKind 117 = .ok (.invokevirtual 63, 3) := by decide +kernel
theorem dX4_addKind_120 : decode cX4_addKind 120 = .ok (.ireturn, 1) := by decide +kernel
set_option maxRecDepth 20000 in
theorem ggX4_setHome_X4_isKind : GoodIn wsX4_setHome wsX4_isKind := goodIn_r _ [6, 1, 7, 8, 5, 9, 36, 37, 38, 39, 40, 41, 42, 43, 44, 45] (by decide +kernel) (by decide +kernel)
set_option maxRecDepth 20000 in
theorem gX4_setHome_X4_isKind : GoodIn wsX4_setHome (wsV RX4 66 RX4 yX4_isKind wsX4_isKind) := goodIn_app (goodIn_of _ (by decide +kernel)) ggX4_setHome_X4_isKind
set_option maxRecDepth 20000 in
theorem ggX4_setHome_X4_throwing : GoodIn wsX4_setHome wsX4_throwing := goodIn_r _ [13, 14, 36, 37, 38, 39, 40, 41, 42, 43, 44, 45] (by decide +kernel) (by decide +kernel)
set_option maxRecDepth 20000 in
theorem gX4_setHome_X4_throwing : GoodIn wsX4_setHome (wsV RX4 56 RX4 yX4_throwing wsX4_throwing) := goodIn_app (goodIn_of _ (by decide +kernel)) ggX4_setHome_X4_throwing
set_option maxRecDepth 20000 in
theorem ggX4_setHome_X4_isRail : GoodIn wsX4_setHome wsX4_isRail := goodIn_r _ [17, 18, 7, 8, 5, 9] (by decide +kernel) (by decide +kernel)
set_option maxRecDepth 20000 in
theorem gX4_setHome_X4_isRail : GoodIn wsX4_setHome (va_wsS RX4 52 yX4_isRail wsX4_isRail) := goodIn_app (goodIn_of _ (by decide +kernel)) ggX4_setHome_X4_isRail
set_option maxRecDepth 20000 in
theorem ggX4_setHome_X4_save : GoodIn wsX4_setHome wsX4_save := goodIn_r _ [22, 23, 24, 1, 36, 37, 38, 39, 40, 41, 42, 43, 44, 45] (by decide +kernel) (by decide +kernel)
set_option maxRecDepth 20000 in
theorem gX4_setHome_X4_save : GoodIn wsX4_setHome (wsV RX4 60 RX4 yX4_save wsX4_save) := goodIn_app (goodIn_of _ (by decide +kernel)) ggX4_setHome_X4_save
set_option maxRecDepth 20000 in
theorem ggX4_setHome_X4_ofKind : GoodIn wsX4_setHome wsX4_ofKind := goodIn_r _ [28, 1, 29, 30, 5, 31, 36, 37, 38, 39, 40, 41, 42, 43, 44, 45] (by decide +kernel) (by decide +kernel)
set_option maxRecDepth 20000 in
theorem gX4_setHome_X4_ofKind : GoodIn wsX4_setHome (wsV RX4 69 RX4 yX4_ofKind wsX4_ofKind) := goodIn_app (goodIn_of _ (by decide +kernel)) ggX4_setHome_X4_ofKind
set_option maxRecDepth 20000 in
theorem ggX4_setHome_X4_kindAt : GoodIn wsX4_setHome wsX4_kindAt := goodIn_r _ [31] (by decide +kernel) (by decide +kernel)
set_option maxRecDepth 20000 in
theorem gX4_setHome_X4_kindAt : GoodIn wsX4_setHome (va_wsS RX4 37 yX4_kindAt wsX4_kindAt) := goodIn_app (goodIn_of _ (by decide +kernel)) ggX4_setHome_X4_kindAt
set_option maxRecDepth 20000 in
theorem ggX4_setHome_X4_fine : GoodIn wsX4_setHome wsX4_fine := goodIn_r _ [35, 14, 36, 37, 38, 39, 40, 41, 42, 43, 44, 45] (by decide +kernel) (by decide +kernel)
set_option maxRecDepth 20000 in
theorem gX4_setHome_X4_fine : GoodIn wsX4_setHome (wsV RX4 63 RX4 yX4_fine wsX4_fine) := goodIn_app (goodIn_of _ (by decide +kernel)) ggX4_setHome_X4_fine
theorem dX4_setHome_0 : decode cX4_setHome 0 = .ok (.aload_n 0, 1) := by decide +kernel
theorem dX4_setHome_1 : decode cX4_setHome 1 = .ok (.iload_n 1, 1) := by decide +kernel
theorem dX4_setHome_2 : decode cX4_setHome 2 = .ok (.invokevirtual 66, 3) := by decide +kernel
theorem dX4_setHome_5 : decode cX4_setHome 5 = .ok (.ifCond .ne 9, 3) := by decide +kernel
theorem dX4_setHome_8 : decode cX4_setHome 8 = .ok (.aload_n 0, 1) := by decide +kernel
theorem dX4_setHome_9 : decode cX4_setHome 9 = .ok (.iconst 1, 1) := by decide +kernel
theorem dX4_setHome_10 : decode cX4_setHome 10 = .ok (.invokevirtual 56, 3) := by decide +kernel
theorem dX4_setHome_13 : decode cX4_setHome 13 = .ok (.ireturn, 1) := by decide +kernel
theorem dX4_setHome_14 : decode cX4_setHome 14 = .ok (.iload_n 2, 1) := by decide +kernel
theorem dX4_setHome_15 : decode cX4_setHome 15 = .ok (.invokestatic 52, 3) := by decide +kernel
theorem dX4_setHome_18 : decode cX4_setHome 18 = .ok (.ifCond .ne 9, 3) := by decide +kernel
theorem dX4_setHome_21 : decode cX4_setHome 21 = .ok (.aload_n 0, 1) := by decide +kernel
theorem dX4_setHome_22 : decode cX4_setHome 22 = .ok (.iconst 2, 1) := by decide +kernel
theorem dX4_setHome_23 : decode cX4_setHome 23 = .ok (.invokevirtual 56, 3) := by decide +kernel
theorem dX4_setHome_26 : decode cX4_setHome 26 = .ok (.ireturn, 1) := by decide +kernel
theorem dX4_setHome_27 : decode cX4_setHome 27 = .ok (.aload_n 0, 1) := by decide +kernel
theorem dX4_setHome_28 : decode cX4_setHome 28 = .ok (.invokevirtual 60, 3) := by decide +kernel
theorem dX4_setHome_31 : decode cX4_setHome 31 = .ok (.aload_n 0, 1) := by decide +kernel
theorem dX4_setHome_32 : decode cX4_setHome 32 = .ok (.iload_n 1, 1) := by decide +kernel
theorem dX4_setHome_33 : decode cX4_setHome 33 = .ok (.iconst 2, 1) := by decide +kernel
theorem dX4_setHome_34 : decode cX4_setHome 34 = .ok (.invokevirtual 69, 3) := by decide +kernel
theorem dX4_setHome_37 : decode cX4_setHome 37 = .ok (.istore_n 3, 1) := by decide +kernel
theorem dX4_setHome_38 : decode cX4_setHome 38 = .ok (.aload_n 0, 1) := by decide +kernel
theorem dX4_setHome_39 : decode cX4_setHome 39 = .ok (.getfield 7, 3) := by decide +kernel
theorem dX4_setHome_42 : decode cX4_setHome 42 = .ok (.iload_n 1, 1) := by decide +kernel
theorem dX4_setHome_43 : decode cX4_setHome 43 = .ok (.iconst 2, 1) := by decide +kernel
theorem dX4_setHome_44 : decode cX4_setHome 44 = .ok (.invokestatic 37, 3) := by decide +kernel
theorem dX4_setHome_47 : decode cX4_setHome 47 = .ok (.iload_n 2, 1) := by decide +kernel
theorem dX4_setHome_48 : decode cX4_setHome 48 = .ok (.iastore, 1) := by decide +kernel
theorem dX4_setHome_49 : decode cX4_setHome 49 = .ok (.aload_n 0, 1) := by decide +kernel
theorem dX4_setHome_50 : decode cX4_setHome 50 = .ok (.iload_n 3, 1) := by decide +kernel
theorem dX4_setHome_51 : decode cX4_setHome 51 = .ok (.invokevirtual 63, 3) := by decide +kernel
theorem dX4_setHome_54 : decode cX4_setHome 54 = .ok (.ireturn, 1) := by decide +kernel
set_option maxRecDepth 20000 in
theorem ggX4_setGap_X4_isRail : GoodIn wsX4_setGap wsX4_isRail := goodIn_r _ [7, 8, 9, 10, 6, 11] (by decide +kernel) (by decide +kernel)
set_option maxRecDepth 20000 in
theorem gX4_setGap_X4_isRail : GoodIn wsX4_setGap (va_wsS RX4 52 yX4_isRail wsX4_isRail) := goodIn_app (goodIn_of _ (by decide +kernel)) ggX4_setGap_X4_isRail
set_option maxRecDepth 20000 in
theorem ggX4_setGap_X4_throwing : GoodIn wsX4_setGap wsX4_throwing := goodIn_r _ [15, 16, 34, 35, 36, 37, 38, 39, 40, 41, 42, 43] (by decide +kernel) (by decide +kernel)
set_option maxRecDepth 20000 in
theorem gX4_setGap_X4_throwing : GoodIn wsX4_setGap (wsV RX4 56 RX4 yX4_throwing wsX4_throwing) := goodIn_app (goodIn_of _ (by decide +kernel)) ggX4_setGap_X4_throwing
set_option maxRecDepth 20000 in
theorem ggX4_setGap_X4_in : GoodIn wsX4_setGap wsX4_in := goodIn_r _ [11] (by decide +kernel) (by decide +kernel)
set_option maxRecDepth 20000 in
theorem gX4_setGap_X4_in : GoodIn wsX4_setGap (va_wsS RX4 40 yX4_in wsX4_in) := goodIn_app (goodIn_of _ (by decide +kernel)) ggX4_setGap_X4_in
set_option maxRecDepth 20000 in
theorem ggX4_setGap_X4_ofRail : GoodIn wsX4_setGap wsX4_ofRail := goodIn_r _ [20, 3, 21, 22, 6, 23, 34, 35, 36, 37, 38, 39, 40, 41, 42, 43] (by decide +kernel) (by decide +kernel)
set_option maxRecDepth 20000 in
theorem gX4_setGap_X4_ofRail : GoodIn wsX4_setGap (wsV RX4 76 RX4 yX4_ofRail wsX4_ofRail) := goodIn_app (goodIn_of _ (by decide +kernel)) ggX4_setGap_X4_ofRail
set_option maxRecDepth 20000 in
theorem ggX4_setGap_X4_save : GoodIn wsX4_setGap wsX4_save := goodIn_r _ [27, 28, 29, 3, 34, 35, 36, 37, 38, 39, 40, 41, 42, 43] (by decide +kernel) (by decide +kernel)
set_option maxRecDepth 20000 in
theorem gX4_setGap_X4_save : GoodIn wsX4_setGap (wsV RX4 60 RX4 yX4_save wsX4_save) := goodIn_app (goodIn_of _ (by decide +kernel)) ggX4_setGap_X4_save
set_option maxRecDepth 20000 in
theorem ggX4_setGap_X4_railAt : GoodIn wsX4_setGap wsX4_railAt := goodIn_r _ [23] (by decide +kernel) (by decide +kernel)
set_option maxRecDepth 20000 in
theorem gX4_setGap_X4_railAt : GoodIn wsX4_setGap (va_wsS RX4 22 yX4_railAt wsX4_railAt) := goodIn_app (goodIn_of _ (by decide +kernel)) ggX4_setGap_X4_railAt
set_option maxRecDepth 20000 in
theorem ggX4_setGap_X4_fine : GoodIn wsX4_setGap wsX4_fine := goodIn_r _ [33, 16, 34, 35, 36, 37, 38, 39, 40, 41, 42, 43] (by decide +kernel) (by decide +kernel)
set_option maxRecDepth 20000 in
theorem gX4_setGap_X4_fine : GoodIn wsX4_setGap (wsV RX4 63 RX4 yX4_fine wsX4_fine) := goodIn_app (goodIn_of _ (by decide +kernel)) ggX4_setGap_X4_fine
theorem dX4_setGap_0 : decode cX4_setGap 0 = .ok (.iload_n 1, 1) := by decide +kernel
theorem dX4_setGap_1 : decode cX4_setGap 1 = .ok (.invokestatic 52, 3) := by decide +kernel
theorem dX4_setGap_4 : decode cX4_setGap 4 = .ok (.ifCond .ne 9, 3) := by decide +kernel
theorem dX4_setGap_7 : decode cX4_setGap 7 = .ok (.aload_n 0, 1) := by decide +kernel
theorem dX4_setGap_8 : decode cX4_setGap 8 = .ok (.iconst 1, 1) := by decide +kernel
theorem dX4_setGap_9 : decode cX4_setGap 9 = .ok (.invokevirtual 56, 3) := by decide +kernel
theorem dX4_setGap_12 : decode cX4_setGap 12 = .ok (.ireturn, 1) := by decide +kernel
theorem dX4_setGap_13 : decode cX4_setGap 13 = .ok (.iload_n 2, 1) := by decide +kernel
theorem dX4_setGap_14 : decode cX4_setGap 14 = .ok (.i2l, 1) := by decide +kernel
theorem dX4_setGap_15 : decode cX4_setGap 15 = .ok (.ldc2_w 72, 3) := by decide +kernel
theorem dX4_setGap_18 : decode cX4_setGap 18 = .ok (.ldc2_w 74, 3) := by decide +kernel
theorem dX4_setGap_21 : decode cX4_setGap 21 = .ok (.invokestatic 40, 3) := by decide +kernel
theorem dX4_setGap_24 : decode cX4_setGap 24 = .ok (.ifCond .ne 9, 3) := by decide +kernel
theorem dX4_setGap_27 : decode cX4_setGap 27 = .ok (.aload_n 0, 1) := by decide +kernel
theorem dX4_setGap_28 : decode cX4_setGap 28 = .ok (.iconst 2, 1) := by decide +kernel
theorem dX4_setGap_29 : decode cX4_setGap 29 = .ok (.invokevirtual 56, 3) := by decide +kernel
theorem dX4_setGap_32 : decode cX4_setGap 32 = .ok (.ireturn, 1) := by decide +kernel
theorem dX4_setGap_33 : decode cX4_setGap 33 = .ok (.aload_n 0, 1) := by decide +kernel
theorem dX4_setGap_34 : decode cX4_setGap 34 = .ok (.iload_n 1, 1) := by decide +kernel
theorem dX4_setGap_35 : decode cX4_setGap 35 = .ok (.iconst 2, 1) := by decide +kernel
theorem dX4_setGap_36 : decode cX4_setGap 36 = .ok (.invokevirtual 76, 3) := by decide +kernel
theorem dX4_setGap_39 : decode cX4_setGap 39 = .ok (.iconst (-1), 1) := by decide +kernel
theorem dX4_setGap_40 : decode cX4_setGap 40 = .ok (.if_icmp .eq 9, 3) := by decide +kernel
theorem dX4_setGap_43 : decode cX4_setGap 43 = .ok (.aload_n 0, 1) := by decide +kernel
theorem dX4_setGap_44 : decode cX4_setGap 44 = .ok (.iconst 3, 1) := by decide +kernel
theorem dX4_setGap_45 : decode cX4_setGap 45 = .ok (.invokevirtual 56, 3) := by decide +kernel
theorem dX4_setGap_48 : decode cX4_setGap 48 = .ok (.ireturn, 1) := by decide +kernel
theorem dX4_setGap_49 : decode cX4_setGap 49 = .ok (.aload_n 0, 1) := by decide +kernel
theorem dX4_setGap_50 : decode cX4_setGap 50 = .ok (.invokevirtual 60, 3) := by decide +kernel
theorem dX4_setGap_53 : decode cX4_setGap 53 = .ok (.aload_n 0, 1) := by decide +kernel
theorem dX4_setGap_54 : decode cX4_setGap 54 = .ok (.iload_n 1, 1) := by decide +kernel
theorem dX4_setGap_55 : decode cX4_setGap 55 = .ok (.iconst 0, 1) := by decide +kernel
theorem dX4_setGap_56 : decode cX4_setGap 56 = .ok (.invokevirtual 76, 3) := by decide +kernel
theorem dX4_setGap_59 : decode cX4_setGap 59 = .ok (.istore_n 3, 1) := by decide +kernel
theorem dX4_setGap_60 : decode cX4_setGap 60 = .ok (.aload_n 0, 1) := by decide +kernel
theorem dX4_setGap_61 : decode cX4_setGap 61 = .ok (.getfield 7, 3) := by decide +kernel
theorem dX4_setGap_64 : decode cX4_setGap 64 = .ok (.iload_n 1, 1) := by decide +kernel
theorem dX4_setGap_65 : decode cX4_setGap 65 = .ok (.iconst 0, 1) := by decide +kernel
theorem dX4_setGap_66 : decode cX4_setGap 66 = .ok (.invokestatic 22, 3) := by decide +kernel
theorem dX4_setGap_69 : decode cX4_setGap 69 = .ok (.iload_n 2, 1) := by decide +kernel
theorem dX4_setGap_70 : decode cX4_setGap 70 = .ok (.iastore, 1) := by decide +kernel
theorem dX4_setGap_71 : decode cX4_setGap 71 = .ok (.aload_n 0, 1) := by decide +kernel
theorem dX4_setGap_72 : decode cX4_setGap 72 = .ok (.getfield 7, 3) := by decide +kernel
theorem dX4_setGap_75 : decode cX4_setGap 75 = .ok (.iload_n 1, 1) := by decide +kernel
theorem dX4_setGap_76 : decode cX4_setGap 76 = .ok (.iconst 1, 1) := by decide +kernel
theorem dX4_setGap_77 : decode cX4_setGap 77 = .ok (.invokestatic 22, 3) := by decide +kernel
theorem dX4_setGap_80 : decode cX4_setGap 80 = .ok (.iconst 0, 1) := by decide +kernel
theorem dX4_setGap_81 : decode cX4_setGap 81 = .ok (.iastore, 1) := by decide +kernel
theorem dX4_setGap_82 : decode cX4_setGap 82 = .ok (.aload_n 0, 1) := by decide +kernel
theorem dX4_setGap_83 : decode cX4_setGap 83 = .ok (.iload_n 3, 1) := by decide +kernel
theorem dX4_setGap_84 : decode cX4_setGap 84 = .ok (.invokevirtual 63, 3) := by decide +kernel
theorem dX4_setGap_87 : decode cX4_setGap 87 = .ok (.ireturn, 1) := by decide +kernel
set_option maxRecDepth 20000 in
theorem ggX4_inBag_X4_countAt : GoodIn wsX4_inBag wsX4_countAt := goodIn_r _ [5] (by decide +kernel) (by decide +kernel)
set_option maxRecDepth 20000 in
theorem gX4_inBag_X4_countAt : GoodIn wsX4_inBag (va_wsS RX4 79 yX4_countAt wsX4_countAt) := goodIn_app (goodIn_of _ (by decide +kernel)) ggX4_inBag_X4_countAt
theorem dX4_inBag_0 : decode cX4_inBag 0 = .ok (.iconst 0, 1) := by decide +kernel
theorem dX4_inBag_1 : decode cX4_inBag 1 = .ok (.istore_n 2, 1) := by decide +kernel
theorem dX4_inBag_2 : decode cX4_inBag 2 = .ok (.iconst 0, 1) := by decide +kernel
theorem dX4_inBag_3 : decode cX4_inBag 3 = .ok (.istore_n 3, 1) := by decide +kernel
theorem dX4_inBag_4 : decode cX4_inBag 4 = .ok (.iload_n 3, 1) := by decide +kernel
theorem dX4_inBag_5 : decode cX4_inBag 5 = .ok (.aload_n 0, 1) := by decide +kernel
theorem dX4_inBag_6 : decode cX4_inBag 6 = .ok (.getfield 7, 3) := by decide +kernel
theorem dX4_inBag_9 : decode cX4_inBag 9 = .ok (.iconst 0, 1) := by decide +kernel
theorem dX4_inBag_10 : decode cX4_inBag 10 = .ok (.iaload, 1) := by decide +kernel
theorem dX4_inBag_11 : decode cX4_inBag 11 = .ok (.if_icmp .ge 22, 3) := by decide +kernel
theorem dX4_inBag_14 : decode cX4_inBag 14 = .ok (.iload_n 2, 1) := by decide +kernel
theorem dX4_inBag_15 : decode cX4_inBag 15 = .ok (.aload_n 0, 1) := by decide +kernel
theorem dX4_inBag_16 : decode cX4_inBag 16 = .ok (.getfield 7, 3) := by decide +kernel
theorem dX4_inBag_19 : decode cX4_inBag 19 = .ok (.iload_n 1, 1) := by decide +kernel
theorem dX4_inBag_20 : decode cX4_inBag 20 = .ok (.iload_n 3, 1) := by decide +kernel
theorem dX4_inBag_21 : decode cX4_inBag 21 = .ok (.invokestatic 79, 3) := by decide +kernel
theorem dX4_inBag_24 : decode cX4_inBag 24 = .ok (.iaload, 1) := by decide +kernel
theorem dX4_inBag_25 : decode cX4_inBag 25 = .ok (.iadd, 1) := by decide +kernel
theorem dX4_inBag_26 : decode cX4_inBag 26 = .ok (.istore_n 2, 1) := by decide +kernel
theorem dX4_inBag_27 : decode cX4_inBag 27 = .ok (.iinc 3 1, 3) := by decide +kernel
theorem dX4_inBag_30 : decode cX4_inBag 30 = .ok (.goto (-26), 3) := by decide +kernel
theorem dX4_inBag_33 : decode cX4_inBag 33 = .ok (.iload_n 2, 1) := by decide +kernel
theorem dX4_inBag_34 : decode cX4_inBag 34 = .ok (.ireturn, 1) := by decide +kernel
set_option maxRecDepth 20000 in
theorem ggX4_falls_X4_countAt : GoodIn wsX4_falls wsX4_countAt := goodIn_r _ [5] (by decide +kernel) (by decide +kernel)
set_option maxRecDepth 20000 in
theorem gX4_falls_X4_countAt : GoodIn wsX4_falls (va_wsS RX4 79 yX4_countAt wsX4_countAt) := goodIn_app (goodIn_of _ (by decide +kernel)) ggX4_falls_X4_countAt
set_option maxRecDepth 20000 in
theorem ggX4_falls_X4_railAt : GoodIn wsX4_falls wsX4_railAt := goodIn_r _ [8] (by decide +kernel) (by decide +kernel)
set_option maxRecDepth 20000 in
theorem gX4_falls_X4_railAt : GoodIn wsX4_falls (va_wsS RX4 22 yX4_railAt wsX4_railAt) := goodIn_app (goodIn_of _ (by decide +kernel)) ggX4_falls_X4_railAt
set_option maxRecDepth 20000 in
theorem ggX4_falls_X4_ofRail : GoodIn wsX4_falls wsX4_ofRail := goodIn_r _ [12, 1, 6, 7, 4, 8, 13, 14, 15, 16, 17, 18, 19, 20, 21, 22] (by decide +kernel) (by decide +kernel)
set_option maxRecDepth 20000 in
theorem gX4_falls_X4_ofRail : GoodIn wsX4_falls (wsV RX4 76 RX4 yX4_ofRail wsX4_ofRail) := goodIn_app (goodIn_of _ (by decide +kernel)) ggX4_falls_X4_ofRail
theorem dX4_falls_0 : decode cX4_falls 0 = .ok (.aload_n 0, 1) := by decide +kernel
theorem dX4_falls_1 : decode cX4_falls 1 = .ok (.getfield 7, 3) := by decide +kernel
theorem dX4_falls_4 : decode cX4_falls 4 = .ok (.iload_n 1, 1) := by decide +kernel
theorem dX4_falls_5 : decode cX4_falls 5 = .ok (.iload_n 2, 1) := by decide +kernel
theorem dX4_falls_6 : decode cX4_falls 6 = .ok (.invokestatic 79, 3) := by decide +kernel
theorem dX4_falls_9 : decode cX4_falls 9 = .ok (.dup2, 1) := by decide +kernel
theorem dX4_falls_10 : decode cX4_falls 10 = .ok (.iaload, 1) := by decide +kernel
theorem dX4_falls_11 : decode cX4_falls 11 = .ok (.iconst 1, 1) := by decide +kernel
theorem dX4_falls_12 : decode cX4_falls 12 = .ok (.iadd, 1) := by decide +kernel
theorem dX4_falls_13 : decode cX4_falls 13 = .ok (.iastore, 1) := by decide +kernel
theorem dX4_falls_14 : decode cX4_falls 14 = .ok (.aload_n 0, 1) := by decide +kernel
theorem dX4_falls_15 : decode cX4_falls 15 = .ok (.getfield 7, 3) := by decide +kernel
theorem dX4_falls_18 : decode cX4_falls 18 = .ok (.iload_n 1, 1) := by decide +kernel
theorem dX4_falls_19 : decode cX4_falls 19 = .ok (.iconst 1, 1) := by decide +kernel
theorem dX4_falls_20 : decode cX4_falls 20 = .ok (.invokestatic 22, 3) := by decide +kernel
theorem dX4_falls_23 : decode cX4_falls 23 = .ok (.dup2, 1) := by decide +kernel
theorem dX4_falls_24 : decode cX4_falls 24 = .ok (.iaload, 1) := by decide +kernel
theorem dX4_falls_25 : decode cX4_falls 25 = .ok (.iconst 1, 1) := by decide +kernel
theorem dX4_falls_26 : decode cX4_falls 26 = .ok (.iadd, 1) := by decide +kernel
theorem dX4_falls_27 : decode cX4_falls 27 = .ok (.iastore, 1) := by decide +kernel
theorem dX4_falls_28 : decode cX4_falls 28 = .ok (.aload_n 0, 1) := by decide +kernel
theorem dX4_falls_29 : decode cX4_falls 29 = .ok (.iload_n 1, 1) := by decide +kernel
theorem dX4_falls_30 : decode cX4_falls 30 = .ok (.iconst 1, 1) := by decide +kernel
theorem dX4_falls_31 : decode cX4_falls 31 = .ok (.invokevirtual 76, 3) := by decide +kernel
theorem dX4_falls_34 : decode cX4_falls 34 = .ok (.bipush 20, 2) := by decide +kernel
theorem dX4_falls_36 : decode cX4_falls 36 = .ok (.if_icmp .ne 44, 3) := by decide +kernel
theorem dX4_falls_39 : decode cX4_falls 39 = .ok (.aload_n 0, 1) := by decide +kernel
theorem dX4_falls_40 : decode cX4_falls 40 = .ok (.getfield 7, 3) := by decide +kernel
theorem dX4_falls_43 : decode cX4_falls 43 = .ok (.iload_n 1, 1) := by decide +kernel
theorem dX4_falls_44 : decode cX4_falls 44 = .ok (.iconst 1, 1) := by decide +kernel
theorem dX4_falls_45 : decode cX4_falls 45 = .ok (.invokestatic 22, 3) := by decide +kernel
theorem dX4_falls_48 : decode cX4_falls 48 = .ok (.iconst 0, 1) := by decide +kernel
theorem dX4_falls_49 : decode cX4_falls 49 = .ok (.iastore, 1) := by decide +kernel
theorem dX4_falls_50 : decode cX4_falls 50 = .ok (.aload_n 0, 1) := by decide +kernel
theorem dX4_falls_51 : decode cX4_falls 51 = .ok (.getfield 7, 3) := by decide +kernel
theorem dX4_falls_54 : decode cX4_falls 54 = .ok (.iload_n 1, 1) := by decide +kernel
theorem dX4_falls_55 : decode cX4_falls 55 = .ok (.iconst 0, 1) := by decide +kernel
theorem dX4_falls_56 : decode cX4_falls 56 = .ok (.invokestatic 22, 3) := by decide +kernel
theorem dX4_falls_59 : decode cX4_falls 59 = .ok (.dup2, 1) := by decide +kernel
theorem dX4_falls_60 : decode cX4_falls 60 = .ok (.iaload, 1) := by decide +kernel
theorem dX4_falls_61 : decode cX4_falls 61 = .ok (.aload_n 0, 1) := by decide +kernel
theorem dX4_falls_62 : decode cX4_falls 62 = .ok (.iload_n 1, 1) := by decide +kernel
theorem dX4_falls_63 : decode cX4_falls 63 = .ok (.iconst 0, 1) := by decide +kernel
theorem dX4_falls_64 : decode cX4_falls 64 = .ok (.invokevirtual 76, 3) := by decide +kernel
theorem dX4_falls_67 : decode cX4_falls 67 = .ok (.sipush 4100, 3) := by decide +kernel
theorem dX4_falls_70 : decode cX4_falls 70 = .ok (.if_icmp .ge 7, 3) := by decide +kernel
theorem dX4_falls_73 : decode cX4_falls 73 = .ok (.iconst 1, 1) := by decide +kernel
theorem dX4_falls_74 : decode cX4_falls 74 = .ok (.goto 4, 3) := by decide +kernel
theorem dX4_falls_77 : decode cX4_falls 77 = .ok (.iconst 0, 1) := by decide +kernel
theorem dX4_falls_78 : decode cX4_falls 78 = .ok (.iadd, 1) := by decide +kernel
theorem dX4_falls_79 : decode cX4_falls 79 = .ok (.iastore, 1) := by decide +kernel
theorem dX4_falls_80 : decode cX4_falls 80 = .ok (.return_, 1) := by decide +kernel
set_option maxRecDepth 20000 in
theorem ggX4_sizeOf_X4_ofKind : GoodIn wsX4_sizeOf wsX4_ofKind := goodIn_r _ [5, 6, 7, 8, 4, 9, 10, 11, 12, 13, 14, 15, 16, 17, 18, 19] (by decide +kernel) (by decide +kernel)
set_option maxRecDepth 20000 in
theorem gX4_sizeOf_X4_ofKind : GoodIn wsX4_sizeOf (wsV RX4 69 RX4 yX4_ofKind wsX4_ofKind) := goodIn_app (goodIn_of _ (by decide +kernel)) ggX4_sizeOf_X4_ofKind
theorem dX4_sizeOf_0 : decode cX4_sizeOf 0 = .ok (.aload_n 0, 1) := by decide +kernel
theorem dX4_sizeOf_1 : decode cX4_sizeOf 1 = .ok (.iload_n 1, 1) := by decide +kernel
theorem dX4_sizeOf_2 : decode cX4_sizeOf 2 = .ok (.iconst 0, 1) := by decide +kernel
theorem dX4_sizeOf_3 : decode cX4_sizeOf 3 = .ok (.invokevirtual 69, 3) := by decide +kernel
theorem dX4_sizeOf_6 : decode cX4_sizeOf 6 = .ok (.iload_n 2, 1) := by decide +kernel
theorem dX4_sizeOf_7 : decode cX4_sizeOf 7 = .ok (.isub, 1) := by decide +kernel
theorem dX4_sizeOf_8 : decode cX4_sizeOf 8 = .ok (.istore_n 3, 1) := by decide +kernel
theorem dX4_sizeOf_9 : decode cX4_sizeOf 9 = .ok (.iload_n 3, 1) := by decide +kernel
theorem dX4_sizeOf_10 : decode cX4_sizeOf 10 = .ok (.iconst 1, 1) := by decide +kernel
theorem dX4_sizeOf_11 : decode cX4_sizeOf 11 = .ok (.if_icmp .ge 7, 3) := by decide +kernel
theorem dX4_sizeOf_14 : decode cX4_sizeOf 14 = .ok (.iconst 1, 1) := by decide +kernel
theorem dX4_sizeOf_15 : decode cX4_sizeOf 15 = .ok (.goto 4, 3) := by decide +kernel
theorem dX4_sizeOf_18 : decode cX4_sizeOf 18 = .ok (.iload_n 3, 1) := by decide +kernel
theorem dX4_sizeOf_19 : decode cX4_sizeOf 19 = .ok (.ireturn, 1) := by decide +kernel
set_option maxRecDepth 20000 in
theorem ggX4_feeds_X4_kindAt : GoodIn wsX4_feeds wsX4_kindAt := goodIn_r _ [5] (by decide +kernel) (by decide +kernel)
set_option maxRecDepth 20000 in
theorem gX4_feeds_X4_kindAt : GoodIn wsX4_feeds (va_wsS RX4 37 yX4_kindAt wsX4_kindAt) := goodIn_app (goodIn_of _ (by decide +kernel)) ggX4_feeds_X4_kindAt
set_option maxRecDepth 20000 in
theorem ggX4_feeds_X4_ofRail : GoodIn wsX4_feeds wsX4_ofRail := goodIn_r _ [9, 1, 10, 11, 4, 12, 32, 33, 34, 35, 36, 37, 38, 39, 40, 41] (by decide +kernel) (by decide +kernel)
set_option maxRecDepth 20000 in
theorem gX4_feeds_X4_ofRail : GoodIn wsX4_feeds (wsV RX4 76 RX4 yX4_ofRail wsX4_ofRail) := goodIn_app (goodIn_of _ (by decide +kernel)) ggX4_feeds_X4_ofRail
set_option maxRecDepth 20000 in
theorem ggX4_feeds_X4_sizeOf : GoodIn wsX4_feeds wsX4_sizeOf := goodIn_r _ [16, 17, 18, 19, 4, 20, 1, 2, 3, 5, 32, 33, 34, 35, 36, 37, 38, 39, 40, 41] (by decide +kernel) (by decide +kernel)
set_option maxRecDepth 20000 in
theorem gX4_feeds_X4_sizeOf : GoodIn wsX4_feeds (wsV RX4 82 RX4 yX4_sizeOf wsX4_sizeOf) := goodIn_app (goodIn_of _ (by decide +kernel)) ggX4_feeds_X4_sizeOf
set_option maxRecDepth 20000 in
theorem ggX4_feeds_X4_inBag : GoodIn wsX4_feeds wsX4_inBag := goodIn_r _ [24, 1, 25, 26, 4, 27, 32, 33, 34, 35, 36, 37, 38, 39, 40, 41] (by decide +kernel) (by decide +kernel)
set_option maxRecDepth 20000 in
theorem gX4_feeds_X4_inBag : GoodIn wsX4_feeds (wsV RX4 85 RX4 yX4_inBag wsX4_inBag) := goodIn_app (goodIn_of _ (by decide +kernel)) ggX4_feeds_X4_inBag
set_option maxRecDepth 20000 in
theorem ggX4_feeds_X4_railAt : GoodIn wsX4_feeds wsX4_railAt := goodIn_r _ [12] (by decide +kernel) (by decide +kernel)
set_option maxRecDepth 20000 in
theorem gX4_feeds_X4_railAt : GoodIn wsX4_feeds (va_wsS RX4 22 yX4_railAt wsX4_railAt) := goodIn_app (goodIn_of _ (by decide +kernel)) ggX4_feeds_X4_railAt
set_option maxRecDepth 20000 in
theorem ggX4_feeds_X4_falls : GoodIn wsX4_feeds wsX4_falls := goodIn_r _ [31, 1, 25, 26, 4, 27, 10, 11, 12, 6, 7, 8, 9, 32, 33, 34, 35, 36, 37, 38, 39, 40, 41] (by decide +kernel) (by decide +kernel)
set_option maxRecDepth 20000 in
theorem gX4_feeds_X4_falls : GoodIn wsX4_feeds (wsV RX4 88 RX4 yX4_falls wsX4_falls) := goodIn_app (goodIn_of _ (by decide +kernel)) ggX4_feeds_X4_falls
theorem dX4_feeds_0 : decode cX4_feeds 0 = .ok (.iload_n 2, 1) := by decide +kernel
theorem dX4_feeds_1 : decode cX4_feeds 1 = .ok (.istore_n 3, 1) := by decide +kernel
theorem dX4_feeds_2 : decode cX4_feeds 2 = .ok (.aload_n 0, 1) := by decide +kernel
theorem dX4_feeds_3 : decode cX4_feeds 3 = .ok (.getfield 7, 3) := by decide +kernel
theorem dX4_feeds_6 : decode cX4_feeds 6 = .ok (.iconst 1, 1) := by decide +kernel
theorem dX4_feeds_7 : decode cX4_feeds 7 = .ok (.dup2, 1) := by decide +kernel
theorem dX4_feeds_8 : decode cX4_feeds 8 = .ok (.iaload, 1) := by decide +kernel
theorem dX4_feeds_9 : decode cX4_feeds 9 = .ok (.iconst 1, 1) := by decide +kernel
theorem dX4_feeds_10 : decode cX4_feeds 10 = .ok (.iadd, 1) := by decide +kernel
theorem dX4_feeds_11 : decode cX4_feeds 11 = .ok (.iastore, 1) := by decide +kernel
theorem dX4_feeds_12 : decode cX4_feeds 12 = .ok (.aload_n 0, 1) := by decide +kernel
theorem dX4_feeds_13 : decode cX4_feeds 13 = .ok (.getfield 7, 3) := by decide +kernel
theorem dX4_feeds_16 : decode cX4_feeds 16 = .ok (.iload_n 1, 1) := by decide +kernel
theorem dX4_feeds_17 : decode cX4_feeds 17 = .ok (.iconst 3, 1) := by decide +kernel
theorem dX4_feeds_18 : decode cX4_feeds 18 = .ok (.invokestatic 37, 3) := by decide +kernel
theorem dX4_feeds_21 : decode cX4_feeds 21 = .ok (.dup2, 1) := by decide +kernel
theorem dX4_feeds_22 : decode cX4_feeds 22 = .ok (.iaload, 1) := by decide +kernel
theorem dX4_feeds_23 : decode cX4_feeds 23 = .ok (.iconst 1, 1) := by decide +kernel
theorem dX4_feeds_24 : decode cX4_feeds 24 = .ok (.iadd, 1) := by decide +kernel
theorem dX4_feeds_25 : decode cX4_feeds 25 = .ok (.iastore, 1) := by decide +kernel
theorem dX4_feeds_26 : decode cX4_feeds 26 = .ok (.iconst 0, 1) := by decide +kernel
theorem dX4_feeds_27 : decode cX4_feeds 27 = .ok (.istore 4, 2) := by decide +kernel
theorem dX4_feeds_29 : decode cX4_feeds 29 = .ok (.iload 4, 2) := by decide +kernel
theorem dX4_feeds_31 : decode cX4_feeds 31 = .ok (.bipush 6, 2) := by decide +kernel
theorem dX4_feeds_33 : decode cX4_feeds 33 = .ok (.if_icmp .ge 131, 3) := by decide +kernel
theorem dX4_feeds_36 : decode cX4_feeds 36 = .ok (.aload_n 0, 1) := by decide +kernel
theorem dX4_feeds_37 : decode cX4_feeds 37 = .ok (.iload 4, 2) := by decide +kernel
theorem dX4_feeds_39 : decode cX4_feeds 39 = .ok (.iconst 0, 1) := by decide +kernel
theorem dX4_feeds_40 : decode cX4_feeds 40 = .ok (.invokevirtual 76, 3) := by decide +kernel
theorem dX4_feeds_43 : decode cX4_feeds 43 = .ok (.aload_n 0, 1) := by decide +kernel
theorem dX4_feeds_44 : decode cX4_feeds 44 = .ok (.iload_n 1, 1) := by decide +kernel
theorem dX4_feeds_45 : decode cX4_feeds 45 = .ok (.iload_n 3, 1) := by decide +kernel
theorem dX4_feeds_46 : decode cX4_feeds 46 = .ok (.invokevirtual 82, 3) := by decide +kernel
theorem dX4_feeds_49 : decode cX4_feeds 49 = .ok (.isub, 1) := by decide +kernel
theorem dX4_feeds_50 : decode cX4_feeds 50 = .ok (.istore 5, 2) := by decide +kernel
theorem dX4_feeds_52 : decode cX4_feeds 52 = .ok (.aload_n 0, 1) := by decide +kernel
theorem dX4_feeds_53 : decode cX4_feeds 53 = .ok (.iload 4, 2) := by decide +kernel
theorem dX4_feeds_55 : decode cX4_feeds 55 = .ok (.iconst 2, 1) := by decide +kernel
theorem dX4_feeds_56 : decode cX4_feeds 56 = .ok (.invokevirtual 76, 3) := by decide +kernel
theorem dX4_feeds_59 : decode cX4_feeds 59 = .ok (.iconst (-1), 1) := by decide +kernel
theorem dX4_feeds_60 : decode cX4_feeds 60 = .ok (.if_icmp .ne 19, 3) := by decide +kernel
theorem dX4_feeds_63 : decode cX4_feeds 63 = .ok (.aload_n 0, 1) := by decide +kernel
theorem dX4_feeds_64 : decode cX4_feeds 64 = .ok (.iload 4, 2) := by decide +kernel
theorem dX4_feeds_66 : decode cX4_feeds 66 = .ok (.invokevirtual 85, 3) := by decide +kernel
theorem dX4_feeds_69 : decode cX4_feeds 69 = .ok (.bipush 40, 2) := by decide +kernel
theorem dX4_feeds_71 : decode cX4_feeds 71 = .ok (.if_icmp .eq 8, 3) := by decide +kernel
theorem dX4_feeds_74 : decode cX4_feeds 74 = .ok (.iload 5, 2) := by decide +kernel
theorem dX4_feeds_76 : decode cX4_feeds 76 = .ok (.ifCond .gt 36, 3) := by decide +kernel
theorem dX4_feeds_79 : decode cX4_feeds 79 = .ok (.iload_n 3, 1) := by decide +kernel
theorem dX4_feeds_80 : decode cX4_feeds 80 = .ok (.iload_n 3, 1) := by decide +kernel
theorem dX4_feeds_81 : decode cX4_feeds 81 = .ok (.sipush 999, 3) := by decide +kernel
theorem dX4_feeds_84 : decode cX4_feeds 84 = .ok (.if_icmp .ge 7, 3) := by decide +kernel
theorem dX4_feeds_87 : decode cX4_feeds 87 = .ok (.iconst 1, 1) := by decide +kernel
theorem dX4_feeds_88 : decode cX4_feeds 88 = .ok (.goto 4, 3) := by decide +kernel
theorem dX4_feeds_91 : decode cX4_feeds 91 = .ok (.iconst 0, 1) := by decide +kernel
theorem dX4_feeds_92 : decode cX4_feeds 92 = .ok (.iadd, 1) := by decide +kernel
theorem dX4_feeds_93 : decode cX4_feeds 93 = .ok (.istore_n 3, 1) := by decide +kernel
theorem dX4_feeds_94 : decode cX4_feeds 94 = .ok (.aload_n 0, 1) := by decide +kernel
theorem dX4_feeds_95 : decode cX4_feeds 95 = .ok (.getfield 7, 3) := by decide +kernel
theorem dX4_feeds_98 : decode cX4_feeds 98 = .ok (.iload 4, 2) := by decide +kernel
theorem dX4_feeds_100 : decode cX4_feeds 100 = .ok (.iconst 4, 1) := by decide +kernel
theorem dX4_feeds_101 : decode cX4_feeds 101 = .ok (.invokestatic 22, 3) := by decide +kernel
theorem dX4_feeds_104 : decode cX4_feeds 104 = .ok (.dup2, 1) := by decide +kernel
theorem dX4_feeds_105 : decode cX4_feeds 105 = .ok (.iaload, 1) := by decide +kernel
theorem dX4_feeds_106 : decode cX4_feeds 106 = .ok (.iconst 1, 1) := by decide +kernel
theorem dX4_feeds_107 : decode cX4_feeds 107 = .ok (.iadd, 1) := by decide +kernel
theorem dX4_feeds_108 : decode cX4_feeds 108 = .ok (.iastore, 1) := by decide +kernel
theorem dX4_feeds_109 : decode cX4_feeds 109 = .ok (.goto 49, 3) := by decide +kernel
theorem dX4_feeds_112 : decode cX4_feeds 112 = .ok (.iload 5, 2) := by decide +kernel
theorem dX4_feeds_114 : decode cX4_feeds 114 = .ok (.iconst 5, 1) := by decide +kernel
theorem dX4_feeds_115 : decode cX4_feeds 115 = .ok (.if_icmp .ge 33, 3) := by decide +kernel
theorem dX4_feeds_118 : decode cX4_feeds 118 = .ok (.aload_n 0, 1) := by decide +kernel
theorem dX4_feeds_119 : decode cX4_feeds 119 = .ok (.getfield 7, 3) := by decide +kernel
theorem dX4_feeds_122 : decode cX4_feeds 122 = .ok (.iload 4, 2) := by decide +kernel
theorem dX4_feeds_124 : decode cX4_feeds 124 = .ok (.iconst 2, 1) := by decide +kernel
theorem dX4_feeds_125 : decode cX4_feeds 125 = .ok (.invokestatic 22, 3) := by decide +kernel
theorem dX4_feeds_128 : decode cX4_feeds 128 = .ok (.iload_n 1, 1) := by decide +kernel
theorem dX4_feeds_129 : decode cX4_feeds 129 = .ok (.iastore, 1) := by decide +kernel
theorem dX4_feeds_130 : decode cX4_feeds 130 = .ok (.aload_n 0, 1) := by decide +kernel
theorem dX4_feeds_131 : decode cX4_feeds 131 = .ok (.getfield 7, 3) := by decide +kernel
theorem dX4_feeds_134 : decode cX4_feeds 134 = .ok (.iload 4, 2) := by decide +kernel
theorem dX4_feeds_136 : decode cX4_feeds 136 = .ok (.iconst 3, 1) := by decide +kernel
theorem dX4_feeds_137 : decode cX4_feeds 137 = .ok (.invokestatic 22, 3) := by decide +kernel
theorem dX4_feeds_140 : decode cX4_feeds 140 = .ok (.iload_n 3, 1) := by decide +kernel
theorem dX4_feeds_141 : decode cX4_feeds 141 = .ok (.iastore, 1) := by decide +kernel
theorem dX4_feeds_142 : decode cX4_feeds 142 = .ok (.bipush 10, 2) := by decide +kernel
theorem dX4_feeds_144 : decode cX4_feeds 144 = .ok (.iload 4, 2) := by decide +kernel
theorem dX4_feeds_146 : decode cX4_feeds 146 = .ok (.iadd, 1) := by decide +kernel
theorem dX4_feeds_147 : decode cX4_feeds 147 = .ok (.ireturn, 1) := by decide +kernel
theorem dX4_feeds_148 : decode cX4_feeds 148 = .ok (.aload_n 0, 1) := by decide +kernel
theorem dX4_feeds_149 : decode cX4_feeds 149 = .ok (.iload 4, 2) := by decide +kernel
theorem dX4_feeds_151 : decode cX4_feeds 151 = .ok (.iload_n 1, 1) := by decide +kernel
theorem dX4_feeds_152 : decode cX4_feeds 152 = .ok (.invokevirtual 88, 3) := by decide +kernel
theorem dX4_feeds_155 : decode cX4_feeds 155 = .ok (.iload 4, 2) := by decide +kernel
theorem dX4_feeds_157 : decode cX4_feeds 157 = .ok (.ireturn, 1) := by decide +kernel
theorem dX4_feeds_158 : decode cX4_feeds 158 = .ok (.iinc 4 1, 3) := by decide +kernel
theorem dX4_feeds_161 : decode cX4_feeds 161 = .ok (.goto (-132), 3) := by decide +kernel
theorem dX4_feeds_164 : decode cX4_feeds 164 = .ok (.aload_n 0, 1) := by decide +kernel
theorem dX4_feeds_165 : decode cX4_feeds 165 = .ok (.getfield 7, 3) := by decide +kernel
theorem dX4_feeds_168 : decode cX4_feeds 168 = .ok (.iload_n 1, 1) := by decide +kernel
theorem dX4_feeds_169 : decode cX4_feeds 169 = .ok (.iconst 4, 1) := by decide +kernel
theorem dX4_feeds_170 : decode cX4_feeds 170 = .ok (.invokestatic 37, 3) := by decide +kernel
theorem dX4_feeds_173 : decode cX4_feeds 173 = .ok (.dup2, 1) := by decide +kernel
theorem dX4_feeds_174 : decode cX4_feeds 174 = .ok (.iaload, 1) := by decide +kernel
theorem dX4_feeds_175 : decode cX4_feeds 175 = .ok (.iconst 1, 1) := by decide +kernel
theorem dX4_feeds_176 : decode cX4_feeds 176 = .ok (.iadd, 1) := by decide +kernel
theorem dX4_feeds_177 : decode cX4_feeds 177 = .ok (.iastore, 1) := by decide +kernel
theorem dX4_feeds_178 : decode cX4_feeds 178 = .ok (.iconst (-1), 1) := by decide +kernel
theorem dX4_feeds_179 : decode cX4_feeds 179 = .ok (.ireturn, 1) := by decide +kernel
set_option maxRecDepth 20000 in
theorem ggX4_feed_X4_isKind : GoodIn wsX4_feed wsX4_isKind := goodIn_r _ [6, 7, 8, 9, 5, 10, 59, 60, 61, 62, 63, 64, 65, 66, 67, 68] (by decide +kernel) (by decide +kernel)
set_option maxRecDepth 20000 in
theorem gX4_feed_X4_isKind : GoodIn wsX4_feed (wsV RX4 66 RX4 yX4_isKind wsX4_isKind) := goodIn_app (goodIn_of _ (by decide +kernel)) ggX4_feed_X4_isKind
set_option maxRecDepth 20000 in
theorem ggX4_feed_X4_throwing : GoodIn wsX4_feed wsX4_throwing := goodIn_r _ [14, 15, 59, 60, 61, 62, 63, 64, 65, 66, 67, 68] (by decide +kernel) (by decide +kernel)
set_option maxRecDepth 20000 in
theorem gX4_feed_X4_throwing : GoodIn wsX4_feed (wsV RX4 56 RX4 yX4_throwing wsX4_throwing) := goodIn_app (goodIn_of _ (by decide +kernel)) ggX4_feed_X4_throwing
set_option maxRecDepth 20000 in
theorem ggX4_feed_X4_in : GoodIn wsX4_feed wsX4_in := goodIn_r _ [10] (by decide +kernel) (by decide +kernel)
set_option maxRecDepth 20000 in
theorem gX4_feed_X4_in : GoodIn wsX4_feed (va_wsS RX4 40 yX4_in wsX4_in) := goodIn_app (goodIn_of _ (by decide +kernel)) ggX4_feed_X4_in
set_option maxRecDepth 20000 in
theorem ggX4_feed_X4_save : GoodIn wsX4_feed wsX4_save := goodIn_r _ [19, 20, 21, 7, 59, 60, 61, 62, 63, 64, 65, 66, 67, 68] (by decide +kernel) (by decide +kernel)
set_option maxRecDepth 20000 in
theorem gX4_feed_X4_save : GoodIn wsX4_feed (wsV RX4 60 RX4 yX4_save wsX4_save) := goodIn_app (goodIn_of _ (by decide +kernel)) ggX4_feed_X4_save
set_option maxRecDepth 20000 in
theorem ggX4_feed_X4_feeds : GoodIn wsX4_feed wsX4_feeds := goodIn_r _ [25, 7, 26, 27, 5, 28, 29, 30, 31, 32, 33, 34, 35, 36, 37, 38, 39, 40, 41, 42, 43, 44, 45, 46, 47, 48, 49, 50, 51, 52, 53, 54, 59, 60, 61, 62, 63, 64, 65, 66, 67, 68] (by decide +kernel) (by decide +kernel)
set_option maxRecDepth 20000 in
theorem gX4_feed_X4_feeds : GoodIn wsX4_feed (wsV RX4 94 RX4 yX4_feeds wsX4_feeds) := goodIn_app (goodIn_of _ (by decide +kernel)) ggX4_feed_X4_feeds
set_option maxRecDepth 20000 in
theorem ggX4_feed_X4_fine : GoodIn wsX4_feed wsX4_fine := goodIn_r _ [58, 15, 59, 60, 61, 62, 63, 64, 65, 66, 67, 68] (by decide +kernel) (by decide +kernel)
set_option maxRecDepth 20000 in
theorem gX4_feed_X4_fine : GoodIn wsX4_feed (wsV RX4 63 RX4 yX4_fine wsX4_fine) := goodIn_app (goodIn_of _ (by decide +kernel)) ggX4_feed_X4_fine
theorem dX4_feed_0 : decode cX4_feed 0 = .ok (.aload_n 0, 1) := by decide +kernel
theorem dX4_feed_1 : decode cX4_feed 1 = .ok (.iload_n 1, 1) := by decide +kernel
theorem dX4_feed_2 : decode cX4_feed 2 = .ok (.invokevirtual 66, 3) := by decide +kernel
theorem dX4_feed_5 : decode cX4_feed 5 = .ok (.ifCond .ne 9, 3) := by decide +kernel
theorem dX4_feed_8 : decode cX4_feed 8 = .ok (.aload_n 0, 1) := by decide +kernel
theorem dX4_feed_9 : decode cX4_feed 9 = .ok (.iconst 1, 1) := by decide +kernel
theorem dX4_feed_10 : decode cX4_feed 10 = .ok (.invokevirtual 56, 3) := by decide +kernel
theorem dX4_feed_13 : decode cX4_feed 13 = .ok (.ireturn, 1) := by decide +kernel
theorem dX4_feed_14 : decode cX4_feed 14 = .ok (.iload_n 2, 1) := by decide +kernel
theorem dX4_feed_15 : decode cX4_feed 15 = .ok (.i2l, 1) := by decide +kernel
theorem dX4_feed_16 : decode cX4_feed 16 = .ok (.lconst 0, 1) := by decide +kernel
theorem dX4_feed_17 : decode cX4_feed 17 = .ok (.ldc2_w 92, 3) := by decide +kernel
theorem dX4_feed_20 : decode cX4_feed 20 = .ok (.invokestatic 40, 3) := by decide +kernel
theorem dX4_feed_23 : decode cX4_feed 23 = .ok (.ifCond .ne 9, 3) := by decide +kernel
theorem dX4_feed_26 : decode cX4_feed 26 = .ok (.aload_n 0, 1) := by decide +kernel
theorem dX4_feed_27 : decode cX4_feed 27 = .ok (.iconst 2, 1) := by decide +kernel
theorem dX4_feed_28 : decode cX4_feed 28 = .ok (.invokevirtual 56, 3) := by decide +kernel
theorem dX4_feed_31 : decode cX4_feed 31 = .ok (.ireturn, 1) := by decide +kernel
theorem dX4_feed_32 : decode cX4_feed 32 = .ok (.aload_n 0, 1) := by decide +kernel
theorem dX4_feed_33 : decode cX4_feed 33 = .ok (.invokevirtual 60, 3) := by decide +kernel
theorem dX4_feed_36 : decode cX4_feed 36 = .ok (.aload_n 0, 1) := by decide +kernel
theorem dX4_feed_37 : decode cX4_feed 37 = .ok (.aload_n 0, 1) := by decide +kernel
theorem dX4_feed_38 : decode cX4_feed 38 = .ok (.iload_n 1, 1) := by decide +kernel
theorem dX4_feed_39 : decode cX4_feed 39 = .ok (.iload_n 2, 1) := by decide +kernel
theorem dX4_feed_40 : decode cX4_feed 40 = .ok (.invokevirtual 94, 3) := by decide +kernel
theorem dX4_feed_43 : decode cX4_feed 43 = .ok (.invokevirtual 63, 3) := by decide +kernel
theorem dX4_feed_46 : decode cX4_feed 46 = .ok (.ireturn, 1) := by decide +kernel
set_option maxRecDepth 20000 in
theorem ggX4_feedSome_X4_in : GoodIn wsX4_feedSome wsX4_in := goodIn_r _ [13] (by decide +kernel) (by decide +kernel)
set_option maxRecDepth 20000 in
theorem gX4_feedSome_X4_in : GoodIn wsX4_feedSome (va_wsS RX4 40 yX4_in wsX4_in) := goodIn_app (goodIn_of _ (by decide +kernel)) ggX4_feedSome_X4_in
set_option maxRecDepth 20000 in
theorem ggX4_feedSome_X4_throwing : GoodIn wsX4_feedSome wsX4_throwing := goodIn_r _ [17, 18, 62, 63, 64, 65, 66, 67, 68, 69, 70, 71] (by decide +kernel) (by decide +kernel)
set_option maxRecDepth 20000 in
theorem gX4_feedSome_X4_throwing : GoodIn wsX4_feedSome (wsV RX4 56 RX4 yX4_throwing wsX4_throwing) := goodIn_app (goodIn_of _ (by decide +kernel)) ggX4_feedSome_X4_throwing
set_option maxRecDepth 20000 in
theorem ggX4_feedSome_X4_save : GoodIn wsX4_feedSome wsX4_save := goodIn_r _ [22, 23, 24, 3, 62, 63, 64, 65, 66, 67, 68, 69, 70, 71] (by decide +kernel) (by decide +kernel)
set_option maxRecDepth 20000 in
theorem gX4_feedSome_X4_save : GoodIn wsX4_feedSome (wsV RX4 60 RX4 yX4_save wsX4_save) := goodIn_app (goodIn_of _ (by decide +kernel)) ggX4_feedSome_X4_save
set_option maxRecDepth 20000 in
theorem ggX4_feedSome_X4_feeds : GoodIn wsX4_feedSome wsX4_feeds := goodIn_r _ [28, 3, 29, 30, 12, 31, 32, 33, 34, 35, 36, 37, 38, 39, 40, 41, 42, 43, 44, 45, 46, 47, 48, 49, 50, 51, 52, 53, 54, 55, 56, 57, 62, 63, 64, 65, 66, 67, 68, 69, 70, 71] (by decide +kernel) (by decide +kernel)
set_option maxRecDepth 20000 in
theorem gX4_feedSome_X4_feeds : GoodIn wsX4_feedSome (wsV RX4 94 RX4 yX4_feeds wsX4_feeds) := goodIn_app (goodIn_of _ (by decide +kernel)) ggX4_feedSome_X4_feeds
set_option maxRecDepth 20000 in
theorem ggX4_feedSome_X4_fine : GoodIn wsX4_feedSome wsX4_fine := goodIn_r _ [61, 18, 62, 63, 64, 65, 66, 67, 68, 69, 70, 71] (by decide +kernel) (by decide +kernel)
set_option maxRecDepth 20000 in
theorem gX4_feedSome_X4_fine : GoodIn wsX4_feedSome (wsV RX4 63 RX4 yX4_fine wsX4_fine) := goodIn_app (goodIn_of _ (by decide +kernel)) ggX4_feedSome_X4_fine
theorem dX4_feedSome_0 : decode cX4_feedSome 0 = .ok (.iload_n 1, 1) := by decide +kernel
theorem dX4_feedSome_1 : decode cX4_feedSome 1 = .ok (.i2l, 1) := by decide +kernel
theorem dX4_feedSome_2 : decode cX4_feedSome 2 = .ok (.lconst 0, 1) := by decide +kernel
theorem dX4_feedSome_3 : decode cX4_feedSome 3 = .ok (.ldc2_w 97, 3) := by decide +kernel
theorem dX4_feedSome_6 : decode cX4_feedSome 6 = .ok (.invokestatic 40, 3) := by decide +kernel
theorem dX4_feedSome_9 : decode cX4_feedSome 9 = .ok (.ifCond .eq 15, 3) := by decide +kernel
theorem dX4_feedSome_12 : decode cX4_feedSome 12 = .ok (.iload_n 2, 1) := by decide +kernel
theorem dX4_feedSome_13 : decode cX4_feedSome 13 = .ok (.i2l, 1) := by decide +kernel
theorem dX4_feedSome_14 : decode cX4_feedSome 14 = .ok (.lconst 0, 1) := by decide +kernel
theorem dX4_feedSome_15 : decode cX4_feedSome 15 = .ok (.ldc2_w 99, 3) := by decide +kernel
theorem dX4_feedSome_18 : decode cX4_feedSome 18 = .ok (.invokestatic 40, 3) := by decide +kernel
theorem dX4_feedSome_21 : decode cX4_feedSome 21 = .ok (.ifCond .ne 9, 3) := by decide +kernel
theorem dX4_feedSome_24 : decode cX4_feedSome 24 = .ok (.aload_n 0, 1) := by decide +kernel
theorem dX4_feedSome_25 : decode cX4_feedSome 25 = .ok (.iconst 1, 1) := by decide +kernel
theorem dX4_feedSome_26 : decode cX4_feedSome 26 = .ok (.invokevirtual 56, 3) := by decide +kernel
theorem dX4_feedSome_29 : decode cX4_feedSome 29 = .ok (.ireturn, 1) := by decide +kernel
theorem dX4_feedSome_30 : decode cX4_feedSome 30 = .ok (.aload_n 0, 1) := by decide +kernel
theorem dX4_feedSome_31 : decode cX4_feedSome 31 = .ok (.getfield 7, 3) := by decide +kernel
theorem dX4_feedSome_34 : decode cX4_feedSome 34 = .ok (.iconst 0, 1) := by decide +kernel
theorem dX4_feedSome_35 : decode cX4_feedSome 35 = .ok (.iaload, 1) := by decide +kernel
theorem dX4_feedSome_36 : decode cX4_feedSome 36 = .ok (.ifCond .ne 9, 3) := by decide +kernel
theorem dX4_feedSome_39 : decode cX4_feedSome 39 = .ok (.aload_n 0, 1) := by decide +kernel
theorem dX4_feedSome_40 : decode cX4_feedSome 40 = .ok (.iconst 2, 1) := by decide +kernel
theorem dX4_feedSome_41 : decode cX4_feedSome 41 = .ok (.invokevirtual 56, 3) := by decide +kernel
theorem dX4_feedSome_44 : decode cX4_feedSome 44 = .ok (.ireturn, 1) := by decide +kernel
theorem dX4_feedSome_45 : decode cX4_feedSome 45 = .ok (.aload_n 0, 1) := by decide +kernel
theorem dX4_feedSome_46 : decode cX4_feedSome 46 = .ok (.invokevirtual 60, 3) := by decide +kernel
theorem dX4_feedSome_49 : decode cX4_feedSome 49 = .ok (.iload_n 2, 1) := by decide +kernel
theorem dX4_feedSome_50 : decode cX4_feedSome 50 = .ok (.i2l, 1) := by decide +kernel
theorem dX4_feedSome_51 : decode cX4_feedSome 51 = .ok (.lstore_n 3, 1) := by decide +kernel
theorem dX4_feedSome_52 : decode cX4_feedSome 52 = .ok (.iconst 0, 1) := by decide +kernel
theorem dX4_feedSome_53 : decode cX4_feedSome 53 = .ok (.istore 5, 2) := by decide +kernel
theorem dX4_feedSome_55 : decode cX4_feedSome 55 = .ok (.iconst 0, 1) := by decide +kernel
theorem dX4_feedSome_56 : decode cX4_feedSome 56 = .ok (.istore 6, 2) := by decide +kernel
theorem dX4_feedSome_58 : decode cX4_feedSome 58 = .ok (.iload 6, 2) := by decide +kernel
theorem dX4_feedSome_60 : decode cX4_feedSome 60 = .ok (.iload_n 1, 1) := by decide +kernel
theorem dX4_feedSome_61 : decode cX4_feedSome 61 = .ok (.if_icmp .ge 69, 3) := by decide +kernel
theorem dX4_feedSome_64 : decode cX4_feedSome 64 = .ok (.ldc2_w 101, 3) := by decide +kernel
theorem dX4_feedSome_67 : decode cX4_feedSome 67 = .ok (.lload_n 3, 1) := by decide +kernel
theorem dX4_feedSome_68 : decode cX4_feedSome 68 = .ok (.lmul, 1) := by decide +kernel
theorem dX4_feedSome_69 : decode cX4_feedSome 69 = .ok (.ldc2_w 103, 3) := by decide +kernel
theorem dX4_feedSome_72 : decode cX4_feedSome 72 = .ok (.ladd, 1) := by decide +kernel
theorem dX4_feedSome_73 : decode cX4_feedSome 73 = .ok (.ldc2_w 105, 3) := by decide +kernel
theorem dX4_feedSome_76 : decode cX4_feedSome 76 = .ok (.lrem, 1) := by decide +kernel
theorem dX4_feedSome_77 : decode cX4_feedSome 77 = .ok (.lstore_n 3, 1) := by decide +kernel
theorem dX4_feedSome_78 : decode cX4_feedSome 78 = .ok (.aload_n 0, 1) := by decide +kernel
theorem dX4_feedSome_79 : decode cX4_feedSome 79 = .ok (.lload_n 3, 1) := by decide +kernel
theorem dX4_feedSome_80 : decode cX4_feedSome 80 = .ok (.ldc2_w 107, 3) := by decide +kernel
theorem dX4_feedSome_83 : decode cX4_feedSome 83 = .ok (.ldiv, 1) := by decide +kernel
theorem dX4_feedSome_84 : decode cX4_feedSome 84 = .ok (.aload_n 0, 1) := by decide +kernel
theorem dX4_feedSome_85 : decode cX4_feedSome 85 = .ok (.getfield 7, 3) := by decide +kernel
theorem dX4_feedSome_88 : decode cX4_feedSome 88 = .ok (.iconst 0, 1) := by decide +kernel
theorem dX4_feedSome_89 : decode cX4_feedSome 89 = .ok (.iaload, 1) := by decide +kernel
theorem dX4_feedSome_90 : decode cX4_feedSome 90 = .ok (.i2l, 1) := by decide +kernel
theorem dX4_feedSome_91 : decode cX4_feedSome 91 = .ok (.lrem, 1) := by decide +kernel
theorem dX4_feedSome_92 : decode cX4_feedSome 92 = .ok (.l2i, 1) := by decide +kernel
theorem dX4_feedSome_93 : decode cX4_feedSome 93 = .ok (.lload_n 3, 1) := by decide +kernel
theorem dX4_feedSome_94 : decode cX4_feedSome 94 = .ok (.ldc2_w 109, 3) := by decide +kernel
theorem dX4_feedSome_97 : decode cX4_feedSome 97 = .ok (.ldiv, 1) := by decide +kernel
theorem dX4_feedSome_98 : decode cX4_feedSome 98 = .ok (.ldc2_w 111, 3) := by decide +kernel
theorem dX4_feedSome_101 : decode cX4_feedSome 101 = .ok (.lrem, 1) := by decide +kernel
theorem dX4_feedSome_102 : decode cX4_feedSome 102 = .ok (.l2i, 1) := by decide +kernel
theorem dX4_feedSome_103 : decode cX4_feedSome 103 = .ok (.invokevirtual 94, 3) := by decide +kernel
theorem dX4_feedSome_106 : decode cX4_feedSome 106 = .ok (.istore 7, 2) := by decide +kernel
theorem dX4_feedSome_108 : decode cX4_feedSome 108 = .ok (.iload 5, 2) := by decide +kernel
theorem dX4_feedSome_110 : decode cX4_feedSome 110 = .ok (.iload 7, 2) := by decide +kernel
theorem dX4_feedSome_112 : decode cX4_feedSome 112 = .ok (.iconst (-1), 1) := by decide +kernel
theorem dX4_feedSome_113 : decode cX4_feedSome 113 = .ok (.if_icmp .ne 7, 3) := by decide +kernel
theorem dX4_feedSome_116 : decode cX4_feedSome 116 = .ok (.iconst 1, 1) := by decide +kernel
theorem dX4_feedSome_117 : decode cX4_feedSome 117 = .ok (.goto 4, 3) := by decide +kernel
theorem dX4_feedSome_120 : decode cX4_feedSome 120 = .ok (.iconst 0, 1) := by decide +kernel
theorem dX4_feedSome_121 : decode cX4_feedSome 121 = .ok (.iadd, 1) := by decide +kernel
theorem dX4_feedSome_122 : decode cX4_feedSome 122 = .ok (.istore 5, 2) := by decide +kernel
theorem dX4_feedSome_124 : decode cX4_feedSome 124 = .ok (.iinc 6 1, 3) := by decide +kernel
theorem dX4_feedSome_127 : decode cX4_feedSome 127 = .ok (.goto (-69), 3) := by decide +kernel
theorem dX4_feedSome_130 : decode cX4_feedSome 130 = .ok (.aload_n 0, 1) := by decide +kernel
theorem dX4_feedSome_131 : decode cX4_feedSome 131 = .ok (.iload 5, 2) := by decide +kernel
theorem dX4_feedSome_133 : decode cX4_feedSome 133 = .ok (.invokevirtual 63, 3) := by decide +kernel
theorem dX4_feedSome_136 : decode cX4_feedSome 136 = .ok (.ireturn, 1) := by decide +kernel
set_option maxRecDepth 20000 in
theorem ggX4_free_X4_isRail : GoodIn wsX4_free wsX4_isRail := goodIn_r _ [5, 6, 7, 8, 4, 9] (by decide +kernel) (by decide +kernel)
set_option maxRecDepth 20000 in
theorem gX4_free_X4_isRail : GoodIn wsX4_free (va_wsS RX4 52 yX4_isRail wsX4_isRail) := goodIn_app (goodIn_of _ (by decide +kernel)) ggX4_free_X4_isRail
set_option maxRecDepth 20000 in
theorem ggX4_free_X4_throwing : GoodIn wsX4_free wsX4_throwing := goodIn_r _ [13, 14, 46, 47, 48, 49, 50, 51, 52, 53, 54, 55] (by decide +kernel) (by decide +kernel)
set_option maxRecDepth 20000 in
theorem gX4_free_X4_throwing : GoodIn wsX4_free (wsV RX4 56 RX4 yX4_throwing wsX4_throwing) := goodIn_app (goodIn_of _ (by decide +kernel)) ggX4_free_X4_throwing
set_option maxRecDepth 20000 in
theorem ggX4_free_X4_ofRail : GoodIn wsX4_free wsX4_ofRail := goodIn_r _ [18, 1, 19, 20, 4, 21, 46, 47, 48, 49, 50, 51, 52, 53, 54, 55] (by decide +kernel) (by decide +kernel)
set_option maxRecDepth 20000 in
theorem gX4_free_X4_ofRail : GoodIn wsX4_free (wsV RX4 76 RX4 yX4_ofRail wsX4_ofRail) := goodIn_app (goodIn_of _ (by decide +kernel)) ggX4_free_X4_ofRail
set_option maxRecDepth 20000 in
theorem ggX4_free_X4_save : GoodIn wsX4_free wsX4_save := goodIn_r _ [25, 26, 27, 1, 46, 47, 48, 49, 50, 51, 52, 53, 54, 55] (by decide +kernel) (by decide +kernel)
set_option maxRecDepth 20000 in
theorem gX4_free_X4_save : GoodIn wsX4_free (wsV RX4 60 RX4 yX4_save wsX4_save) := goodIn_app (goodIn_of _ (by decide +kernel)) ggX4_free_X4_save
set_option maxRecDepth 20000 in
theorem ggX4_free_X4_inBag : GoodIn wsX4_free wsX4_inBag := goodIn_r _ [31, 1, 32, 33, 4, 34, 46, 47, 48, 49, 50, 51, 52, 53, 54, 55] (by decide +kernel) (by decide +kernel)
set_option maxRecDepth 20000 in
theorem gX4_free_X4_inBag : GoodIn wsX4_free (wsV RX4 85 RX4 yX4_inBag wsX4_inBag) := goodIn_app (goodIn_of _ (by decide +kernel)) ggX4_free_X4_inBag
set_option maxRecDepth 20000 in
theorem ggX4_free_X4_countAt : GoodIn wsX4_free wsX4_countAt := goodIn_r _ [34] (by decide +kernel) (by decide +kernel)
set_option maxRecDepth 20000 in
theorem gX4_free_X4_countAt : GoodIn wsX4_free (va_wsS RX4 79 yX4_countAt wsX4_countAt) := goodIn_app (goodIn_of _ (by decide +kernel)) ggX4_free_X4_countAt
set_option maxRecDepth 20000 in
theorem ggX4_free_X4_kindAt : GoodIn wsX4_free wsX4_kindAt := goodIn_r _ [37] (by decide +kernel) (by decide +kernel)
set_option maxRecDepth 20000 in
theorem gX4_free_X4_kindAt : GoodIn wsX4_free (va_wsS RX4 37 yX4_kindAt wsX4_kindAt) := goodIn_app (goodIn_of _ (by decide +kernel)) ggX4_free_X4_kindAt
set_option maxRecDepth 20000 in
theorem ggX4_free_X4_clears : GoodIn wsX4_free wsX4_clears := goodIn_r _ [41, 1, 19, 20, 4, 21, 46, 47, 48, 49, 50, 51, 52, 53, 54, 55] (by decide +kernel) (by decide +kernel)
set_option maxRecDepth 20000 in
theorem gX4_free_X4_clears : GoodIn wsX4_free (wsV RX4 26 RX4 yX4_clears wsX4_clears) := goodIn_app (goodIn_of _ (by decide +kernel)) ggX4_free_X4_clears
set_option maxRecDepth 20000 in
theorem ggX4_free_X4_fine : GoodIn wsX4_free wsX4_fine := goodIn_r _ [45, 14, 46, 47, 48, 49, 50, 51, 52, 53, 54, 55] (by decide +kernel) (by decide +kernel)
set_option maxRecDepth 20000 in
theorem gX4_free_X4_fine : GoodIn wsX4_free (wsV RX4 63 RX4 yX4_fine wsX4_fine) := goodIn_app (goodIn_of _ (by decide +kernel)) ggX4_free_X4_fine
theorem dX4_free_0 : decode cX4_free 0 = .ok (.iload_n 1, 1) := by decide +kernel
theorem dX4_free_1 : decode cX4_free 1 = .ok (.invokestatic 52, 3) := by decide +kernel
theorem dX4_free_4 : decode cX4_free 4 = .ok (.ifCond .ne 9, 3) := by decide +kernel
theorem dX4_free_7 : decode cX4_free 7 = .ok (.aload_n 0, 1) := by decide +kernel
theorem dX4_free_8 : decode cX4_free 8 = .ok (.iconst 1, 1) := by decide +kernel
theorem dX4_free_9 : decode cX4_free 9 = .ok (.invokevirtual 56, 3) := by decide +kernel
theorem dX4_free_12 : decode cX4_free 12 = .ok (.ireturn, 1) := by decide +kernel
theorem dX4_free_13 : decode cX4_free 13 = .ok (.aload_n 0, 1) := by decide +kernel
theorem dX4_free_14 : decode cX4_free 14 = .ok (.iload_n 1, 1) := by decide +kernel
theorem dX4_free_15 : decode cX4_free 15 = .ok (.iconst 2, 1) := by decide +kernel
theorem dX4_free_16 : decode cX4_free 16 = .ok (.invokevirtual 76, 3) := by decide +kernel
theorem dX4_free_19 : decode cX4_free 19 = .ok (.istore_n 2, 1) := by decide +kernel
theorem dX4_free_20 : decode cX4_free 20 = .ok (.iload_n 2, 1) := by decide +kernel
theorem dX4_free_21 : decode cX4_free 21 = .ok (.iconst (-1), 1) := by decide +kernel
theorem dX4_free_22 : decode cX4_free 22 = .ok (.if_icmp .ne 9, 3) := by decide +kernel
theorem dX4_free_25 : decode cX4_free 25 = .ok (.aload_n 0, 1) := by decide +kernel
theorem dX4_free_26 : decode cX4_free 26 = .ok (.iconst 2, 1) := by decide +kernel
theorem dX4_free_27 : decode cX4_free 27 = .ok (.invokevirtual 56, 3) := by decide +kernel
theorem dX4_free_30 : decode cX4_free 30 = .ok (.ireturn, 1) := by decide +kernel
theorem dX4_free_31 : decode cX4_free 31 = .ok (.aload_n 0, 1) := by decide +kernel
theorem dX4_free_32 : decode cX4_free 32 = .ok (.invokevirtual 60, 3) := by decide +kernel
theorem dX4_free_35 : decode cX4_free 35 = .ok (.aload_n 0, 1) := by decide +kernel
theorem dX4_free_36 : decode cX4_free 36 = .ok (.iload_n 1, 1) := by decide +kernel
theorem dX4_free_37 : decode cX4_free 37 = .ok (.invokevirtual 85, 3) := by decide +kernel
theorem dX4_free_40 : decode cX4_free 40 = .ok (.bipush 40, 2) := by decide +kernel
theorem dX4_free_42 : decode cX4_free 42 = .ok (.if_icmp .ge 20, 3) := by decide +kernel
theorem dX4_free_45 : decode cX4_free 45 = .ok (.aload_n 0, 1) := by decide +kernel
theorem dX4_free_46 : decode cX4_free 46 = .ok (.getfield 7, 3) := by decide +kernel
theorem dX4_free_49 : decode cX4_free 49 = .ok (.iload_n 1, 1) := by decide +kernel
theorem dX4_free_50 : decode cX4_free 50 = .ok (.iload_n 2, 1) := by decide +kernel
theorem dX4_free_51 : decode cX4_free 51 = .ok (.invokestatic 79, 3) := by decide +kernel
theorem dX4_free_54 : decode cX4_free 54 = .ok (.dup2, 1) := by decide +kernel
theorem dX4_free_55 : decode cX4_free 55 = .ok (.iaload, 1) := by decide +kernel
theorem dX4_free_56 : decode cX4_free 56 = .ok (.iconst 1, 1) := by decide +kernel
theorem dX4_free_57 : decode cX4_free 57 = .ok (.iadd, 1) := by decide +kernel
theorem dX4_free_58 : decode cX4_free 58 = .ok (.iastore, 1) := by decide +kernel
theorem dX4_free_59 : decode cX4_free 59 = .ok (.goto 17, 3) := by decide +kernel
theorem dX4_free_62 : decode cX4_free 62 = .ok (.aload_n 0, 1) := by decide +kernel
theorem dX4_free_63 : decode cX4_free 63 = .ok (.getfield 7, 3) := by decide +kernel
theorem dX4_free_66 : decode cX4_free 66 = .ok (.iload_n 2, 1) := by decide +kernel
theorem dX4_free_67 : decode cX4_free 67 = .ok (.iconst 4, 1) := by decide +kernel
theorem dX4_free_68 : decode cX4_free 68 = .ok (.invokestatic 37, 3) := by decide +kernel
theorem dX4_free_71 : decode cX4_free 71 = .ok (.dup2, 1) := by decide +kernel
theorem dX4_free_72 : decode cX4_free 72 = .ok (.iaload, 1) := by decide +kernel
theorem dX4_free_73 : decode cX4_free 73 = .ok (.iconst 1, 1) := by decide +kernel
theorem dX4_free_74 : decode cX4_free 74 = .ok (.iadd, 1) := by decide +kernel
theorem dX4_free_75 : decode cX4_free 75 = .ok (.iastore, 1) := by decide +kernel
theorem dX4_free_76 : decode cX4_free 76 = .ok (.aload_n 0, 1) := by decide +kernel
theorem dX4_free_77 : decode cX4_free 77 = .ok (.iload_n 1, 1) := by decide +kernel
theorem dX4_free_78 : decode cX4_free 78 = .ok (.invokevirtual 26, 3) := by decide +kernel
theorem dX4_free_81 : decode cX4_free 81 = .ok (.aload_n 0, 1) := by decide +kernel
theorem dX4_free_82 : decode cX4_free 82 = .ok (.iload_n 2, 1) := by decide +kernel
theorem dX4_free_83 : decode cX4_free 83 = .ok (.invokevirtual 63, 3) := by decide +kernel
theorem dX4_free_86 : decode cX4_free 86 = .ok (.ireturn, 1) := by decide +kernel
set_option maxRecDepth 20000 in
theorem ggX4_takeBag_X4_isRail : GoodIn wsX4_takeBag wsX4_isRail := goodIn_r _ [5, 6, 7, 8, 4, 9] (by decide +kernel) (by decide +kernel)
set_option maxRecDepth 20000 in
theorem gX4_takeBag_X4_isRail : GoodIn wsX4_takeBag (va_wsS RX4 52 yX4_isRail wsX4_isRail) := goodIn_app (goodIn_of _ (by decide +kernel)) ggX4_takeBag_X4_isRail
set_option maxRecDepth 20000 in
theorem ggX4_takeBag_X4_throwing : GoodIn wsX4_takeBag wsX4_throwing := goodIn_r _ [13, 14, 32, 33, 34, 35, 36, 37, 38, 39, 40, 41] (by decide +kernel) (by decide +kernel)
set_option maxRecDepth 20000 in
theorem gX4_takeBag_X4_throwing : GoodIn wsX4_takeBag (wsV RX4 56 RX4 yX4_throwing wsX4_throwing) := goodIn_app (goodIn_of _ (by decide +kernel)) ggX4_takeBag_X4_throwing
set_option maxRecDepth 20000 in
theorem ggX4_takeBag_X4_save : GoodIn wsX4_takeBag wsX4_save := goodIn_r _ [18, 19, 20, 1, 32, 33, 34, 35, 36, 37, 38, 39, 40, 41] (by decide +kernel) (by decide +kernel)
set_option maxRecDepth 20000 in
theorem gX4_takeBag_X4_save : GoodIn wsX4_takeBag (wsV RX4 60 RX4 yX4_save wsX4_save) := goodIn_app (goodIn_of _ (by decide +kernel)) ggX4_takeBag_X4_save
set_option maxRecDepth 20000 in
theorem ggX4_takeBag_X4_inBag : GoodIn wsX4_takeBag wsX4_inBag := goodIn_r _ [24, 1, 25, 26, 4, 27, 32, 33, 34, 35, 36, 37, 38, 39, 40, 41] (by decide +kernel) (by decide +kernel)
set_option maxRecDepth 20000 in
theorem gX4_takeBag_X4_inBag : GoodIn wsX4_takeBag (wsV RX4 85 RX4 yX4_inBag wsX4_inBag) := goodIn_app (goodIn_of _ (by decide +kernel)) ggX4_takeBag_X4_inBag
set_option maxRecDepth 20000 in
theorem ggX4_takeBag_X4_countAt : GoodIn wsX4_takeBag wsX4_countAt := goodIn_r _ [27] (by decide +kernel) (by decide +kernel)
set_option maxRecDepth 20000 in
theorem gX4_takeBag_X4_countAt : GoodIn wsX4_takeBag (va_wsS RX4 79 yX4_countAt wsX4_countAt) := goodIn_app (goodIn_of _ (by decide +kernel)) ggX4_takeBag_X4_countAt
set_option maxRecDepth 20000 in
theorem ggX4_takeBag_X4_fine : GoodIn wsX4_takeBag wsX4_fine := goodIn_r _ [31, 14, 32, 33, 34, 35, 36, 37, 38, 39, 40, 41] (by decide +kernel) (by decide +kernel)
set_option maxRecDepth 20000 in
theorem gX4_takeBag_X4_fine : GoodIn wsX4_takeBag (wsV RX4 63 RX4 yX4_fine wsX4_fine) := goodIn_app (goodIn_of _ (by decide +kernel)) ggX4_takeBag_X4_fine
theorem dX4_takeBag_0 : decode cX4_takeBag 0 = .ok (.iload_n 1, 1) := by decide +kernel
theorem dX4_takeBag_1 : decode cX4_takeBag 1 = .ok (.invokestatic 52, 3) := by decide +kernel
theorem dX4_takeBag_4 : decode cX4_takeBag 4 = .ok (.ifCond .ne 9, 3) := by decide +kernel
theorem dX4_takeBag_7 : decode cX4_takeBag 7 = .ok (.aload_n 0, 1) := by decide +kernel
theorem dX4_takeBag_8 : decode cX4_takeBag 8 = .ok (.iconst 1, 1) := by decide +kernel
theorem dX4_takeBag_9 : decode cX4_takeBag 9 = .ok (.invokevirtual 56, 3) := by decide +kernel
theorem dX4_takeBag_12 : decode cX4_takeBag 12 = .ok (.ireturn, 1) := by decide +kernel
theorem dX4_takeBag_13 : decode cX4_takeBag 13 = .ok (.aload_n 0, 1) := by decide +kernel
theorem dX4_takeBag_14 : decode cX4_takeBag 14 = .ok (.invokevirtual 60, 3) := by decide +kernel
theorem dX4_takeBag_17 : decode cX4_takeBag 17 = .ok (.aload_n 0, 1) := by decide +kernel
theorem dX4_takeBag_18 : decode cX4_takeBag 18 = .ok (.iload_n 1, 1) := by decide +kernel
theorem dX4_takeBag_19 : decode cX4_takeBag 19 = .ok (.invokevirtual 85, 3) := by decide +kernel
theorem dX4_takeBag_22 : decode cX4_takeBag 22 = .ok (.istore_n 2, 1) := by decide +kernel
theorem dX4_takeBag_23 : decode cX4_takeBag 23 = .ok (.aload_n 0, 1) := by decide +kernel
theorem dX4_takeBag_24 : decode cX4_takeBag 24 = .ok (.getfield 7, 3) := by decide +kernel
theorem dX4_takeBag_27 : decode cX4_takeBag 27 = .ok (.iconst 2, 1) := by decide +kernel
theorem dX4_takeBag_28 : decode cX4_takeBag 28 = .ok (.dup2, 1) := by decide +kernel
theorem dX4_takeBag_29 : decode cX4_takeBag 29 = .ok (.iaload, 1) := by decide +kernel
theorem dX4_takeBag_30 : decode cX4_takeBag 30 = .ok (.iload_n 2, 1) := by decide +kernel
theorem dX4_takeBag_31 : decode cX4_takeBag 31 = .ok (.iadd, 1) := by decide +kernel
theorem dX4_takeBag_32 : decode cX4_takeBag 32 = .ok (.iastore, 1) := by decide +kernel
theorem dX4_takeBag_33 : decode cX4_takeBag 33 = .ok (.iconst 0, 1) := by decide +kernel
theorem dX4_takeBag_34 : decode cX4_takeBag 34 = .ok (.istore_n 3, 1) := by decide +kernel
theorem dX4_takeBag_35 : decode cX4_takeBag 35 = .ok (.iload_n 3, 1) := by decide +kernel
theorem dX4_takeBag_36 : decode cX4_takeBag 36 = .ok (.bipush 6, 2) := by decide +kernel
theorem dX4_takeBag_38 : decode cX4_takeBag 38 = .ok (.if_icmp .ge 20, 3) := by decide +kernel
theorem dX4_takeBag_41 : decode cX4_takeBag 41 = .ok (.aload_n 0, 1) := by decide +kernel
theorem dX4_takeBag_42 : decode cX4_takeBag 42 = .ok (.getfield 7, 3) := by decide +kernel
theorem dX4_takeBag_45 : decode cX4_takeBag 45 = .ok (.iload_n 1, 1) := by decide +kernel
theorem dX4_takeBag_46 : decode cX4_takeBag 46 = .ok (.iload_n 3, 1) := by decide +kernel
theorem dX4_takeBag_47 : decode cX4_takeBag 47 = .ok (.invokestatic 79, 3) := by decide +kernel
theorem dX4_takeBag_50 : decode cX4_takeBag 50 = .ok (.iconst 0, 1) := by decide +kernel
theorem dX4_takeBag_51 : decode cX4_takeBag 51 = .ok (.iastore, 1) := by decide +kernel
theorem dX4_takeBag_52 : decode cX4_takeBag 52 = .ok (.iinc 3 1, 3) := by decide +kernel
theorem dX4_takeBag_55 : decode cX4_takeBag 55 = .ok (.goto (-20), 3) := by decide +kernel
theorem dX4_takeBag_58 : decode cX4_takeBag 58 = .ok (.aload_n 0, 1) := by decide +kernel
theorem dX4_takeBag_59 : decode cX4_takeBag 59 = .ok (.iload_n 2, 1) := by decide +kernel
theorem dX4_takeBag_60 : decode cX4_takeBag 60 = .ok (.invokevirtual 63, 3) := by decide +kernel
theorem dX4_takeBag_63 : decode cX4_takeBag 63 = .ok (.ireturn, 1) := by decide +kernel
set_option maxRecDepth 20000 in
theorem ggX4_rejects_X4_ofKind : GoodIn wsX4_rejects wsX4_ofKind := goodIn_r _ [6, 1, 7, 8, 5, 9, 10, 11, 12, 13, 14, 15, 16, 17, 18, 19] (by decide +kernel) (by decide +kernel)
set_option maxRecDepth 20000 in
theorem gX4_rejects_X4_ofKind : GoodIn wsX4_rejects (wsV RX4 69 RX4 yX4_ofKind wsX4_ofKind) := goodIn_app (goodIn_of _ (by decide +kernel)) ggX4_rejects_X4_ofKind
theorem dX4_rejects_0 : decode cX4_rejects 0 = .ok (.iconst 0, 1) := by decide +kernel
theorem dX4_rejects_1 : decode cX4_rejects 1 = .ok (.istore_n 1, 1) := by decide +kernel
theorem dX4_rejects_2 : decode cX4_rejects 2 = .ok (.iconst 0, 1) := by decide +kernel
theorem dX4_rejects_3 : decode cX4_rejects 3 = .ok (.istore_n 2, 1) := by decide +kernel
theorem dX4_rejects_4 : decode cX4_rejects 4 = .ok (.iload_n 2, 1) := by decide +kernel
theorem dX4_rejects_5 : decode cX4_rejects 5 = .ok (.aload_n 0, 1) := by decide +kernel
theorem dX4_rejects_6 : decode cX4_rejects 6 = .ok (.getfield 7, 3) := by decide +kernel
theorem dX4_rejects_9 : decode cX4_rejects 9 = .ok (.iconst 0, 1) := by decide +kernel
theorem dX4_rejects_10 : decode cX4_rejects 10 = .ok (.iaload, 1) := by decide +kernel
theorem dX4_rejects_11 : decode cX4_rejects 11 = .ok (.if_icmp .ge 18, 3) := by decide +kernel
theorem dX4_rejects_14 : decode cX4_rejects 14 = .ok (.iload_n 1, 1) := by decide +kernel
theorem dX4_rejects_15 : decode cX4_rejects 15 = .ok (.aload_n 0, 1) := by decide +kernel
theorem dX4_rejects_16 : decode cX4_rejects 16 = .ok (.iload_n 2, 1) := by decide +kernel
theorem dX4_rejects_17 : decode cX4_rejects 17 = .ok (.iconst 4, 1) := by decide +kernel
theorem dX4_rejects_18 : decode cX4_rejects 18 = .ok (.invokevirtual 69, 3) := by decide +kernel
theorem dX4_rejects_21 : decode cX4_rejects 21 = .ok (.iadd, 1) := by decide +kernel
theorem dX4_rejects_22 : decode cX4_rejects 22 = .ok (.istore_n 1, 1) := by decide +kernel
theorem dX4_rejects_23 : decode cX4_rejects 23 = .ok (.iinc 2 1, 3) := by decide +kernel
theorem dX4_rejects_26 : decode cX4_rejects 26 = .ok (.goto (-22), 3) := by decide +kernel
theorem dX4_rejects_29 : decode cX4_rejects 29 = .ok (.iload_n 1, 1) := by decide +kernel
theorem dX4_rejects_30 : decode cX4_rejects 30 = .ok (.ireturn, 1) := by decide +kernel
set_option maxRecDepth 20000 in
theorem ggX4_takeRejects_X4_save : GoodIn wsX4_takeRejects wsX4_save := goodIn_r _ [6, 7, 8, 1, 25, 26, 27, 28, 29, 30, 31, 32, 33, 34] (by decide +kernel) (by decide +kernel)
set_option maxRecDepth 20000 in
theorem gX4_takeRejects_X4_save : GoodIn wsX4_takeRejects (wsV RX4 60 RX4 yX4_save wsX4_save) := goodIn_app (goodIn_of _ (by decide +kernel)) ggX4_takeRejects_X4_save
set_option maxRecDepth 20000 in
theorem ggX4_takeRejects_X4_rejects : GoodIn wsX4_takeRejects wsX4_rejects := goodIn_r _ [12, 1, 13, 14, 15, 5, 16, 17, 18, 19, 25, 26, 27, 28, 29, 30, 31, 32, 33, 34] (by decide +kernel) (by decide +kernel)
set_option maxRecDepth 20000 in
theorem gX4_takeRejects_X4_rejects : GoodIn wsX4_takeRejects (wsV RX4 113 RX4 yX4_rejects wsX4_rejects) := goodIn_app (goodIn_of _ (by decide +kernel)) ggX4_takeRejects_X4_rejects
set_option maxRecDepth 20000 in
theorem ggX4_takeRejects_X4_kindAt : GoodIn wsX4_takeRejects wsX4_kindAt := goodIn_r _ [19] (by decide +kernel) (by decide +kernel)
set_option maxRecDepth 20000 in
theorem gX4_takeRejects_X4_kindAt : GoodIn wsX4_takeRejects (va_wsS RX4 37 yX4_kindAt wsX4_kindAt) := goodIn_app (goodIn_of _ (by decide +kernel)) ggX4_takeRejects_X4_kindAt
set_option maxRecDepth 20000 in
theorem ggX4_takeRejects_X4_fine : GoodIn wsX4_takeRejects wsX4_fine := goodIn_r _ [23, 24, 25, 26, 27, 28, 29, 30, 31, 32, 33, 34] (by decide +kernel) (by decide +kernel)
set_option maxRecDepth 20000 in
theorem gX4_takeRejects_X4_fine : GoodIn wsX4_takeRejects (wsV RX4 63 RX4 yX4_fine wsX4_fine) := goodIn_app (goodIn_of _ (by decide +kernel)) ggX4_takeRejects_X4_fine
theorem dX4_takeRejects_0 : decode cX4_takeRejects 0 = .ok (.aload_n 0, 1) := by decide +kernel
theorem dX4_takeRejects_1 : decode cX4_takeRejects 1 = .ok (.invokevirtual 60, 3) := by decide +kernel
theorem dX4_takeRejects_4 : decode cX4_takeRejects 4 = .ok (.aload_n 0, 1) := by decide +kernel
theorem dX4_takeRejects_5 : decode cX4_takeRejects 5 = .ok (.invokevirtual 113, 3) := by decide +kernel
theorem dX4_takeRejects_8 : decode cX4_takeRejects 8 = .ok (.istore_n 1, 1) := by decide +kernel
theorem dX4_takeRejects_9 : decode cX4_takeRejects 9 = .ok (.aload_n 0, 1) := by decide +kernel
theorem dX4_takeRejects_10 : decode cX4_takeRejects 10 = .ok (.getfield 7, 3) := by decide +kernel
theorem dX4_takeRejects_13 : decode cX4_takeRejects 13 = .ok (.iconst 2, 1) := by decide +kernel
theorem dX4_takeRejects_14 : decode cX4_takeRejects 14 = .ok (.dup2, 1) := by decide +kernel
theorem dX4_takeRejects_15 : decode cX4_takeRejects 15 = .ok (.iaload, 1) := by decide +kernel
theorem dX4_takeRejects_16 : decode cX4_takeRejects 16 = .ok (.iload_n 1, 1) := by decide +kernel
theorem dX4_takeRejects_17 : decode cX4_takeRejects 17 = .ok (.iadd, 1) := by decide +kernel
theorem dX4_takeRejects_18 : decode cX4_takeRejects 18 = .ok (.iastore, 1) := by decide +kernel
theorem dX4_takeRejects_19 : decode cX4_takeRejects 19 = .ok (.iconst 0, 1) := by decide +kernel
theorem dX4_takeRejects_20 : decode cX4_takeRejects 20 = .ok (.istore_n 2, 1) := by decide +kernel
theorem dX4_takeRejects_21 : decode cX4_takeRejects 21 = .ok (.iload_n 2, 1) := by decide +kernel
theorem dX4_takeRejects_22 : decode cX4_takeRejects 22 = .ok (.aload_n 0, 1) := by decide +kernel
theorem dX4_takeRejects_23 : decode cX4_takeRejects 23 = .ok (.getfield 7, 3) := by decide +kernel
theorem dX4_takeRejects_26 : decode cX4_takeRejects 26 = .ok (.iconst 0, 1) := by decide +kernel
theorem dX4_takeRejects_27 : decode cX4_takeRejects 27 = .ok (.iaload, 1) := by decide +kernel
theorem dX4_takeRejects_28 : decode cX4_takeRejects 28 = .ok (.if_icmp .ge 20, 3) := by decide +kernel
theorem dX4_takeRejects_31 : decode cX4_takeRejects 31 = .ok (.aload_n 0, 1) := by decide +kernel
theorem dX4_takeRejects_32 : decode cX4_takeRejects 32 = .ok (.getfield 7, 3) := by decide +kernel
theorem dX4_takeRejects_35 : decode cX4_takeRejects 35 = .ok (.iload_n 2, 1) := by decide +kernel
theorem dX4_takeRejects_36 : decode cX4_takeRejects 36 = .ok (.iconst 4, 1) := by decide +kernel
theorem dX4_takeRejects_37 : decode cX4_takeRejects 37 = .ok (.invokestatic 37, 3) := by decide +kernel
theorem dX4_takeRejects_40 : decode cX4_takeRejects 40 = .ok (.iconst 0, 1) := by decide +kernel
theorem dX4_takeRejects_41 : decode cX4_takeRejects 41 = .ok (.iastore, 1) := by decide +kernel
theorem dX4_takeRejects_42 : decode cX4_takeRejects 42 = .ok (.iinc 2 1, 3) := by decide +kernel
theorem dX4_takeRejects_45 : decode cX4_takeRejects 45 = .ok (.goto (-24), 3) := by decide +kernel
theorem dX4_takeRejects_48 : decode cX4_takeRejects 48 = .ok (.aload_n 0, 1) := by decide +kernel
theorem dX4_takeRejects_49 : decode cX4_takeRejects 49 = .ok (.iload_n 1, 1) := by decide +kernel
theorem dX4_takeRejects_50 : decode cX4_takeRejects 50 = .ok (.invokevirtual 63, 3) := by decide +kernel
theorem dX4_takeRejects_53 : decode cX4_takeRejects 53 = .ok (.ireturn, 1) := by decide +kernel
set_option maxRecDepth 20000 in
theorem ggX4_inBags_X4_countAt : GoodIn wsX4_inBags wsX4_countAt := goodIn_r _ [5] (by decide +kernel) (by decide +kernel)
set_option maxRecDepth 20000 in
theorem gX4_inBags_X4_countAt : GoodIn wsX4_inBags (va_wsS RX4 79 yX4_countAt wsX4_countAt) := goodIn_app (goodIn_of _ (by decide +kernel)) ggX4_inBags_X4_countAt
theorem dX4_inBags_0 : decode cX4_inBags 0 = .ok (.iconst 0, 1) := by decide +kernel
theorem dX4_inBags_1 : decode cX4_inBags 1 = .ok (.istore_n 2, 1) := by decide +kernel
theorem dX4_inBags_2 : decode cX4_inBags 2 = .ok (.iconst 0, 1) := by decide +kernel
theorem dX4_inBags_3 : decode cX4_inBags 3 = .ok (.istore_n 3, 1) := by decide +kernel
theorem dX4_inBags_4 : decode cX4_inBags 4 = .ok (.iload_n 3, 1) := by decide +kernel
theorem dX4_inBags_5 : decode cX4_inBags 5 = .ok (.bipush 6, 2) := by decide +kernel
theorem dX4_inBags_7 : decode cX4_inBags 7 = .ok (.if_icmp .ge 22, 3) := by decide +kernel
theorem dX4_inBags_10 : decode cX4_inBags 10 = .ok (.iload_n 2, 1) := by decide +kernel
theorem dX4_inBags_11 : decode cX4_inBags 11 = .ok (.aload_n 0, 1) := by decide +kernel
theorem dX4_inBags_12 : decode cX4_inBags 12 = .ok (.getfield 7, 3) := by decide +kernel
theorem dX4_inBags_15 : decode cX4_inBags 15 = .ok (.iload_n 3, 1) := by decide +kernel
theorem dX4_inBags_16 : decode cX4_inBags 16 = .ok (.iload_n 1, 1) := by decide +kernel
theorem dX4_inBags_17 : decode cX4_inBags 17 = .ok (.invokestatic 79, 3) := by decide +kernel
theorem dX4_inBags_20 : decode cX4_inBags 20 = .ok (.iaload, 1) := by decide +kernel
theorem dX4_inBags_21 : decode cX4_inBags 21 = .ok (.iadd, 1) := by decide +kernel
theorem dX4_inBags_22 : decode cX4_inBags 22 = .ok (.istore_n 2, 1) := by decide +kernel
theorem dX4_inBags_23 : decode cX4_inBags 23 = .ok (.iinc 3 1, 3) := by decide +kernel
theorem dX4_inBags_26 : decode cX4_inBags 26 = .ok (.goto (-22), 3) := by decide +kernel
theorem dX4_inBags_29 : decode cX4_inBags 29 = .ok (.iload_n 2, 1) := by decide +kernel
theorem dX4_inBags_30 : decode cX4_inBags 30 = .ok (.ireturn, 1) := by decide +kernel
set_option maxRecDepth 20000 in
theorem ggX4_stuckBy_X4_ofRail : GoodIn wsX4_stuckBy wsX4_ofRail := goodIn_r _ [5, 6, 7, 8, 4, 9, 10, 11, 12, 13, 14, 15, 16, 17, 18, 19] (by decide +kernel) (by decide +kernel)
set_option maxRecDepth 20000 in
theorem gX4_stuckBy_X4_ofRail : GoodIn wsX4_stuckBy (wsV RX4 76 RX4 yX4_ofRail wsX4_ofRail) := goodIn_app (goodIn_of _ (by decide +kernel)) ggX4_stuckBy_X4_ofRail
theorem dX4_stuckBy_0 : decode cX4_stuckBy 0 = .ok (.iconst 0, 1) := by decide +kernel
theorem dX4_stuckBy_1 : decode cX4_stuckBy 1 = .ok (.istore_n 2, 1) := by decide +kernel
theorem dX4_stuckBy_2 : decode cX4_stuckBy 2 = .ok (.iconst 0, 1) := by decide +kernel
theorem dX4_stuckBy_3 : decode cX4_stuckBy 3 = .ok (.istore_n 3, 1) := by decide +kernel
theorem dX4_stuckBy_4 : decode cX4_stuckBy 4 = .ok (.iload_n 3, 1) := by decide +kernel
theorem dX4_stuckBy_5 : decode cX4_stuckBy 5 = .ok (.bipush 6, 2) := by decide +kernel
theorem dX4_stuckBy_7 : decode cX4_stuckBy 7 = .ok (.if_icmp .ge 42, 3) := by decide +kernel
theorem dX4_stuckBy_10 : decode cX4_stuckBy 10 = .ok (.aload_n 0, 1) := by decide +kernel
theorem dX4_stuckBy_11 : decode cX4_stuckBy 11 = .ok (.iload_n 3, 1) := by decide +kernel
theorem dX4_stuckBy_12 : decode cX4_stuckBy 12 = .ok (.iconst 2, 1) := by decide +kernel
theorem dX4_stuckBy_13 : decode cX4_stuckBy 13 = .ok (.invokevirtual 76, 3) := by decide +kernel
theorem dX4_stuckBy_16 : decode cX4_stuckBy 16 = .ok (.istore 4, 2) := by decide +kernel
theorem dX4_stuckBy_18 : decode cX4_stuckBy 18 = .ok (.iload_n 2, 1) := by decide +kernel
theorem dX4_stuckBy_19 : decode cX4_stuckBy 19 = .ok (.iload 4, 2) := by decide +kernel
theorem dX4_stuckBy_21 : decode cX4_stuckBy 21 = .ok (.iconst (-1), 1) := by decide +kernel
theorem dX4_stuckBy_22 : decode cX4_stuckBy 22 = .ok (.if_icmp .eq 18, 3) := by decide +kernel
theorem dX4_stuckBy_25 : decode cX4_stuckBy 25 = .ok (.iload_n 1, 1) := by decide +kernel
theorem dX4_stuckBy_26 : decode cX4_stuckBy 26 = .ok (.iconst (-1), 1) := by decide +kernel
theorem dX4_stuckBy_27 : decode cX4_stuckBy 27 = .ok (.if_icmp .eq 9, 3) := by decide +kernel
theorem dX4_stuckBy_30 : decode cX4_stuckBy 30 = .ok (.iload 4, 2) := by decide +kernel
theorem dX4_stuckBy_32 : decode cX4_stuckBy 32 = .ok (.iload_n 1, 1) := by decide +kernel
theorem dX4_stuckBy_33 : decode cX4_stuckBy 33 = .ok (.if_icmp .ne 7, 3) := by decide +kernel
theorem dX4_stuckBy_36 : decode cX4_stuckBy 36 = .ok (.iconst 1, 1) := by decide +kernel
theorem dX4_stuckBy_37 : decode cX4_stuckBy 37 = .ok (.goto 4, 3) := by decide +kernel
theorem dX4_stuckBy_40 : decode cX4_stuckBy 40 = .ok (.iconst 0, 1) := by decide +kernel
theorem dX4_stuckBy_41 : decode cX4_stuckBy 41 = .ok (.iadd, 1) := by decide +kernel
theorem dX4_stuckBy_42 : decode cX4_stuckBy 42 = .ok (.istore_n 2, 1) := by decide +kernel
theorem dX4_stuckBy_43 : decode cX4_stuckBy 43 = .ok (.iinc 3 1, 3) := by decide +kernel
theorem dX4_stuckBy_46 : decode cX4_stuckBy 46 = .ok (.goto (-42), 3) := by decide +kernel
theorem dX4_stuckBy_49 : decode cX4_stuckBy 49 = .ok (.iload_n 2, 1) := by decide +kernel
theorem dX4_stuckBy_50 : decode cX4_stuckBy 50 = .ok (.ireturn, 1) := by decide +kernel
set_option maxRecDepth 20000 in
theorem ggX4_kindOf_X4_inBags : GoodIn wsX4_kindOf wsX4_inBags := goodIn_r _ [5, 6, 7, 8, 4, 9, 28, 29, 30, 31, 32, 33, 34, 35, 36, 37] (by decide +kernel) (by decide +kernel)
set_option maxRecDepth 20000 in
theorem gX4_kindOf_X4_inBags : GoodIn wsX4_kindOf (wsV RX4 117 RX4 yX4_inBags wsX4_inBags) := goodIn_app (goodIn_of _ (by decide +kernel)) ggX4_kindOf_X4_inBags
set_option maxRecDepth 20000 in
theorem ggX4_kindOf_X4_stuckBy : GoodIn wsX4_kindOf wsX4_stuckBy := goodIn_r _ [13, 14, 15, 16, 4, 17, 6, 18, 19, 20, 28, 29, 30, 31, 32, 33, 34, 35, 36, 37] (by decide +kernel) (by decide +kernel)
set_option maxRecDepth 20000 in
theorem gX4_kindOf_X4_stuckBy : GoodIn wsX4_kindOf (wsV RX4 120 RX4 yX4_stuckBy wsX4_stuckBy) := goodIn_app (goodIn_of _ (by decide +kernel)) ggX4_kindOf_X4_stuckBy
set_option maxRecDepth 20000 in
theorem ggX4_kindOf_X4_ofKind : GoodIn wsX4_kindOf wsX4_ofKind := goodIn_r _ [24, 6, 25, 26, 4, 27, 28, 29, 30, 31, 32, 33, 34, 35, 36, 37] (by decide +kernel) (by decide +kernel)
set_option maxRecDepth 20000 in
theorem gX4_kindOf_X4_ofKind : GoodIn wsX4_kindOf (wsV RX4 69 RX4 yX4_ofKind wsX4_ofKind) := goodIn_app (goodIn_of _ (by decide +kernel)) ggX4_kindOf_X4_ofKind
theorem dX4_kindOf_0 : decode cX4_kindOf 0 = .ok (.iload_n 2, 1) := by decide +kernel
theorem dX4_kindOf_1 : decode cX4_kindOf 1 = .ok (.tableswitch 57 3 6 #[31, 37, 43, 50], 31) := by decide +kernel
theorem dX4_kindOf_32 : decode cX4_kindOf 32 = .ok (.aload_n 0, 1) := by decide +kernel
theorem dX4_kindOf_33 : decode cX4_kindOf 33 = .ok (.iload_n 1, 1) := by decide +kernel
theorem dX4_kindOf_34 : decode cX4_kindOf 34 = .ok (.invokevirtual 117, 3) := by decide +kernel
theorem dX4_kindOf_37 : decode cX4_kindOf 37 = .ok (.ireturn, 1) := by decide +kernel
theorem dX4_kindOf_38 : decode cX4_kindOf 38 = .ok (.aload_n 0, 1) := by decide +kernel
theorem dX4_kindOf_39 : decode cX4_kindOf 39 = .ok (.iload_n 1, 1) := by decide +kernel
theorem dX4_kindOf_40 : decode cX4_kindOf 40 = .ok (.invokevirtual 120, 3) := by decide +kernel
theorem dX4_kindOf_43 : decode cX4_kindOf 43 = .ok (.ireturn, 1) := by decide +kernel
theorem dX4_kindOf_44 : decode cX4_kindOf 44 = .ok (.aload_n 0, 1) := by decide +kernel
theorem dX4_kindOf_45 : decode cX4_kindOf 45 = .ok (.iload_n 1, 1) := by decide +kernel
theorem dX4_kindOf_46 : decode cX4_kindOf 46 = .ok (.iconst 4, 1) := by decide +kernel
theorem dX4_kindOf_47 : decode cX4_kindOf 47 = .ok (.invokevirtual 69, 3) := by decide +kernel
theorem dX4_kindOf_50 : decode cX4_kindOf 50 = .ok (.ireturn, 1) := by decide +kernel
theorem dX4_kindOf_51 : decode cX4_kindOf 51 = .ok (.aload_n 0, 1) := by decide +kernel
theorem dX4_kindOf_52 : decode cX4_kindOf 52 = .ok (.iload_n 1, 1) := by decide +kernel
theorem dX4_kindOf_53 : decode cX4_kindOf 53 = .ok (.iconst 3, 1) := by decide +kernel
theorem dX4_kindOf_54 : decode cX4_kindOf 54 = .ok (.invokevirtual 69, 3) := by decide +kernel
theorem dX4_kindOf_57 : decode cX4_kindOf 57 = .ok (.ireturn, 1) := by decide +kernel
theorem dX4_kindOf_58 : decode cX4_kindOf 58 = .ok (.aload_n 0, 1) := by decide +kernel
theorem dX4_kindOf_59 : decode cX4_kindOf 59 = .ok (.iload_n 1, 1) := by decide +kernel
theorem dX4_kindOf_60 : decode cX4_kindOf 60 = .ok (.iload_n 2, 1) := by decide +kernel
theorem dX4_kindOf_61 : decode cX4_kindOf 61 = .ok (.invokevirtual 69, 3) := by decide +kernel
theorem dX4_kindOf_64 : decode cX4_kindOf 64 = .ok (.ireturn, 1) := by decide +kernel
set_option maxRecDepth 20000 in
theorem ggX4_kind_X4_isKind : GoodIn wsX4_kind wsX4_isKind := goodIn_r _ [6, 7, 8, 9, 5, 10, 49, 50, 51, 52, 53, 54, 55, 56, 57, 58] (by decide +kernel) (by decide +kernel)
set_option maxRecDepth 20000 in
theorem gX4_kind_X4_isKind : GoodIn wsX4_kind (wsV RX4 66 RX4 yX4_isKind wsX4_isKind) := goodIn_app (goodIn_of _ (by decide +kernel)) ggX4_kind_X4_isKind
set_option maxRecDepth 20000 in
theorem ggX4_kind_X4_throwing : GoodIn wsX4_kind wsX4_throwing := goodIn_r _ [14, 15, 49, 50, 51, 52, 53, 54, 55, 56, 57, 58] (by decide +kernel) (by decide +kernel)
set_option maxRecDepth 20000 in
theorem gX4_kind_X4_throwing : GoodIn wsX4_kind (wsV RX4 56 RX4 yX4_throwing wsX4_throwing) := goodIn_app (goodIn_of _ (by decide +kernel)) ggX4_kind_X4_throwing
set_option maxRecDepth 20000 in
theorem ggX4_kind_X4_in : GoodIn wsX4_kind wsX4_in := goodIn_r _ [10] (by decide +kernel) (by decide +kernel)
set_option maxRecDepth 20000 in
theorem gX4_kind_X4_in : GoodIn wsX4_kind (va_wsS RX4 40 yX4_in wsX4_in) := goodIn_app (goodIn_of _ (by decide +kernel)) ggX4_kind_X4_in
set_option maxRecDepth 20000 in
theorem ggX4_kind_X4_kindOf : GoodIn wsX4_kind wsX4_kindOf := goodIn_r _ [19, 20, 21, 22, 5, 23, 7, 24, 25, 26, 27, 28, 29, 30, 31, 32, 33, 34, 35, 36, 37, 38, 39, 40, 41, 42, 43, 44, 49, 50, 51, 52, 53, 54, 55, 56, 57, 58] (by decide +kernel) (by decide +kernel)
set_option maxRecDepth 20000 in
theorem gX4_kind_X4_kindOf : GoodIn wsX4_kind (wsV RX4 125 RX4 yX4_kindOf wsX4_kindOf) := goodIn_app (goodIn_of _ (by decide +kernel)) ggX4_kind_X4_kindOf
set_option maxRecDepth 20000 in
theorem ggX4_kind_X4_fine : GoodIn wsX4_kind wsX4_fine := goodIn_r _ [48, 15, 49, 50, 51, 52, 53, 54, 55, 56, 57, 58] (by decide +kernel) (by decide +kernel)
set_option maxRecDepth 20000 in
theorem gX4_kind_X4_fine : GoodIn wsX4_kind (wsV RX4 63 RX4 yX4_fine wsX4_fine) := goodIn_app (goodIn_of _ (by decide +kernel)) ggX4_kind_X4_fine
theorem dX4_kind_0 : decode cX4_kind 0 = .ok (.aload_n 0, 1) := by decide +kernel
theorem dX4_kind_1 : decode cX4_kind 1 = .ok (.iload_n 1, 1) := by decide +kernel
theorem dX4_kind_2 : decode cX4_kind 2 = .ok (.invokevirtual 66, 3) := by decide +kernel
theorem dX4_kind_5 : decode cX4_kind 5 = .ok (.ifCond .ne 9, 3) := by decide +kernel
theorem dX4_kind_8 : decode cX4_kind 8 = .ok (.aload_n 0, 1) := by decide +kernel
theorem dX4_kind_9 : decode cX4_kind 9 = .ok (.iconst 1, 1) := by decide +kernel
theorem dX4_kind_10 : decode cX4_kind 10 = .ok (.invokevirtual 56, 3) := by decide +kernel
theorem dX4_kind_13 : decode cX4_kind 13 = .ok (.ireturn, 1) := by decide +kernel
theorem dX4_kind_14 : decode cX4_kind 14 = .ok (.iload_n 2, 1) := by decide +kernel
theorem dX4_kind_15 : decode cX4_kind 15 = .ok (.i2l, 1) := by decide +kernel
theorem dX4_kind_16 : decode cX4_kind 16 = .ok (.lconst 0, 1) := by decide +kernel
theorem dX4_kind_17 : decode cX4_kind 17 = .ok (.ldc2_w 123, 3) := by decide +kernel
theorem dX4_kind_20 : decode cX4_kind 20 = .ok (.invokestatic 40, 3) := by decide +kernel
theorem dX4_kind_23 : decode cX4_kind 23 = .ok (.ifCond .eq 16, 3) := by decide +kernel
theorem dX4_kind_26 : decode cX4_kind 26 = .ok (.aload_n 0, 1) := by decide +kernel
theorem dX4_kind_27 : decode cX4_kind 27 = .ok (.aload_n 0, 1) := by decide +kernel
theorem dX4_kind_28 : decode cX4_kind 28 = .ok (.iload_n 1, 1) := by decide +kernel
theorem dX4_kind_29 : decode cX4_kind 29 = .ok (.iload_n 2, 1) := by decide +kernel
theorem dX4_kind_30 : decode cX4_kind 30 = .ok (.invokevirtual 125, 3) := by decide +kernel
theorem dX4_kind_33 : decode cX4_kind 33 = .ok (.invokevirtual 63, 3) := by decide +kernel
theorem dX4_kind_36 : decode cX4_kind 36 = .ok (.goto 8, 3) := by decide +kernel
theorem dX4_kind_39 : decode cX4_kind 39 = .ok (.aload_n 0, 1) := by decide +kernel
theorem dX4_kind_40 : decode cX4_kind 40 = .ok (.iconst 2, 1) := by decide +kernel
theorem dX4_kind_41 : decode cX4_kind 41 = .ok (.invokevirtual 56, 3) := by decide +kernel
theorem dX4_kind_44 : decode cX4_kind 44 = .ok (.ireturn, 1) := by decide +kernel
set_option maxRecDepth 20000 in
theorem ggX4_due_X4_ofKind : GoodIn wsX4_due wsX4_ofKind := goodIn_r _ [6, 1, 7, 8, 5, 9, 10, 11, 12, 13, 14, 15, 16, 17, 18, 19] (by decide +kernel) (by decide +kernel)
set_option maxRecDepth 20000 in
theorem gX4_due_X4_ofKind : GoodIn wsX4_due (wsV RX4 69 RX4 yX4_ofKind wsX4_ofKind) := goodIn_app (goodIn_of _ (by decide +kernel)) ggX4_due_X4_ofKind
theorem dX4_due_0 : decode cX4_due 0 = .ok (.iconst (-1), 1) := by decide +kernel
theorem dX4_due_1 : decode cX4_due 1 = .ok (.istore_n 2, 1) := by decide +kernel
theorem dX4_due_2 : decode cX4_due 2 = .ok (.aload_n 0, 1) := by decide +kernel
theorem dX4_due_3 : decode cX4_due 3 = .ok (.getfield 7, 3) := by decide +kernel
theorem dX4_due_6 : decode cX4_due 6 = .ok (.iconst 0, 1) := by decide +kernel
theorem dX4_due_7 : decode cX4_due 7 = .ok (.iaload, 1) := by decide +kernel
theorem dX4_due_8 : decode cX4_due 8 = .ok (.iconst 1, 1) := by decide +kernel
theorem dX4_due_9 : decode cX4_due 9 = .ok (.isub, 1) := by decide +kernel
theorem dX4_due_10 : decode cX4_due 10 = .ok (.istore_n 3, 1) := by decide +kernel
theorem dX4_due_11 : decode cX4_due 11 = .ok (.iload_n 3, 1) := by decide +kernel
theorem dX4_due_12 : decode cX4_due 12 = .ok (.ifCond .lt 25, 3) := by decide +kernel
theorem dX4_due_15 : decode cX4_due 15 = .ok (.aload_n 0, 1) := by decide +kernel
theorem dX4_due_16 : decode cX4_due 16 = .ok (.iload_n 3, 1) := by decide +kernel
theorem dX4_due_17 : decode cX4_due 17 = .ok (.iconst 2, 1) := by decide +kernel
theorem dX4_due_18 : decode cX4_due 18 = .ok (.invokevirtual 69, 3) := by decide +kernel
theorem dX4_due_21 : decode cX4_due 21 = .ok (.iload_n 1, 1) := by decide +kernel
theorem dX4_due_22 : decode cX4_due 22 = .ok (.if_icmp .ne 7, 3) := by decide +kernel
theorem dX4_due_25 : decode cX4_due 25 = .ok (.iload_n 3, 1) := by decide +kernel
theorem dX4_due_26 : decode cX4_due 26 = .ok (.goto 4, 3) := by decide +kernel
theorem dX4_due_29 : decode cX4_due 29 = .ok (.iload_n 2, 1) := by decide +kernel
theorem dX4_due_30 : decode cX4_due 30 = .ok (.istore_n 2, 1) := by decide +kernel
theorem dX4_due_31 : decode cX4_due 31 = .ok (.iinc 3 (-1), 3) := by decide +kernel
theorem dX4_due_34 : decode cX4_due 34 = .ok (.goto (-23), 3) := by decide +kernel
theorem dX4_due_37 : decode cX4_due 37 = .ok (.iload_n 2, 1) := by decide +kernel
theorem dX4_due_38 : decode cX4_due 38 = .ok (.ireturn, 1) := by decide +kernel
set_option maxRecDepth 20000 in
theorem ggX4_taken_X4_due : GoodIn wsX4_taken wsX4_due := goodIn_r _ [5, 6, 7, 8, 9, 4, 10, 11, 12, 13, 21, 22, 23, 24, 25, 26, 27, 28, 29, 30] (by decide +kernel) (by decide +kernel)
set_option maxRecDepth 20000 in
theorem gX4_taken_X4_due : GoodIn wsX4_taken (wsV RX4 128 RX4 yX4_due wsX4_due) := goodIn_app (goodIn_of _ (by decide +kernel)) ggX4_taken_X4_due
set_option maxRecDepth 20000 in
theorem ggX4_taken_X4_inBag : GoodIn wsX4_taken wsX4_inBag := goodIn_r _ [17, 6, 18, 19, 4, 20, 21, 22, 23, 24, 25, 26, 27, 28, 29, 30] (by decide +kernel) (by decide +kernel)
set_option maxRecDepth 20000 in
theorem gX4_taken_X4_inBag : GoodIn wsX4_taken (wsV RX4 85 RX4 yX4_inBag wsX4_inBag) := goodIn_app (goodIn_of _ (by decide +kernel)) ggX4_taken_X4_inBag
set_option maxRecDepth 20000 in
theorem ggX4_taken_X4_ofKind : GoodIn wsX4_taken wsX4_ofKind := goodIn_r _ [10, 6, 11, 12, 4, 13, 21, 22, 23, 24, 25, 26, 27, 28, 29, 30] (by decide +kernel) (by decide +kernel)
set_option maxRecDepth 20000 in
theorem gX4_taken_X4_ofKind : GoodIn wsX4_taken (wsV RX4 69 RX4 yX4_ofKind wsX4_ofKind) := goodIn_app (goodIn_of _ (by decide +kernel)) ggX4_taken_X4_ofKind
theorem dX4_taken_0 : decode cX4_taken 0 = .ok (.aload_n 0, 1) := by decide +kernel
theorem dX4_taken_1 : decode cX4_taken 1 = .ok (.iload_n 1, 1) := by decide +kernel
theorem dX4_taken_2 : decode cX4_taken 2 = .ok (.invokevirtual 128, 3) := by decide +kernel
theorem dX4_taken_5 : decode cX4_taken 5 = .ok (.istore_n 2, 1) := by decide +kernel
theorem dX4_taken_6 : decode cX4_taken 6 = .ok (.iload_n 2, 1) := by decide +kernel
theorem dX4_taken_7 : decode cX4_taken 7 = .ok (.iconst (-1), 1) := by decide +kernel
theorem dX4_taken_8 : decode cX4_taken 8 = .ok (.if_icmp .ne 7, 3) := by decide +kernel
theorem dX4_taken_11 : decode cX4_taken 11 = .ok (.iconst 0, 1) := by decide +kernel
theorem dX4_taken_12 : decode cX4_taken 12 = .ok (.goto 15, 3) := by decide +kernel
theorem dX4_taken_15 : decode cX4_taken 15 = .ok (.aload_n 0, 1) := by decide +kernel
theorem dX4_taken_16 : decode cX4_taken 16 = .ok (.iload_n 1, 1) := by decide +kernel
theorem dX4_taken_17 : decode cX4_taken 17 = .ok (.invokevirtual 85, 3) := by decide +kernel
theorem dX4_taken_20 : decode cX4_taken 20 = .ok (.aload_n 0, 1) := by decide +kernel
theorem dX4_taken_21 : decode cX4_taken 21 = .ok (.iload_n 2, 1) := by decide +kernel
theorem dX4_taken_22 : decode cX4_taken 22 = .ok (.iconst 1, 1) := by decide +kernel
theorem dX4_taken_23 : decode cX4_taken 23 = .ok (.invokevirtual 69, 3) := by decide +kernel
theorem dX4_taken_26 : decode cX4_taken 26 = .ok (.imul, 1) := by decide +kernel
theorem dX4_taken_27 : decode cX4_taken 27 = .ok (.ireturn, 1) := by decide +kernel
set_option maxRecDepth 20000 in
theorem ggX4_worth_X4_countAt : GoodIn wsX4_worth wsX4_countAt := goodIn_r _ [5] (by decide +kernel) (by decide +kernel)
set_option maxRecDepth 20000 in
theorem gX4_worth_X4_countAt : GoodIn wsX4_worth (va_wsS RX4 79 yX4_countAt wsX4_countAt) := goodIn_app (goodIn_of _ (by decide +kernel)) ggX4_worth_X4_countAt
set_option maxRecDepth 20000 in
theorem ggX4_worth_X4_ofKind : GoodIn wsX4_worth wsX4_ofKind := goodIn_r _ [9, 1, 10, 11, 4, 12, 13, 14, 15, 16, 17, 18, 19, 20, 21, 22] (by decide +kernel) (by decide +kernel)
set_option maxRecDepth 20000 in
theorem gX4_worth_X4_ofKind : GoodIn wsX4_worth (wsV RX4 69 RX4 yX4_ofKind wsX4_ofKind) := goodIn_app (goodIn_of _ (by decide +kernel)) ggX4_worth_X4_ofKind
theorem dX4_worth_0 : decode cX4_worth 0 = .ok (.iconst 0, 1) := by decide +kernel
theorem dX4_worth_1 : decode cX4_worth 1 = .ok (.istore_n 2, 1) := by decide +kernel
theorem dX4_worth_2 : decode cX4_worth 2 = .ok (.iconst 0, 1) := by decide +kernel
theorem dX4_worth_3 : decode cX4_worth 3 = .ok (.istore_n 3, 1) := by decide +kernel
theorem dX4_worth_4 : decode cX4_worth 4 = .ok (.iload_n 3, 1) := by decide +kernel
theorem dX4_worth_5 : decode cX4_worth 5 = .ok (.aload_n 0, 1) := by decide +kernel
theorem dX4_worth_6 : decode cX4_worth 6 = .ok (.getfield 7, 3) := by decide +kernel
theorem dX4_worth_9 : decode cX4_worth 9 = .ok (.iconst 0, 1) := by decide +kernel
theorem dX4_worth_10 : decode cX4_worth 10 = .ok (.iaload, 1) := by decide +kernel
theorem dX4_worth_11 : decode cX4_worth 11 = .ok (.if_icmp .ge 29, 3) := by decide +kernel
theorem dX4_worth_14 : decode cX4_worth 14 = .ok (.iload_n 2, 1) := by decide +kernel
theorem dX4_worth_15 : decode cX4_worth 15 = .ok (.aload_n 0, 1) := by decide +kernel
theorem dX4_worth_16 : decode cX4_worth 16 = .ok (.getfield 7, 3) := by decide +kernel
theorem dX4_worth_19 : decode cX4_worth 19 = .ok (.iload_n 1, 1) := by decide +kernel
theorem dX4_worth_20 : decode cX4_worth 20 = .ok (.iload_n 3, 1) := by decide +kernel
theorem dX4_worth_21 : decode cX4_worth 21 = .ok (.invokestatic 79, 3) := by decide +kernel
theorem dX4_worth_24 : decode cX4_worth 24 = .ok (.iaload, 1) := by decide +kernel
theorem dX4_worth_25 : decode cX4_worth 25 = .ok (.aload_n 0, 1) := by decide +kernel
theorem dX4_worth_26 : decode cX4_worth 26 = .ok (.iload_n 3, 1) := by decide +kernel
theorem dX4_worth_27 : decode cX4_worth 27 = .ok (.iconst 1, 1) := by decide +kernel
theorem dX4_worth_28 : decode cX4_worth 28 = .ok (.invokevirtual 69, 3) := by decide +kernel
theorem dX4_worth_31 : decode cX4_worth 31 = .ok (.imul, 1) := by decide +kernel
theorem dX4_worth_32 : decode cX4_worth 32 = .ok (.iadd, 1) := by decide +kernel
theorem dX4_worth_33 : decode cX4_worth 33 = .ok (.istore_n 2, 1) := by decide +kernel
theorem dX4_worth_34 : decode cX4_worth 34 = .ok (.iinc 3 1, 3) := by decide +kernel
theorem dX4_worth_37 : decode cX4_worth 37 = .ok (.goto (-33), 3) := by decide +kernel
theorem dX4_worth_40 : decode cX4_worth 40 = .ok (.iload_n 2, 1) := by decide +kernel
theorem dX4_worth_41 : decode cX4_worth 41 = .ok (.ireturn, 1) := by decide +kernel
set_option maxRecDepth 20000 in
theorem ggX4_misfits_X4_ofKind : GoodIn wsX4_misfits wsX4_ofKind := goodIn_r _ [6, 1, 7, 8, 5, 9, 13, 14, 15, 16, 17, 18, 19, 20, 21, 22] (by decide +kernel) (by decide +kernel)
set_option maxRecDepth 20000 in
theorem gX4_misfits_X4_ofKind : GoodIn wsX4_misfits (wsV RX4 69 RX4 yX4_ofKind wsX4_ofKind) := goodIn_app (goodIn_of _ (by decide +kernel)) ggX4_misfits_X4_ofKind
set_option maxRecDepth 20000 in
theorem ggX4_misfits_X4_countAt : GoodIn wsX4_misfits wsX4_countAt := goodIn_r _ [12] (by decide +kernel) (by decide +kernel)
set_option maxRecDepth 20000 in
theorem gX4_misfits_X4_countAt : GoodIn wsX4_misfits (va_wsS RX4 79 yX4_countAt wsX4_countAt) := goodIn_app (goodIn_of _ (by decide +kernel)) ggX4_misfits_X4_countAt
theorem dX4_misfits_0 : decode cX4_misfits 0 = .ok (.iconst 0, 1) := by decide +kernel
