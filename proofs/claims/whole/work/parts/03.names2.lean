theorem dX2_supposedWorth_16 : decode cX2_supposedWorth 16 = .ok (.iload_n 1, 1) := by decide +kernel
theorem dX2_supposedWorth_17 : decode cX2_supposedWorth 17 = .ok (.invokevirtual 58, 3) := by decide +kernel
theorem dX2_supposedWorth_20 : decode cX2_supposedWorth 20 = .ok (.aload_n 0, 1) := by decide +kernel
theorem dX2_supposedWorth_21 : decode cX2_supposedWorth 21 = .ok (.getfield 15, 3) := by decide +kernel
theorem dX2_supposedWorth_24 : decode cX2_supposedWorth 24 = .ok (.iload_n 2, 1) := by decide +kernel
theorem dX2_supposedWorth_25 : decode cX2_supposedWorth 25 = .ok (.iaload, 1) := by decide +kernel
theorem dX2_supposedWorth_26 : decode cX2_supposedWorth 26 = .ok (.imul, 1) := by decide +kernel
theorem dX2_supposedWorth_27 : decode cX2_supposedWorth 27 = .ok (.ireturn, 1) := by decide +kernel
set_option maxRecDepth 20000 in
theorem ggX2_supposedWorthOfAll_X2_supposedWorth : GoodIn wsX2_supposedWorthOfAll wsX2_supposedWorth := goodIn_r _ [5, 6, 7, 8, 9, 4, 10, 11, 12, 13, 14, 15, 16, 17, 18, 19, 20, 21, 22, 23, 24, 25, 26, 27, 28, 29, 30] (by decide +kernel) (by decide +kernel)
set_option maxRecDepth 20000 in
theorem gX2_supposedWorthOfAll_X2_supposedWorth : GoodIn wsX2_supposedWorthOfAll (wsV RX2 119 RX2 yX2_supposedWorth wsX2_supposedWorth) := goodIn_app (goodIn_of _ (by decide +kernel)) ggX2_supposedWorthOfAll_X2_supposedWorth
theorem dX2_supposedWorthOfAll_0 : decode cX2_supposedWorthOfAll 0 = .ok (.iconst 0, 1) := by decide +kernel
theorem dX2_supposedWorthOfAll_1 : decode cX2_supposedWorthOfAll 1 = .ok (.istore_n 1, 1) := by decide +kernel
theorem dX2_supposedWorthOfAll_2 : decode cX2_supposedWorthOfAll 2 = .ok (.iconst 0, 1) := by decide +kernel
theorem dX2_supposedWorthOfAll_3 : decode cX2_supposedWorthOfAll 3 = .ok (.istore_n 2, 1) := by decide +kernel
theorem dX2_supposedWorthOfAll_4 : decode cX2_supposedWorthOfAll 4 = .ok (.iload_n 2, 1) := by decide +kernel
theorem dX2_supposedWorthOfAll_5 : decode cX2_supposedWorthOfAll 5 = .ok (.bipush 6, 2) := by decide +kernel
theorem dX2_supposedWorthOfAll_7 : decode cX2_supposedWorthOfAll 7 = .ok (.if_icmp .ge 17, 3) := by decide +kernel
theorem dX2_supposedWorthOfAll_10 : decode cX2_supposedWorthOfAll 10 = .ok (.iload_n 1, 1) := by decide +kernel
theorem dX2_supposedWorthOfAll_11 : decode cX2_supposedWorthOfAll 11 = .ok (.aload_n 0, 1) := by decide +kernel
theorem dX2_supposedWorthOfAll_12 : decode cX2_supposedWorthOfAll 12 = .ok (.iload_n 2, 1) := by decide +kernel
theorem dX2_supposedWorthOfAll_13 : decode cX2_supposedWorthOfAll 13 = .ok (.invokevirtual 119, 3) := by decide +kernel
theorem dX2_supposedWorthOfAll_16 : decode cX2_supposedWorthOfAll 16 = .ok (.iadd, 1) := by decide +kernel
theorem dX2_supposedWorthOfAll_17 : decode cX2_supposedWorthOfAll 17 = .ok (.istore_n 1, 1) := by decide +kernel
theorem dX2_supposedWorthOfAll_18 : decode cX2_supposedWorthOfAll 18 = .ok (.iinc 2 1, 3) := by decide +kernel
theorem dX2_supposedWorthOfAll_21 : decode cX2_supposedWorthOfAll 21 = .ok (.goto (-17), 3) := by decide +kernel
theorem dX2_supposedWorthOfAll_24 : decode cX2_supposedWorthOfAll 24 = .ok (.iload_n 1, 1) := by decide +kernel
theorem dX2_supposedWorthOfAll_25 : decode cX2_supposedWorthOfAll 25 = .ok (.ireturn, 1) := by decide +kernel
set_option maxRecDepth 20000 in
theorem ggX2_trueWorth_X2_coinsOfKind : GoodIn wsX2_trueWorth wsX2_coinsOfKind := goodIn_r _ [7, 8, 9, 10, 11, 12, 13, 14, 15, 16, 17, 18, 19, 20, 21] (by decide +kernel) (by decide +kernel)
set_option maxRecDepth 20000 in
theorem gX2_trueWorth_X2_coinsOfKind : GoodIn wsX2_trueWorth (wsV RX2 150 RX2 yX2_coinsOfKind wsX2_coinsOfKind) := goodIn_app (goodIn_of _ (by decide +kernel)) ggX2_trueWorth_X2_coinsOfKind
theorem dX2_trueWorth_0 : decode cX2_trueWorth 0 = .ok (.iconst 0, 1) := by decide +kernel
theorem dX2_trueWorth_1 : decode cX2_trueWorth 1 = .ok (.istore_n 2, 1) := by decide +kernel
theorem dX2_trueWorth_2 : decode cX2_trueWorth 2 = .ok (.iconst 0, 1) := by decide +kernel
theorem dX2_trueWorth_3 : decode cX2_trueWorth 3 = .ok (.istore_n 3, 1) := by decide +kernel
theorem dX2_trueWorth_4 : decode cX2_trueWorth 4 = .ok (.iload_n 3, 1) := by decide +kernel
theorem dX2_trueWorth_5 : decode cX2_trueWorth 5 = .ok (.aload_n 0, 1) := by decide +kernel
theorem dX2_trueWorth_6 : decode cX2_trueWorth 6 = .ok (.getfield 45, 3) := by decide +kernel
theorem dX2_trueWorth_9 : decode cX2_trueWorth 9 = .ok (.if_icmp .ge 25, 3) := by decide +kernel
theorem dX2_trueWorth_12 : decode cX2_trueWorth 12 = .ok (.iload_n 2, 1) := by decide +kernel
theorem dX2_trueWorth_13 : decode cX2_trueWorth 13 = .ok (.aload_n 0, 1) := by decide +kernel
theorem dX2_trueWorth_14 : decode cX2_trueWorth 14 = .ok (.iload_n 1, 1) := by decide +kernel
theorem dX2_trueWorth_15 : decode cX2_trueWorth 15 = .ok (.iload_n 3, 1) := by decide +kernel
theorem dX2_trueWorth_16 : decode cX2_trueWorth 16 = .ok (.invokevirtual 150, 3) := by decide +kernel
theorem dX2_trueWorth_19 : decode cX2_trueWorth 19 = .ok (.aload_n 0, 1) := by decide +kernel
theorem dX2_trueWorth_20 : decode cX2_trueWorth 20 = .ok (.getfield 15, 3) := by decide +kernel
theorem dX2_trueWorth_23 : decode cX2_trueWorth 23 = .ok (.iload_n 3, 1) := by decide +kernel
theorem dX2_trueWorth_24 : decode cX2_trueWorth 24 = .ok (.iaload, 1) := by decide +kernel
theorem dX2_trueWorth_25 : decode cX2_trueWorth 25 = .ok (.imul, 1) := by decide +kernel
theorem dX2_trueWorth_26 : decode cX2_trueWorth 26 = .ok (.iadd, 1) := by decide +kernel
theorem dX2_trueWorth_27 : decode cX2_trueWorth 27 = .ok (.istore_n 2, 1) := by decide +kernel
theorem dX2_trueWorth_28 : decode cX2_trueWorth 28 = .ok (.iinc 3 1, 3) := by decide +kernel
theorem dX2_trueWorth_31 : decode cX2_trueWorth 31 = .ok (.goto (-27), 3) := by decide +kernel
theorem dX2_trueWorth_34 : decode cX2_trueWorth 34 = .ok (.iload_n 2, 1) := by decide +kernel
theorem dX2_trueWorth_35 : decode cX2_trueWorth 35 = .ok (.ireturn, 1) := by decide +kernel
set_option maxRecDepth 20000 in
theorem ggX2_trueWorthOfAll_X2_trueWorth : GoodIn wsX2_trueWorthOfAll wsX2_trueWorth := goodIn_r _ [5, 6, 7, 8, 9, 10, 4, 11, 12, 13, 14, 15, 16, 17, 18, 19, 20, 21, 22, 23, 24, 25] (by decide +kernel) (by decide +kernel)
set_option maxRecDepth 20000 in
theorem gX2_trueWorthOfAll_X2_trueWorth : GoodIn wsX2_trueWorthOfAll (wsV RX2 122 RX2 yX2_trueWorth wsX2_trueWorth) := goodIn_app (goodIn_of _ (by decide +kernel)) ggX2_trueWorthOfAll_X2_trueWorth
theorem dX2_trueWorthOfAll_0 : decode cX2_trueWorthOfAll 0 = .ok (.iconst 0, 1) := by decide +kernel
theorem dX2_trueWorthOfAll_1 : decode cX2_trueWorthOfAll 1 = .ok (.istore_n 1, 1) := by decide +kernel
theorem dX2_trueWorthOfAll_2 : decode cX2_trueWorthOfAll 2 = .ok (.iconst 0, 1) := by decide +kernel
theorem dX2_trueWorthOfAll_3 : decode cX2_trueWorthOfAll 3 = .ok (.istore_n 2, 1) := by decide +kernel
theorem dX2_trueWorthOfAll_4 : decode cX2_trueWorthOfAll 4 = .ok (.iload_n 2, 1) := by decide +kernel
theorem dX2_trueWorthOfAll_5 : decode cX2_trueWorthOfAll 5 = .ok (.bipush 6, 2) := by decide +kernel
theorem dX2_trueWorthOfAll_7 : decode cX2_trueWorthOfAll 7 = .ok (.if_icmp .ge 17, 3) := by decide +kernel
theorem dX2_trueWorthOfAll_10 : decode cX2_trueWorthOfAll 10 = .ok (.iload_n 1, 1) := by decide +kernel
theorem dX2_trueWorthOfAll_11 : decode cX2_trueWorthOfAll 11 = .ok (.aload_n 0, 1) := by decide +kernel
theorem dX2_trueWorthOfAll_12 : decode cX2_trueWorthOfAll 12 = .ok (.iload_n 2, 1) := by decide +kernel
theorem dX2_trueWorthOfAll_13 : decode cX2_trueWorthOfAll 13 = .ok (.invokevirtual 122, 3) := by decide +kernel
theorem dX2_trueWorthOfAll_16 : decode cX2_trueWorthOfAll 16 = .ok (.iadd, 1) := by decide +kernel
theorem dX2_trueWorthOfAll_17 : decode cX2_trueWorthOfAll 17 = .ok (.istore_n 1, 1) := by decide +kernel
theorem dX2_trueWorthOfAll_18 : decode cX2_trueWorthOfAll 18 = .ok (.iinc 2 1, 3) := by decide +kernel
theorem dX2_trueWorthOfAll_21 : decode cX2_trueWorthOfAll 21 = .ok (.goto (-17), 3) := by decide +kernel
theorem dX2_trueWorthOfAll_24 : decode cX2_trueWorthOfAll 24 = .ok (.iload_n 1, 1) := by decide +kernel
theorem dX2_trueWorthOfAll_25 : decode cX2_trueWorthOfAll 25 = .ok (.ireturn, 1) := by decide +kernel
set_option maxRecDepth 20000 in
theorem ggX2_misfitsIn_X2_coinsOfKind : GoodIn wsX2_misfitsIn wsX2_coinsOfKind := goodIn_r _ [7, 8, 9, 10, 11, 12, 13, 14, 15, 16, 17, 18, 19, 20, 21] (by decide +kernel) (by decide +kernel)
set_option maxRecDepth 20000 in
theorem gX2_misfitsIn_X2_coinsOfKind : GoodIn wsX2_misfitsIn (wsV RX2 150 RX2 yX2_coinsOfKind wsX2_coinsOfKind) := goodIn_app (goodIn_of _ (by decide +kernel)) ggX2_misfitsIn_X2_coinsOfKind
theorem dX2_misfitsIn_0 : decode cX2_misfitsIn 0 = .ok (.iconst 0, 1) := by decide +kernel
theorem dX2_misfitsIn_1 : decode cX2_misfitsIn 1 = .ok (.istore_n 2, 1) := by decide +kernel
theorem dX2_misfitsIn_2 : decode cX2_misfitsIn 2 = .ok (.iconst 0, 1) := by decide +kernel
theorem dX2_misfitsIn_3 : decode cX2_misfitsIn 3 = .ok (.istore_n 3, 1) := by decide +kernel
theorem dX2_misfitsIn_4 : decode cX2_misfitsIn 4 = .ok (.iload_n 3, 1) := by decide +kernel
theorem dX2_misfitsIn_5 : decode cX2_misfitsIn 5 = .ok (.aload_n 0, 1) := by decide +kernel
theorem dX2_misfitsIn_6 : decode cX2_misfitsIn 6 = .ok (.getfield 45, 3) := by decide +kernel
theorem dX2_misfitsIn_9 : decode cX2_misfitsIn 9 = .ok (.if_icmp .ge 28, 3) := by decide +kernel
theorem dX2_misfitsIn_12 : decode cX2_misfitsIn 12 = .ok (.aload_n 0, 1) := by decide +kernel
theorem dX2_misfitsIn_13 : decode cX2_misfitsIn 13 = .ok (.getfield 18, 3) := by decide +kernel
theorem dX2_misfitsIn_16 : decode cX2_misfitsIn 16 = .ok (.iload_n 3, 1) := by decide +kernel
theorem dX2_misfitsIn_17 : decode cX2_misfitsIn 17 = .ok (.iaload, 1) := by decide +kernel
theorem dX2_misfitsIn_18 : decode cX2_misfitsIn 18 = .ok (.iload_n 1, 1) := by decide +kernel
theorem dX2_misfitsIn_19 : decode cX2_misfitsIn 19 = .ok (.if_icmp .eq 12, 3) := by decide +kernel
theorem dX2_misfitsIn_22 : decode cX2_misfitsIn 22 = .ok (.iload_n 2, 1) := by decide +kernel
theorem dX2_misfitsIn_23 : decode cX2_misfitsIn 23 = .ok (.aload_n 0, 1) := by decide +kernel
theorem dX2_misfitsIn_24 : decode cX2_misfitsIn 24 = .ok (.iload_n 1, 1) := by decide +kernel
theorem dX2_misfitsIn_25 : decode cX2_misfitsIn 25 = .ok (.iload_n 3, 1) := by decide +kernel
theorem dX2_misfitsIn_26 : decode cX2_misfitsIn 26 = .ok (.invokevirtual 150, 3) := by decide +kernel
theorem dX2_misfitsIn_29 : decode cX2_misfitsIn 29 = .ok (.iadd, 1) := by decide +kernel
theorem dX2_misfitsIn_30 : decode cX2_misfitsIn 30 = .ok (.istore_n 2, 1) := by decide +kernel
theorem dX2_misfitsIn_31 : decode cX2_misfitsIn 31 = .ok (.iinc 3 1, 3) := by decide +kernel
theorem dX2_misfitsIn_34 : decode cX2_misfitsIn 34 = .ok (.goto (-30), 3) := by decide +kernel
theorem dX2_misfitsIn_37 : decode cX2_misfitsIn 37 = .ok (.iload_n 2, 1) := by decide +kernel
theorem dX2_misfitsIn_38 : decode cX2_misfitsIn 38 = .ok (.ireturn, 1) := by decide +kernel
set_option maxRecDepth 20000 in
theorem ggX2_misfits_X2_misfitsIn : GoodIn wsX2_misfits wsX2_misfitsIn := goodIn_r _ [5, 6, 7, 8, 9, 10, 4, 11, 12, 13, 14, 15, 16, 17, 18, 19, 20, 21, 22, 23, 24, 25] (by decide +kernel) (by decide +kernel)
set_option maxRecDepth 20000 in
theorem gX2_misfits_X2_misfitsIn : GoodIn wsX2_misfits (wsV RX2 125 RX2 yX2_misfitsIn wsX2_misfitsIn) := goodIn_app (goodIn_of _ (by decide +kernel)) ggX2_misfits_X2_misfitsIn
theorem dX2_misfits_0 : decode cX2_misfits 0 = .ok (.iconst 0, 1) := by decide +kernel
theorem dX2_misfits_1 : decode cX2_misfits 1 = .ok (.istore_n 1, 1) := by decide +kernel
theorem dX2_misfits_2 : decode cX2_misfits 2 = .ok (.iconst 0, 1) := by decide +kernel
theorem dX2_misfits_3 : decode cX2_misfits 3 = .ok (.istore_n 2, 1) := by decide +kernel
theorem dX2_misfits_4 : decode cX2_misfits 4 = .ok (.iload_n 2, 1) := by decide +kernel
theorem dX2_misfits_5 : decode cX2_misfits 5 = .ok (.bipush 6, 2) := by decide +kernel
theorem dX2_misfits_7 : decode cX2_misfits 7 = .ok (.if_icmp .ge 17, 3) := by decide +kernel
theorem dX2_misfits_10 : decode cX2_misfits 10 = .ok (.iload_n 1, 1) := by decide +kernel
theorem dX2_misfits_11 : decode cX2_misfits 11 = .ok (.aload_n 0, 1) := by decide +kernel
theorem dX2_misfits_12 : decode cX2_misfits 12 = .ok (.iload_n 2, 1) := by decide +kernel
theorem dX2_misfits_13 : decode cX2_misfits 13 = .ok (.invokevirtual 125, 3) := by decide +kernel
theorem dX2_misfits_16 : decode cX2_misfits 16 = .ok (.iadd, 1) := by decide +kernel
theorem dX2_misfits_17 : decode cX2_misfits 17 = .ok (.istore_n 1, 1) := by decide +kernel
theorem dX2_misfits_18 : decode cX2_misfits 18 = .ok (.iinc 2 1, 3) := by decide +kernel
theorem dX2_misfits_21 : decode cX2_misfits 21 = .ok (.goto (-17), 3) := by decide +kernel
theorem dX2_misfits_24 : decode cX2_misfits 24 = .ok (.iload_n 1, 1) := by decide +kernel
theorem dX2_misfits_25 : decode cX2_misfits 25 = .ok (.ireturn, 1) := by decide +kernel
set_option maxRecDepth 20000 in
theorem ggX2_misfitsOfKind_X2_coinsOfKindInBags : GoodIn wsX2_misfitsOfKind wsX2_coinsOfKindInBags := goodIn_r _ [6, 7, 8, 9, 5, 10, 11, 12, 13, 14, 15, 16, 17, 18, 19, 20, 21, 22, 23, 24] (by decide +kernel) (by decide +kernel)
set_option maxRecDepth 20000 in
theorem gX2_misfitsOfKind_X2_coinsOfKindInBags : GoodIn wsX2_misfitsOfKind (wsV RX2 113 RX2 yX2_coinsOfKindInBags wsX2_coinsOfKindInBags) := goodIn_app (goodIn_of _ (by decide +kernel)) ggX2_misfitsOfKind_X2_coinsOfKindInBags
set_option maxRecDepth 20000 in
theorem ggX2_misfitsOfKind_X2_coinsOfKind : GoodIn wsX2_misfitsOfKind wsX2_coinsOfKind := goodIn_r _ [10, 11, 12, 13, 14, 15, 16, 17, 18, 19, 20, 21, 22, 23, 24] (by decide +kernel) (by decide +kernel)
set_option maxRecDepth 20000 in
theorem gX2_misfitsOfKind_X2_coinsOfKind : GoodIn wsX2_misfitsOfKind (wsV RX2 150 RX2 yX2_coinsOfKind wsX2_coinsOfKind) := goodIn_app (goodIn_of _ (by decide +kernel)) ggX2_misfitsOfKind_X2_coinsOfKind
theorem dX2_misfitsOfKind_0 : decode cX2_misfitsOfKind 0 = .ok (.aload_n 0, 1) := by decide +kernel
theorem dX2_misfitsOfKind_1 : decode cX2_misfitsOfKind 1 = .ok (.iload_n 1, 1) := by decide +kernel
theorem dX2_misfitsOfKind_2 : decode cX2_misfitsOfKind 2 = .ok (.invokevirtual 113, 3) := by decide +kernel
theorem dX2_misfitsOfKind_5 : decode cX2_misfitsOfKind 5 = .ok (.aload_n 0, 1) := by decide +kernel
theorem dX2_misfitsOfKind_6 : decode cX2_misfitsOfKind 6 = .ok (.aload_n 0, 1) := by decide +kernel
theorem dX2_misfitsOfKind_7 : decode cX2_misfitsOfKind 7 = .ok (.getfield 18, 3) := by decide +kernel
theorem dX2_misfitsOfKind_10 : decode cX2_misfitsOfKind 10 = .ok (.iload_n 1, 1) := by decide +kernel
theorem dX2_misfitsOfKind_11 : decode cX2_misfitsOfKind 11 = .ok (.iaload, 1) := by decide +kernel
theorem dX2_misfitsOfKind_12 : decode cX2_misfitsOfKind 12 = .ok (.iload_n 1, 1) := by decide +kernel
theorem dX2_misfitsOfKind_13 : decode cX2_misfitsOfKind 13 = .ok (.invokevirtual 150, 3) := by decide +kernel
theorem dX2_misfitsOfKind_16 : decode cX2_misfitsOfKind 16 = .ok (.isub, 1) := by decide +kernel
theorem dX2_misfitsOfKind_17 : decode cX2_misfitsOfKind 17 = .ok (.ireturn, 1) := by decide +kernel
set_option maxRecDepth 20000 in
theorem ggX2_kindMostAstray_X2_misfitsOfKind : GoodIn wsX2_kindMostAstray wsX2_misfitsOfKind := goodIn_r _ [6, 7, 8, 9, 10, 5, 11, 12, 13, 14, 15, 16, 17, 18, 19, 20, 21, 22, 23, 24, 25, 26, 27, 28, 29] (by decide +kernel) (by decide +kernel)
set_option maxRecDepth 20000 in
theorem gX2_kindMostAstray_X2_misfitsOfKind : GoodIn wsX2_kindMostAstray (wsV RX2 153 RX2 yX2_misfitsOfKind wsX2_misfitsOfKind) := goodIn_app (goodIn_of _ (by decide +kernel)) ggX2_kindMostAstray_X2_misfitsOfKind
theorem dX2_kindMostAstray_0 : decode cX2_kindMostAstray 0 = .ok (.iconst (-1), 1) := by decide +kernel
theorem dX2_kindMostAstray_1 : decode cX2_kindMostAstray 1 = .ok (.istore_n 1, 1) := by decide +kernel
theorem dX2_kindMostAstray_2 : decode cX2_kindMostAstray 2 = .ok (.iconst 0, 1) := by decide +kernel
theorem dX2_kindMostAstray_3 : decode cX2_kindMostAstray 3 = .ok (.istore_n 2, 1) := by decide +kernel
theorem dX2_kindMostAstray_4 : decode cX2_kindMostAstray 4 = .ok (.iconst 0, 1) := by decide +kernel
theorem dX2_kindMostAstray_5 : decode cX2_kindMostAstray 5 = .ok (.istore_n 3, 1) := by decide +kernel
theorem dX2_kindMostAstray_6 : decode cX2_kindMostAstray 6 = .ok (.iload_n 3, 1) := by decide +kernel
theorem dX2_kindMostAstray_7 : decode cX2_kindMostAstray 7 = .ok (.aload_n 0, 1) := by decide +kernel
theorem dX2_kindMostAstray_8 : decode cX2_kindMostAstray 8 = .ok (.getfield 45, 3) := by decide +kernel
theorem dX2_kindMostAstray_11 : decode cX2_kindMostAstray 11 = .ok (.if_icmp .ge 27, 3) := by decide +kernel
theorem dX2_kindMostAstray_14 : decode cX2_kindMostAstray 14 = .ok (.aload_n 0, 1) := by decide +kernel
theorem dX2_kindMostAstray_15 : decode cX2_kindMostAstray 15 = .ok (.iload_n 3, 1) := by decide +kernel
theorem dX2_kindMostAstray_16 : decode cX2_kindMostAstray 16 = .ok (.invokevirtual 153, 3) := by decide +kernel
theorem dX2_kindMostAstray_19 : decode cX2_kindMostAstray 19 = .ok (.istore 4, 2) := by decide +kernel
theorem dX2_kindMostAstray_21 : decode cX2_kindMostAstray 21 = .ok (.iload 4, 2) := by decide +kernel
theorem dX2_kindMostAstray_23 : decode cX2_kindMostAstray 23 = .ok (.iload_n 2, 1) := by decide +kernel
theorem dX2_kindMostAstray_24 : decode cX2_kindMostAstray 24 = .ok (.if_icmp .le 8, 3) := by decide +kernel
theorem dX2_kindMostAstray_27 : decode cX2_kindMostAstray 27 = .ok (.iload_n 3, 1) := by decide +kernel
theorem dX2_kindMostAstray_28 : decode cX2_kindMostAstray 28 = .ok (.istore_n 1, 1) := by decide +kernel
theorem dX2_kindMostAstray_29 : decode cX2_kindMostAstray 29 = .ok (.iload 4, 2) := by decide +kernel
theorem dX2_kindMostAstray_31 : decode cX2_kindMostAstray 31 = .ok (.istore_n 2, 1) := by decide +kernel
theorem dX2_kindMostAstray_32 : decode cX2_kindMostAstray 32 = .ok (.iinc 3 1, 3) := by decide +kernel
theorem dX2_kindMostAstray_35 : decode cX2_kindMostAstray 35 = .ok (.goto (-29), 3) := by decide +kernel
theorem dX2_kindMostAstray_38 : decode cX2_kindMostAstray 38 = .ok (.iload_n 1, 1) := by decide +kernel
theorem dX2_kindMostAstray_39 : decode cX2_kindMostAstray 39 = .ok (.ireturn, 1) := by decide +kernel
set_option maxRecDepth 20000 in
theorem ggX2_fallsHome_X2_placeFor : GoodIn wsX2_fallsHome wsX2_placeFor := goodIn_r _ [6, 7, 8, 9, 10, 5, 11, 12, 13, 14, 15, 16, 17, 18, 19, 20, 21, 22, 23, 24, 25, 26, 27, 28, 29, 30, 31, 32, 33, 34, 35, 36, 37, 38, 39, 40, 41, 42, 43, 44, 45, 46, 47, 48, 49, 50] (by decide +kernel) (by decide +kernel)
set_option maxRecDepth 20000 in
theorem gX2_fallsHome_X2_placeFor : GoodIn wsX2_fallsHome (wsV RX2 84 RX2 yX2_placeFor wsX2_placeFor) := goodIn_app (goodIn_of _ (by decide +kernel)) ggX2_fallsHome_X2_placeFor
theorem dX2_fallsHome_0 : decode cX2_fallsHome 0 = .ok (.aload_n 0, 1) := by decide +kernel
theorem dX2_fallsHome_1 : decode cX2_fallsHome 1 = .ok (.iload_n 1, 1) := by decide +kernel
theorem dX2_fallsHome_2 : decode cX2_fallsHome 2 = .ok (.iload_n 2, 1) := by decide +kernel
theorem dX2_fallsHome_3 : decode cX2_fallsHome 3 = .ok (.invokevirtual 84, 3) := by decide +kernel
theorem dX2_fallsHome_6 : decode cX2_fallsHome 6 = .ok (.aload_n 0, 1) := by decide +kernel
theorem dX2_fallsHome_7 : decode cX2_fallsHome 7 = .ok (.getfield 18, 3) := by decide +kernel
theorem dX2_fallsHome_10 : decode cX2_fallsHome 10 = .ok (.iload_n 1, 1) := by decide +kernel
theorem dX2_fallsHome_11 : decode cX2_fallsHome 11 = .ok (.iaload, 1) := by decide +kernel
theorem dX2_fallsHome_12 : decode cX2_fallsHome 12 = .ok (.if_icmp .ne 7, 3) := by decide +kernel
theorem dX2_fallsHome_15 : decode cX2_fallsHome 15 = .ok (.iconst 1, 1) := by decide +kernel
theorem dX2_fallsHome_16 : decode cX2_fallsHome 16 = .ok (.goto 4, 3) := by decide +kernel
theorem dX2_fallsHome_19 : decode cX2_fallsHome 19 = .ok (.iconst 0, 1) := by decide +kernel
theorem dX2_fallsHome_20 : decode cX2_fallsHome 20 = .ok (.ireturn, 1) := by decide +kernel
set_option maxRecDepth 20000 in
theorem ggX2_mostFittingWear_X2_fallsHome : GoodIn wsX2_mostFittingWear wsX2_fallsHome := goodIn_r _ [5, 6, 7, 8, 9, 4, 10, 11, 12, 13, 14, 15, 16, 17, 18, 19, 20, 21, 22, 23, 24, 25, 26, 27, 28, 29, 30, 31, 32, 33, 34, 35, 36, 37, 38, 39, 40, 41, 42, 43, 44, 45, 46, 47, 48, 49, 50, 51, 52, 53, 54] (by decide +kernel) (by decide +kernel)
set_option maxRecDepth 20000 in
theorem gX2_mostFittingWear_X2_fallsHome : GoodIn wsX2_mostFittingWear (wsV RX2 156 RX2 yX2_fallsHome wsX2_fallsHome) := goodIn_app (goodIn_of _ (by decide +kernel)) ggX2_mostFittingWear_X2_fallsHome
theorem dX2_mostFittingWear_0 : decode cX2_mostFittingWear 0 = .ok (.aload_n 0, 1) := by decide +kernel
theorem dX2_mostFittingWear_1 : decode cX2_mostFittingWear 1 = .ok (.iload_n 1, 1) := by decide +kernel
theorem dX2_mostFittingWear_2 : decode cX2_mostFittingWear 2 = .ok (.iconst 0, 1) := by decide +kernel
theorem dX2_mostFittingWear_3 : decode cX2_mostFittingWear 3 = .ok (.invokevirtual 156, 3) := by decide +kernel
theorem dX2_mostFittingWear_6 : decode cX2_mostFittingWear 6 = .ok (.ifCond .ne 5, 3) := by decide +kernel
theorem dX2_mostFittingWear_9 : decode cX2_mostFittingWear 9 = .ok (.iconst (-1), 1) := by decide +kernel
theorem dX2_mostFittingWear_10 : decode cX2_mostFittingWear 10 = .ok (.ireturn, 1) := by decide +kernel
theorem dX2_mostFittingWear_11 : decode cX2_mostFittingWear 11 = .ok (.iconst 0, 1) := by decide +kernel
theorem dX2_mostFittingWear_12 : decode cX2_mostFittingWear 12 = .ok (.istore_n 2, 1) := by decide +kernel
theorem dX2_mostFittingWear_13 : decode cX2_mostFittingWear 13 = .ok (.sipush 512, 3) := by decide +kernel
theorem dX2_mostFittingWear_16 : decode cX2_mostFittingWear 16 = .ok (.istore_n 3, 1) := by decide +kernel
theorem dX2_mostFittingWear_17 : decode cX2_mostFittingWear 17 = .ok (.iload_n 3, 1) := by decide +kernel
theorem dX2_mostFittingWear_18 : decode cX2_mostFittingWear 18 = .ok (.ifCond .le 34, 3) := by decide +kernel
theorem dX2_mostFittingWear_21 : decode cX2_mostFittingWear 21 = .ok (.iload_n 2, 1) := by decide +kernel
theorem dX2_mostFittingWear_22 : decode cX2_mostFittingWear 22 = .ok (.iload_n 3, 1) := by decide +kernel
theorem dX2_mostFittingWear_23 : decode cX2_mostFittingWear 23 = .ok (.iadd, 1) := by decide +kernel
theorem dX2_mostFittingWear_24 : decode cX2_mostFittingWear 24 = .ok (.sipush 999, 3) := by decide +kernel
theorem dX2_mostFittingWear_27 : decode cX2_mostFittingWear 27 = .ok (.if_icmp .gt 18, 3) := by decide +kernel
theorem dX2_mostFittingWear_30 : decode cX2_mostFittingWear 30 = .ok (.aload_n 0, 1) := by decide +kernel
theorem dX2_mostFittingWear_31 : decode cX2_mostFittingWear 31 = .ok (.iload_n 1, 1) := by decide +kernel
theorem dX2_mostFittingWear_32 : decode cX2_mostFittingWear 32 = .ok (.iload_n 2, 1) := by decide +kernel
theorem dX2_mostFittingWear_33 : decode cX2_mostFittingWear 33 = .ok (.iload_n 3, 1) := by decide +kernel
theorem dX2_mostFittingWear_34 : decode cX2_mostFittingWear 34 = .ok (.iadd, 1) := by decide +kernel
theorem dX2_mostFittingWear_35 : decode cX2_mostFittingWear 35 = .ok (.invokevirtual 156, 3) := by decide +kernel
theorem dX2_mostFittingWear_38 : decode cX2_mostFittingWear 38 = .ok (.ifCond .eq 7, 3) := by decide +kernel
theorem dX2_mostFittingWear_41 : decode cX2_mostFittingWear 41 = .ok (.iload_n 2, 1) := by decide +kernel
theorem dX2_mostFittingWear_42 : decode cX2_mostFittingWear 42 = .ok (.iload_n 3, 1) := by decide +kernel
theorem dX2_mostFittingWear_43 : decode cX2_mostFittingWear 43 = .ok (.iadd, 1) := by decide +kernel
theorem dX2_mostFittingWear_44 : decode cX2_mostFittingWear 44 = .ok (.istore_n 2, 1) := by decide +kernel
theorem dX2_mostFittingWear_45 : decode cX2_mostFittingWear 45 = .ok (.iload_n 3, 1) := by decide +kernel
theorem dX2_mostFittingWear_46 : decode cX2_mostFittingWear 46 = .ok (.iconst 2, 1) := by decide +kernel
theorem dX2_mostFittingWear_47 : decode cX2_mostFittingWear 47 = .ok (.idiv, 1) := by decide +kernel
theorem dX2_mostFittingWear_48 : decode cX2_mostFittingWear 48 = .ok (.istore_n 3, 1) := by decide +kernel
theorem dX2_mostFittingWear_49 : decode cX2_mostFittingWear 49 = .ok (.goto (-32), 3) := by decide +kernel
theorem dX2_mostFittingWear_52 : decode cX2_mostFittingWear 52 = .ok (.iload_n 2, 1) := by decide +kernel
theorem dX2_mostFittingWear_53 : decode cX2_mostFittingWear 53 = .ok (.ireturn, 1) := by decide +kernel
theorem dX2_leastSortingGap_0 : decode cX2_leastSortingGap 0 = .ok (.iconst (-1), 1) := by decide +kernel
theorem dX2_leastSortingGap_1 : decode cX2_leastSortingGap 1 = .ok (.istore_n 2, 1) := by decide +kernel
theorem dX2_leastSortingGap_2 : decode cX2_leastSortingGap 2 = .ok (.sipush 4100, 3) := by decide +kernel
theorem dX2_leastSortingGap_5 : decode cX2_leastSortingGap 5 = .ok (.istore_n 3, 1) := by decide +kernel
theorem dX2_leastSortingGap_6 : decode cX2_leastSortingGap 6 = .ok (.iconst 0, 1) := by decide +kernel
theorem dX2_leastSortingGap_7 : decode cX2_leastSortingGap 7 = .ok (.istore 4, 2) := by decide +kernel
theorem dX2_leastSortingGap_9 : decode cX2_leastSortingGap 9 = .ok (.iload 4, 2) := by decide +kernel
theorem dX2_leastSortingGap_11 : decode cX2_leastSortingGap 11 = .ok (.aload_n 0, 1) := by decide +kernel
theorem dX2_leastSortingGap_12 : decode cX2_leastSortingGap 12 = .ok (.getfield 45, 3) := by decide +kernel
theorem dX2_leastSortingGap_15 : decode cX2_leastSortingGap 15 = .ok (.if_icmp .ge 60, 3) := by decide +kernel
theorem dX2_leastSortingGap_18 : decode cX2_leastSortingGap 18 = .ok (.aload_n 0, 1) := by decide +kernel
theorem dX2_leastSortingGap_19 : decode cX2_leastSortingGap 19 = .ok (.getfield 18, 3) := by decide +kernel
theorem dX2_leastSortingGap_22 : decode cX2_leastSortingGap 22 = .ok (.iload 4, 2) := by decide +kernel
theorem dX2_leastSortingGap_24 : decode cX2_leastSortingGap 24 = .ok (.iaload, 1) := by decide +kernel
theorem dX2_leastSortingGap_25 : decode cX2_leastSortingGap 25 = .ok (.iload_n 1, 1) := by decide +kernel
theorem dX2_leastSortingGap_26 : decode cX2_leastSortingGap 26 = .ok (.if_icmp .ne 20, 3) := by decide +kernel
theorem dX2_leastSortingGap_29 : decode cX2_leastSortingGap 29 = .ok (.iload_n 2, 1) := by decide +kernel
theorem dX2_leastSortingGap_30 : decode cX2_leastSortingGap 30 = .ok (.aload_n 0, 1) := by decide +kernel
theorem dX2_leastSortingGap_31 : decode cX2_leastSortingGap 31 = .ok (.getfield 9, 3) := by decide +kernel
theorem dX2_leastSortingGap_34 : decode cX2_leastSortingGap 34 = .ok (.iload 4, 2) := by decide +kernel
theorem dX2_leastSortingGap_36 : decode cX2_leastSortingGap 36 = .ok (.iaload, 1) := by decide +kernel
theorem dX2_leastSortingGap_37 : decode cX2_leastSortingGap 37 = .ok (.iconst 5, 1) := by decide +kernel
theorem dX2_leastSortingGap_38 : decode cX2_leastSortingGap 38 = .ok (.iadd, 1) := by decide +kernel
theorem dX2_leastSortingGap_39 : decode cX2_leastSortingGap 39 = .ok (.invokestatic 76, 3) := by decide +kernel
theorem dX2_leastSortingGap_42 : decode cX2_leastSortingGap 42 = .ok (.istore_n 2, 1) := by decide +kernel
theorem dX2_leastSortingGap_43 : decode cX2_leastSortingGap 43 = .ok (.goto 26, 3) := by decide +kernel
theorem dX2_leastSortingGap_46 : decode cX2_leastSortingGap 46 = .ok (.aload_n 0, 1) := by decide +kernel
theorem dX2_leastSortingGap_47 : decode cX2_leastSortingGap 47 = .ok (.getfield 18, 3) := by decide +kernel
theorem dX2_leastSortingGap_50 : decode cX2_leastSortingGap 50 = .ok (.iload 4, 2) := by decide +kernel
theorem dX2_leastSortingGap_52 : decode cX2_leastSortingGap 52 = .ok (.iaload, 1) := by decide +kernel
theorem dX2_leastSortingGap_53 : decode cX2_leastSortingGap 53 = .ok (.iload_n 1, 1) := by decide +kernel
theorem dX2_leastSortingGap_54 : decode cX2_leastSortingGap 54 = .ok (.if_icmp .le 15, 3) := by decide +kernel
theorem dX2_leastSortingGap_57 : decode cX2_leastSortingGap 57 = .ok (.iload_n 3, 1) := by decide +kernel
theorem dX2_leastSortingGap_58 : decode cX2_leastSortingGap 58 = .ok (.aload_n 0, 1) := by decide +kernel
theorem dX2_leastSortingGap_59 : decode cX2_leastSortingGap 59 = .ok (.getfield 9, 3) := by decide +kernel
theorem dX2_leastSortingGap_62 : decode cX2_leastSortingGap 62 = .ok (.iload 4, 2) := by decide +kernel
theorem dX2_leastSortingGap_64 : decode cX2_leastSortingGap 64 = .ok (.iaload, 1) := by decide +kernel
theorem dX2_leastSortingGap_65 : decode cX2_leastSortingGap 65 = .ok (.invokestatic 81, 3) := by decide +kernel
theorem dX2_leastSortingGap_68 : decode cX2_leastSortingGap 68 = .ok (.istore_n 3, 1) := by decide +kernel
theorem dX2_leastSortingGap_69 : decode cX2_leastSortingGap 69 = .ok (.iinc 4 1, 3) := by decide +kernel
theorem dX2_leastSortingGap_72 : decode cX2_leastSortingGap 72 = .ok (.goto (-63), 3) := by decide +kernel
theorem dX2_leastSortingGap_75 : decode cX2_leastSortingGap 75 = .ok (.iload_n 2, 1) := by decide +kernel
theorem dX2_leastSortingGap_76 : decode cX2_leastSortingGap 76 = .ok (.iload_n 3, 1) := by decide +kernel
theorem dX2_leastSortingGap_77 : decode cX2_leastSortingGap 77 = .ok (.if_icmp .gt 7, 3) := by decide +kernel
theorem dX2_leastSortingGap_80 : decode cX2_leastSortingGap 80 = .ok (.iload_n 2, 1) := by decide +kernel
theorem dX2_leastSortingGap_81 : decode cX2_leastSortingGap 81 = .ok (.goto 4, 3) := by decide +kernel
theorem dX2_leastSortingGap_84 : decode cX2_leastSortingGap 84 = .ok (.iconst (-1), 1) := by decide +kernel
theorem dX2_leastSortingGap_85 : decode cX2_leastSortingGap 85 = .ok (.ireturn, 1) := by decide +kernel
set_option maxRecDepth 20000 in
theorem ggX2_coinsUntilAstray_X2_fallsHome : GoodIn wsX2_coinsUntilAstray wsX2_fallsHome := goodIn_r _ [6, 1, 7, 8, 9, 5, 10, 11, 12, 13, 14, 15, 16, 17, 18, 19, 20, 21, 22, 23, 24, 25, 26, 27, 28, 29, 30, 31, 32, 33, 34, 35, 36, 37, 38, 39, 40, 41, 42, 43, 44, 45, 46, 47, 48, 49, 50, 51, 52, 53, 54] (by decide +kernel) (by decide +kernel)
set_option maxRecDepth 20000 in
theorem gX2_coinsUntilAstray_X2_fallsHome : GoodIn wsX2_coinsUntilAstray (wsV RX2 156 RX2 yX2_fallsHome wsX2_fallsHome) := goodIn_app (goodIn_of _ (by decide +kernel)) ggX2_coinsUntilAstray_X2_fallsHome
set_option maxRecDepth 20000 in
theorem ggX2_coinsUntilAstray_X2_coinsIn : GoodIn wsX2_coinsUntilAstray wsX2_coinsIn := goodIn_r _ [40, 41, 42, 43, 44, 45, 46, 47, 48, 49, 50, 51, 52, 53, 54] (by decide +kernel) (by decide +kernel)
set_option maxRecDepth 20000 in
theorem gX2_coinsUntilAstray_X2_coinsIn : GoodIn wsX2_coinsUntilAstray (wsV RX2 58 RX2 yX2_coinsIn wsX2_coinsIn) := goodIn_app (goodIn_of _ (by decide +kernel)) ggX2_coinsUntilAstray_X2_coinsIn
theorem dX2_coinsUntilAstray_0 : decode cX2_coinsUntilAstray 0 = .ok (.aload_n 0, 1) := by decide +kernel
theorem dX2_coinsUntilAstray_1 : decode cX2_coinsUntilAstray 1 = .ok (.iload_n 1, 1) := by decide +kernel
theorem dX2_coinsUntilAstray_2 : decode cX2_coinsUntilAstray 2 = .ok (.iconst 0, 1) := by decide +kernel
theorem dX2_coinsUntilAstray_3 : decode cX2_coinsUntilAstray 3 = .ok (.invokevirtual 156, 3) := by decide +kernel
theorem dX2_coinsUntilAstray_6 : decode cX2_coinsUntilAstray 6 = .ok (.ifCond .eq 19, 3) := by decide +kernel
theorem dX2_coinsUntilAstray_9 : decode cX2_coinsUntilAstray 9 = .ok (.bipush 40, 2) := by decide +kernel
theorem dX2_coinsUntilAstray_11 : decode cX2_coinsUntilAstray 11 = .ok (.aload_n 0, 1) := by decide +kernel
theorem dX2_coinsUntilAstray_12 : decode cX2_coinsUntilAstray 12 = .ok (.aload_n 0, 1) := by decide +kernel
theorem dX2_coinsUntilAstray_13 : decode cX2_coinsUntilAstray 13 = .ok (.getfield 18, 3) := by decide +kernel
theorem dX2_coinsUntilAstray_16 : decode cX2_coinsUntilAstray 16 = .ok (.iload_n 1, 1) := by decide +kernel
theorem dX2_coinsUntilAstray_17 : decode cX2_coinsUntilAstray 17 = .ok (.iaload, 1) := by decide +kernel
theorem dX2_coinsUntilAstray_18 : decode cX2_coinsUntilAstray 18 = .ok (.invokevirtual 58, 3) := by decide +kernel
theorem dX2_coinsUntilAstray_21 : decode cX2_coinsUntilAstray 21 = .ok (.isub, 1) := by decide +kernel
theorem dX2_coinsUntilAstray_22 : decode cX2_coinsUntilAstray 22 = .ok (.goto 4, 3) := by decide +kernel
theorem dX2_coinsUntilAstray_25 : decode cX2_coinsUntilAstray 25 = .ok (.iconst 0, 1) := by decide +kernel
theorem dX2_coinsUntilAstray_26 : decode cX2_coinsUntilAstray 26 = .ok (.ireturn, 1) := by decide +kernel
set_option maxRecDepth 20000 in
theorem ggX3_init_X2_init : GoodIn wsX3_init wsX2_init := goodIn_r _ [18, 19, 2, 3, 20, 21, 22, 23, 24, 25, 26, 27, 28, 29, 30, 31, 45, 46, 47, 48, 49, 50, 51, 52, 53, 54, 55, 56, 57] (by decide +kernel) (by decide +kernel)
set_option maxRecDepth 20000 in
theorem gX3_init_X2_init : GoodIn wsX3_init (wsX2_init) := ggX3_init_X2_init
set_option maxRecDepth 20000 in
theorem ggX3_init_X1_init : GoodIn wsX3_init wsX1_init := goodIn_r _ [34, 35, 2, 3, 36, 37, 5, 6, 38, 17, 18, 19, 20, 21, 22, 23, 24, 25, 26, 27, 28, 29, 30, 31, 61, 62, 63, 45, 46, 47, 48, 49, 50, 51, 52, 53, 54, 55, 56, 57] (by decide +kernel) (by decide +kernel)
set_option maxRecDepth 20000 in
theorem gX3_init_X1_init : GoodIn wsX3_init (wsX1_init) := ggX3_init_X1_init
set_option maxRecDepth 20000 in
theorem ggX3_init_X0_init : GoodIn wsX3_init wsX0_init := goodIn_r _ [40, 41, 2, 3, 20, 42, 43, 44, 64, 65, 66, 67, 68] (by decide +kernel) (by decide +kernel)
set_option maxRecDepth 20000 in
theorem gX3_init_X0_init_n25 : GoodIn wsX3_init (wsX0_init) := ggX3_init_X0_init
theorem dX3_init_0 : decode cX3_init 0 = .ok (.aload_n 0, 1) := by decide +kernel
theorem dX3_init_1 : decode cX3_init 1 = .ok (.invokespecial 3, 3) := by decide +kernel
theorem dX3_init_4 : decode cX3_init 4 = .ok (.aload_n 0, 1) := by decide +kernel
theorem dX3_init_5 : decode cX3_init 5 = .ok (.new 9, 3) := by decide +kernel
theorem dX3_init_8 : decode cX3_init 8 = .ok (.dup, 1) := by decide +kernel
theorem dX3_init_9 : decode cX3_init 9 = .ok (.invokespecial 11, 3) := by decide +kernel
theorem dX3_init_12 : decode cX3_init 12 = .ok (.putfield 12, 3) := by decide +kernel
theorem dX3_init_15 : decode cX3_init 15 = .ok (.aload_n 0, 1) := by decide +kernel
theorem dX3_init_16 : decode cX3_init 16 = .ok (.new 16, 3) := by decide +kernel
theorem dX3_init_19 : decode cX3_init 19 = .ok (.dup, 1) := by decide +kernel
theorem dX3_init_20 : decode cX3_init 20 = .ok (.invokespecial 18, 3) := by decide +kernel
theorem dX3_init_23 : decode cX3_init 23 = .ok (.putfield 19, 3) := by decide +kernel
theorem dX3_init_26 : decode cX3_init 26 = .ok (.aload_n 0, 1) := by decide +kernel
theorem dX3_init_27 : decode cX3_init 27 = .ok (.new 23, 3) := by decide +kernel
theorem dX3_init_30 : decode cX3_init 30 = .ok (.dup, 1) := by decide +kernel
theorem dX3_init_31 : decode cX3_init 31 = .ok (.invokespecial 25, 3) := by decide +kernel
theorem dX3_init_34 : decode cX3_init 34 = .ok (.putfield 26, 3) := by decide +kernel
theorem dX3_init_37 : decode cX3_init 37 = .ok (.return_, 1) := by decide +kernel
set_option maxRecDepth 20000 in
theorem ggX3_addKind_X3_checkArgument : GoodIn wsX3_addKind wsX3_checkArgument := goodIn_ca (goodIn_r _ [9, 10, 11] (by decide +kernel) (by decide +kernel)) (goodIn_sub (fun _ h => List.mem_cons_of_mem _ (List.mem_append_right _ h)) (by decide +kernel))
set_option maxRecDepth 20000 in
theorem gX3_addKind_X3_checkArgument : GoodIn wsX3_addKind (va_wsS RX3 30 yX3_checkArgument wsX3_checkArgument) := goodIn_app (goodIn_of _ (by decide +kernel)) ggX3_addKind_X3_checkArgument
set_option maxRecDepth 20000 in
theorem ggX3_addKind_X1_save : GoodIn wsX3_addKind wsX1_save := goodIn_r _ [16, 17, 18, 19, 20, 21, 22, 23, 24, 25, 26, 27, 28, 29, 30, 31, 32, 33, 34, 35, 36, 37, 38, 39, 40, 41, 42, 43, 44, 45, 66, 67, 68, 53, 54, 55, 56, 57, 58, 59, 60, 61, 62, 63, 64, 65] (by decide +kernel) (by decide +kernel)
set_option maxRecDepth 20000 in
theorem gX3_addKind_X1_save : GoodIn wsX3_addKind (wsV RX3 45 RX1 yX1_save wsX1_save) := goodIn_app (goodIn_of _ (by decide +kernel)) ggX3_addKind_X1_save
set_option maxRecDepth 20000 in
theorem ggX3_addKind_X2_putKind : GoodIn wsX3_addKind wsX2_putKind := goodIn_r _ [49, 29, 30, 35, 36, 53, 54, 55, 56, 57, 58, 59, 60, 61, 62, 63, 64, 65] (by decide +kernel) (by decide +kernel)
set_option maxRecDepth 20000 in
theorem gX3_addKind_X2_putKind : GoodIn wsX3_addKind (wsV RX3 49 RX2 yX2_putKind wsX2_putKind) := goodIn_app (goodIn_of _ (by decide +kernel)) ggX3_addKind_X2_putKind
theorem dX3_addKind_0 : decode cX3_addKind 0 = .ok (.iload_n 1, 1) := by decide +kernel
theorem dX3_addKind_1 : decode cX3_addKind 1 = .ok (.sipush 1000, 3) := by decide +kernel
theorem dX3_addKind_4 : decode cX3_addKind 4 = .ok (.sipush 4000, 3) := by decide +kernel
theorem dX3_addKind_7 : decode cX3_addKind 7 = .ok (.invokestatic 30, 3) := by decide +kernel
theorem dX3_addKind_10 : decode cX3_addKind 10 = .ok (.iload_n 2, 1) := by decide +kernel
theorem dX3_addKind_11 : decode cX3_addKind 11 = .ok (.iconst 1, 1) := by decide +kernel
theorem dX3_addKind_12 : decode cX3_addKind 12 = .ok (.sipush 500, 3) := by decide +kernel
theorem dX3_addKind_15 : decode cX3_addKind 15 = .ok (.invokestatic 30, 3) := by decide +kernel
theorem dX3_addKind_18 : decode cX3_addKind 18 = .ok (.iload_n 3, 1) := by decide +kernel
theorem dX3_addKind_19 : decode cX3_addKind 19 = .ok (.iconst 0, 1) := by decide +kernel
theorem dX3_addKind_20 : decode cX3_addKind 20 = .ok (.iconst 5, 1) := by decide +kernel
theorem dX3_addKind_21 : decode cX3_addKind 21 = .ok (.invokestatic 30, 3) := by decide +kernel
theorem dX3_addKind_24 : decode cX3_addKind 24 = .ok (.aload_n 0, 1) := by decide +kernel
theorem dX3_addKind_25 : decode cX3_addKind 25 = .ok (.getfield 12, 3) := by decide +kernel
theorem dX3_addKind_28 : decode cX3_addKind 28 = .ok (.getfield 34, 3) := by decide +kernel
theorem dX3_addKind_31 : decode cX3_addKind 31 = .ok (.bipush 6, 2) := by decide +kernel
theorem dX3_addKind_33 : decode cX3_addKind 33 = .ok (.if_icmp .lt 13, 3) := by decide +kernel
theorem dX3_addKind_36 : decode cX3_addKind 36 = .ok (.new 38, 3) := by decide +kernel
theorem dX3_addKind_39 : decode cX3_addKind 39 = .ok (.dup, 1) := by decide +kernel
theorem dX3_addKind_40 : decode cX3_addKind 40 = .ok (.ldc 40, 2) := by decide +kernel
theorem dX3_addKind_42 : decode cX3_addKind 42 = .ok (.invokespecial 42, 3) := by decide +kernel
theorem dX3_addKind_45 : decode cX3_addKind 45 = .ok (.athrow, 1) := by decide +kernel
theorem dX3_addKind_46 : decode cX3_addKind 46 = .ok (.aload_n 0, 1) := by decide +kernel
theorem dX3_addKind_47 : decode cX3_addKind 47 = .ok (.getfield 19, 3) := by decide +kernel
theorem dX3_addKind_50 : decode cX3_addKind 50 = .ok (.aload_n 0, 1) := by decide +kernel
theorem dX3_addKind_51 : decode cX3_addKind 51 = .ok (.getfield 12, 3) := by decide +kernel
theorem dX3_addKind_54 : decode cX3_addKind 54 = .ok (.invokevirtual 45, 3) := by decide +kernel
theorem dX3_addKind_57 : decode cX3_addKind 57 = .ok (.aload_n 0, 1) := by decide +kernel
theorem dX3_addKind_58 : decode cX3_addKind 58 = .ok (.getfield 12, 3) := by decide +kernel
theorem dX3_addKind_61 : decode cX3_addKind 61 = .ok (.iload_n 1, 1) := by decide +kernel
theorem dX3_addKind_62 : decode cX3_addKind 62 = .ok (.iload_n 2, 1) := by decide +kernel
theorem dX3_addKind_63 : decode cX3_addKind 63 = .ok (.iload_n 3, 1) := by decide +kernel
theorem dX3_addKind_64 : decode cX3_addKind 64 = .ok (.invokevirtual 49, 3) := by decide +kernel
theorem dX3_addKind_67 : decode cX3_addKind 67 = .ok (.ireturn, 1) := by decide +kernel
set_option maxRecDepth 20000 in
theorem ggX3_setHome_X3_checkKind : GoodIn wsX3_setHome wsX3_checkKind := goodIn_ca (goodIn_r _ [8, 9, 10, 2, 11, 51, 52, 53, 54, 55, 56, 57, 58, 59, 60, 61, 62, 63, 64, 65, 66] (by decide +kernel) (by decide +kernel)) (goodIn_sub (fun _ h => List.mem_cons_of_mem _ (List.mem_append_left _ (List.mem_append_right _ h))) (by decide +kernel))
set_option maxRecDepth 20000 in
theorem gX3_setHome_X3_checkKind : GoodIn wsX3_setHome (wsV RX3 53 RX3 yX3_checkKind wsX3_checkKind) := goodIn_app (goodIn_of _ (by decide +kernel)) ggX3_setHome_X3_checkKind
set_option maxRecDepth 20000 in
theorem ggX3_setHome_X3_checkArgument : GoodIn wsX3_setHome wsX3_checkArgument := goodIn_ca (goodIn_r _ [14, 15, 16] (by decide +kernel) (by decide +kernel)) (goodIn_sub (fun _ h => List.mem_cons_of_mem _ (List.mem_append_right _ h)) (by decide +kernel))
set_option maxRecDepth 20000 in
theorem gX3_setHome_X3_checkArgument : GoodIn wsX3_setHome (va_wsS RX3 30 yX3_checkArgument wsX3_checkArgument) := goodIn_app (goodIn_of _ (by decide +kernel)) ggX3_setHome_X3_checkArgument
set_option maxRecDepth 20000 in
theorem ggX3_setHome_X1_save : GoodIn wsX3_setHome wsX1_save := goodIn_r _ [21, 22, 23, 24, 25, 26, 27, 28, 29, 30, 31, 32, 33, 34, 35, 36, 37, 38, 39, 40, 41, 42, 43, 44, 45, 46, 47, 48, 49, 50, 67, 68, 69, 54, 55, 56, 57, 58, 59, 60, 61, 62, 63, 64, 65, 66] (by decide +kernel) (by decide +kernel)
set_option maxRecDepth 20000 in
theorem gX3_setHome_X1_save : GoodIn wsX3_setHome (wsV RX3 45 RX1 yX1_save wsX1_save) := goodIn_app (goodIn_of _ (by decide +kernel)) ggX3_setHome_X1_save
theorem dX3_setHome_0 : decode cX3_setHome 0 = .ok (.aload_n 0, 1) := by decide +kernel
theorem dX3_setHome_1 : decode cX3_setHome 1 = .ok (.iload_n 1, 1) := by decide +kernel
theorem dX3_setHome_2 : decode cX3_setHome 2 = .ok (.invokevirtual 53, 3) := by decide +kernel
theorem dX3_setHome_5 : decode cX3_setHome 5 = .ok (.iload_n 2, 1) := by decide +kernel
theorem dX3_setHome_6 : decode cX3_setHome 6 = .ok (.iconst 0, 1) := by decide +kernel
theorem dX3_setHome_7 : decode cX3_setHome 7 = .ok (.iconst 5, 1) := by decide +kernel
theorem dX3_setHome_8 : decode cX3_setHome 8 = .ok (.invokestatic 30, 3) := by decide +kernel
theorem dX3_setHome_11 : decode cX3_setHome 11 = .ok (.aload_n 0, 1) := by decide +kernel
theorem dX3_setHome_12 : decode cX3_setHome 12 = .ok (.getfield 19, 3) := by decide +kernel
theorem dX3_setHome_15 : decode cX3_setHome 15 = .ok (.aload_n 0, 1) := by decide +kernel
theorem dX3_setHome_16 : decode cX3_setHome 16 = .ok (.getfield 12, 3) := by decide +kernel
theorem dX3_setHome_19 : decode cX3_setHome 19 = .ok (.invokevirtual 45, 3) := by decide +kernel
theorem dX3_setHome_22 : decode cX3_setHome 22 = .ok (.aload_n 0, 1) := by decide +kernel
theorem dX3_setHome_23 : decode cX3_setHome 23 = .ok (.getfield 12, 3) := by decide +kernel
theorem dX3_setHome_26 : decode cX3_setHome 26 = .ok (.getfield 57, 3) := by decide +kernel
theorem dX3_setHome_29 : decode cX3_setHome 29 = .ok (.iload_n 1, 1) := by decide +kernel
theorem dX3_setHome_30 : decode cX3_setHome 30 = .ok (.iaload, 1) := by decide +kernel
theorem dX3_setHome_31 : decode cX3_setHome 31 = .ok (.istore_n 3, 1) := by decide +kernel
theorem dX3_setHome_32 : decode cX3_setHome 32 = .ok (.aload_n 0, 1) := by decide +kernel
theorem dX3_setHome_33 : decode cX3_setHome 33 = .ok (.getfield 12, 3) := by decide +kernel
theorem dX3_setHome_36 : decode cX3_setHome 36 = .ok (.getfield 57, 3) := by decide +kernel
theorem dX3_setHome_39 : decode cX3_setHome 39 = .ok (.iload_n 1, 1) := by decide +kernel
theorem dX3_setHome_40 : decode cX3_setHome 40 = .ok (.iload_n 2, 1) := by decide +kernel
theorem dX3_setHome_41 : decode cX3_setHome 41 = .ok (.iastore, 1) := by decide +kernel
theorem dX3_setHome_42 : decode cX3_setHome 42 = .ok (.iload_n 3, 1) := by decide +kernel
theorem dX3_setHome_43 : decode cX3_setHome 43 = .ok (.ireturn, 1) := by decide +kernel
set_option maxRecDepth 20000 in
theorem ggX3_setGap_X3_checkRail : GoodIn wsX3_setGap wsX3_checkRail := goodIn_ca (goodIn_r _ [10, 11, 12, 13, 14, 9, 15] (by decide +kernel) (by decide +kernel)) (goodIn_sub (fun _ h => List.mem_cons_of_mem _ (List.mem_append_left _ (List.mem_append_right _ h))) (by decide +kernel))
set_option maxRecDepth 20000 in
theorem gX3_setGap_X3_checkRail : GoodIn wsX3_setGap (va_wsS RX3 61 yX3_checkRail wsX3_checkRail) := goodIn_app (goodIn_of _ (by decide +kernel)) ggX3_setGap_X3_checkRail
set_option maxRecDepth 20000 in
theorem ggX3_setGap_X3_checkArgument : GoodIn wsX3_setGap wsX3_checkArgument := goodIn_ca (goodIn_r _ [18, 19, 20] (by decide +kernel) (by decide +kernel)) (goodIn_sub (fun _ h => List.mem_cons_of_mem _ (List.mem_append_right _ h)) (by decide +kernel))
set_option maxRecDepth 20000 in
theorem gX3_setGap_X3_checkArgument : GoodIn wsX3_setGap (va_wsS RX3 30 yX3_checkArgument wsX3_checkArgument) := goodIn_app (goodIn_of _ (by decide +kernel)) ggX3_setGap_X3_checkArgument
set_option maxRecDepth 20000 in
theorem ggX3_setGap_X2_isStuck : GoodIn wsX3_setGap wsX2_isStuck := goodIn_r _ [25, 26, 62, 63, 64, 65, 66, 67, 68, 69, 70, 71, 72, 73, 74] (by decide +kernel) (by decide +kernel)
set_option maxRecDepth 20000 in
theorem gX3_setGap_X2_isStuck : GoodIn wsX3_setGap (wsV RX3 64 RX2 yX2_isStuck wsX2_isStuck) := goodIn_app (goodIn_of _ (by decide +kernel)) ggX3_setGap_X2_isStuck
set_option maxRecDepth 20000 in
theorem ggX3_setGap_X1_save : GoodIn wsX3_setGap wsX1_save := goodIn_r _ [31, 32, 33, 34, 35, 36, 37, 38, 39, 40, 41, 24, 42, 43, 44, 45, 46, 47, 48, 49, 50, 51, 52, 53, 54, 26, 55, 56, 57, 58, 75, 76, 77, 62, 63, 64, 65, 66, 67, 68, 69, 70, 71, 72, 73, 74] (by decide +kernel) (by decide +kernel)
set_option maxRecDepth 20000 in
theorem gX3_setGap_X1_save : GoodIn wsX3_setGap (wsV RX3 45 RX1 yX1_save wsX1_save) := goodIn_app (goodIn_of _ (by decide +kernel)) ggX3_setGap_X1_save
theorem dX3_setGap_0 : decode cX3_setGap 0 = .ok (.iload_n 1, 1) := by decide +kernel
theorem dX3_setGap_1 : decode cX3_setGap 1 = .ok (.invokestatic 61, 3) := by decide +kernel
theorem dX3_setGap_4 : decode cX3_setGap 4 = .ok (.iload_n 2, 1) := by decide +kernel
theorem dX3_setGap_5 : decode cX3_setGap 5 = .ok (.sipush 900, 3) := by decide +kernel
theorem dX3_setGap_8 : decode cX3_setGap 8 = .ok (.sipush 4100, 3) := by decide +kernel
theorem dX3_setGap_11 : decode cX3_setGap 11 = .ok (.invokestatic 30, 3) := by decide +kernel
theorem dX3_setGap_14 : decode cX3_setGap 14 = .ok (.aload_n 0, 1) := by decide +kernel
theorem dX3_setGap_15 : decode cX3_setGap 15 = .ok (.getfield 12, 3) := by decide +kernel
theorem dX3_setGap_18 : decode cX3_setGap 18 = .ok (.iload_n 1, 1) := by decide +kernel
theorem dX3_setGap_19 : decode cX3_setGap 19 = .ok (.invokevirtual 64, 3) := by decide +kernel
theorem dX3_setGap_22 : decode cX3_setGap 22 = .ok (.ifCond .eq 13, 3) := by decide +kernel
theorem dX3_setGap_25 : decode cX3_setGap 25 = .ok (.new 38, 3) := by decide +kernel
theorem dX3_setGap_28 : decode cX3_setGap 28 = .ok (.dup, 1) := by decide +kernel
theorem dX3_setGap_29 : decode cX3_setGap 29 = .ok (.ldc 68, 2) := by decide +kernel
theorem dX3_setGap_31 : decode cX3_setGap 31 = .ok (.invokespecial 42, 3) := by decide +kernel
theorem dX3_setGap_34 : decode cX3_setGap 34 = .ok (.athrow, 1) := by decide +kernel
theorem dX3_setGap_35 : decode cX3_setGap 35 = .ok (.aload_n 0, 1) := by decide +kernel
theorem dX3_setGap_36 : decode cX3_setGap 36 = .ok (.getfield 19, 3) := by decide +kernel
theorem dX3_setGap_39 : decode cX3_setGap 39 = .ok (.aload_n 0, 1) := by decide +kernel
theorem dX3_setGap_40 : decode cX3_setGap 40 = .ok (.getfield 12, 3) := by decide +kernel
theorem dX3_setGap_43 : decode cX3_setGap 43 = .ok (.invokevirtual 45, 3) := by decide +kernel
theorem dX3_setGap_46 : decode cX3_setGap 46 = .ok (.aload_n 0, 1) := by decide +kernel
theorem dX3_setGap_47 : decode cX3_setGap 47 = .ok (.getfield 12, 3) := by decide +kernel
theorem dX3_setGap_50 : decode cX3_setGap 50 = .ok (.getfield 70, 3) := by decide +kernel
theorem dX3_setGap_53 : decode cX3_setGap 53 = .ok (.iload_n 1, 1) := by decide +kernel
theorem dX3_setGap_54 : decode cX3_setGap 54 = .ok (.iaload, 1) := by decide +kernel
theorem dX3_setGap_55 : decode cX3_setGap 55 = .ok (.istore_n 3, 1) := by decide +kernel
theorem dX3_setGap_56 : decode cX3_setGap 56 = .ok (.aload_n 0, 1) := by decide +kernel
theorem dX3_setGap_57 : decode cX3_setGap 57 = .ok (.getfield 12, 3) := by decide +kernel
theorem dX3_setGap_60 : decode cX3_setGap 60 = .ok (.getfield 70, 3) := by decide +kernel
theorem dX3_setGap_63 : decode cX3_setGap 63 = .ok (.iload_n 1, 1) := by decide +kernel
theorem dX3_setGap_64 : decode cX3_setGap 64 = .ok (.iload_n 2, 1) := by decide +kernel
theorem dX3_setGap_65 : decode cX3_setGap 65 = .ok (.iastore, 1) := by decide +kernel
theorem dX3_setGap_66 : decode cX3_setGap 66 = .ok (.aload_n 0, 1) := by decide +kernel
theorem dX3_setGap_67 : decode cX3_setGap 67 = .ok (.getfield 12, 3) := by decide +kernel
theorem dX3_setGap_70 : decode cX3_setGap 70 = .ok (.getfield 73, 3) := by decide +kernel
theorem dX3_setGap_73 : decode cX3_setGap 73 = .ok (.iload_n 1, 1) := by decide +kernel
theorem dX3_setGap_74 : decode cX3_setGap 74 = .ok (.iconst 0, 1) := by decide +kernel
theorem dX3_setGap_75 : decode cX3_setGap 75 = .ok (.iastore, 1) := by decide +kernel
theorem dX3_setGap_76 : decode cX3_setGap 76 = .ok (.iload_n 3, 1) := by decide +kernel
theorem dX3_setGap_77 : decode cX3_setGap 77 = .ok (.ireturn, 1) := by decide +kernel
set_option maxRecDepth 20000 in
theorem ggX3_feed_X3_checkKind : GoodIn wsX3_feed wsX3_checkKind := goodIn_ca (goodIn_r _ [7, 8, 9, 2, 10, 90, 91, 92, 93, 94, 95, 96, 97, 98, 99, 100, 101, 102, 103, 104, 105] (by decide +kernel) (by decide +kernel)) (goodIn_sub (fun _ h => List.mem_cons_of_mem _ (List.mem_append_left _ (List.mem_append_right _ h))) (by decide +kernel))
set_option maxRecDepth 20000 in
theorem gX3_feed_X3_checkKind : GoodIn wsX3_feed (wsV RX3 53 RX3 yX3_checkKind wsX3_checkKind) := goodIn_app (goodIn_of _ (by decide +kernel)) ggX3_feed_X3_checkKind
set_option maxRecDepth 20000 in
theorem ggX3_feed_X3_checkArgument : GoodIn wsX3_feed wsX3_checkArgument := goodIn_ca (goodIn_r _ [13, 14, 15] (by decide +kernel) (by decide +kernel)) (goodIn_sub (fun _ h => List.mem_cons_of_mem _ (List.mem_append_right _ h)) (by decide +kernel))
set_option maxRecDepth 20000 in
theorem gX3_feed_X3_checkArgument : GoodIn wsX3_feed (va_wsS RX3 30 yX3_checkArgument wsX3_checkArgument) := goodIn_app (goodIn_of _ (by decide +kernel)) ggX3_feed_X3_checkArgument
set_option maxRecDepth 20000 in
theorem ggX3_feed_X1_save : GoodIn wsX3_feed wsX1_save := goodIn_r _ [20, 21, 22, 23, 24, 25, 26, 27, 28, 29, 30, 31, 32, 33, 34, 35, 36, 37, 38, 39, 40, 41, 42, 43, 44, 45, 46, 47, 48, 49, 106, 107, 108, 93, 94, 95, 96, 97, 98, 99, 100, 101, 102, 103, 104, 105] (by decide +kernel) (by decide +kernel)
set_option maxRecDepth 20000 in
theorem gX3_feed_X1_save : GoodIn wsX3_feed (wsV RX3 45 RX1 yX1_save wsX1_save) := goodIn_app (goodIn_of _ (by decide +kernel)) ggX3_feed_X1_save
set_option maxRecDepth 20000 in
theorem ggX3_feed_X2_putCoin : GoodIn wsX3_feed wsX2_putCoin := goodIn_r _ [53, 41, 42, 45, 46, 48, 54, 55, 56, 31, 57, 43, 58, 59, 60, 61, 62, 25, 26, 27, 63, 64, 65, 66, 34, 67, 68, 69, 70, 71, 72, 73, 74, 75, 76, 77, 78, 79, 80, 81, 82, 83, 84, 85, 47, 86, 87, 88, 89, 44, 93, 94, 95, 96, 97, 98, 99, 100, 101, 102, 103, 104, 105] (by decide +kernel) (by decide +kernel)
set_option maxRecDepth 20000 in
theorem gX3_feed_X2_putCoin : GoodIn wsX3_feed (wsV RX3 76 RX2 yX2_putCoin wsX2_putCoin) := goodIn_app (goodIn_of _ (by decide +kernel)) ggX3_feed_X2_putCoin
theorem dX3_feed_0 : decode cX3_feed 0 = .ok (.aload_n 0, 1) := by decide +kernel
theorem dX3_feed_1 : decode cX3_feed 1 = .ok (.iload_n 1, 1) := by decide +kernel
theorem dX3_feed_2 : decode cX3_feed 2 = .ok (.invokevirtual 53, 3) := by decide +kernel
theorem dX3_feed_5 : decode cX3_feed 5 = .ok (.iload_n 2, 1) := by decide +kernel
theorem dX3_feed_6 : decode cX3_feed 6 = .ok (.iconst 0, 1) := by decide +kernel
theorem dX3_feed_7 : decode cX3_feed 7 = .ok (.sipush 999, 3) := by decide +kernel
theorem dX3_feed_10 : decode cX3_feed 10 = .ok (.invokestatic 30, 3) := by decide +kernel
theorem dX3_feed_13 : decode cX3_feed 13 = .ok (.aload_n 0, 1) := by decide +kernel
theorem dX3_feed_14 : decode cX3_feed 14 = .ok (.getfield 19, 3) := by decide +kernel
theorem dX3_feed_17 : decode cX3_feed 17 = .ok (.aload_n 0, 1) := by decide +kernel
theorem dX3_feed_18 : decode cX3_feed 18 = .ok (.getfield 12, 3) := by decide +kernel
theorem dX3_feed_21 : decode cX3_feed 21 = .ok (.invokevirtual 45, 3) := by decide +kernel
theorem dX3_feed_24 : decode cX3_feed 24 = .ok (.aload_n 0, 1) := by decide +kernel
theorem dX3_feed_25 : decode cX3_feed 25 = .ok (.getfield 12, 3) := by decide +kernel
theorem dX3_feed_28 : decode cX3_feed 28 = .ok (.iload_n 1, 1) := by decide +kernel
theorem dX3_feed_29 : decode cX3_feed 29 = .ok (.iload_n 2, 1) := by decide +kernel
theorem dX3_feed_30 : decode cX3_feed 30 = .ok (.invokevirtual 76, 3) := by decide +kernel
theorem dX3_feed_33 : decode cX3_feed 33 = .ok (.ireturn, 1) := by decide +kernel
set_option maxRecDepth 20000 in
theorem ggX3_feedSome_X3_checkArgument : GoodIn wsX3_feedSome wsX3_checkArgument := goodIn_ca (goodIn_r _ [10, 11, 12] (by decide +kernel) (by decide +kernel)) (goodIn_sub (fun _ h => List.mem_cons_of_mem _ (List.mem_append_right _ h)) (by decide +kernel))
set_option maxRecDepth 20000 in
theorem gX3_feedSome_X3_checkArgument : GoodIn wsX3_feedSome (va_wsS RX3 30 yX3_checkArgument wsX3_checkArgument) := goodIn_app (goodIn_of _ (by decide +kernel)) ggX3_feedSome_X3_checkArgument
set_option maxRecDepth 20000 in
theorem ggX3_feedSome_X1_save : GoodIn wsX3_feedSome wsX1_save := goodIn_r _ [17, 18, 19, 20, 21, 22, 23, 24, 25, 26, 27, 28, 29, 30, 31, 32, 33, 34, 35, 36, 37, 38, 39, 40, 41, 42, 43, 44, 45, 46, 113, 114, 115, 100, 101, 102, 103, 104, 105, 106, 107, 108, 109, 110, 111, 112] (by decide +kernel) (by decide +kernel)
set_option maxRecDepth 20000 in
theorem gX3_feedSome_X1_save : GoodIn wsX3_feedSome (wsV RX3 45 RX1 yX1_save wsX1_save) := goodIn_app (goodIn_of _ (by decide +kernel)) ggX3_feedSome_X1_save
set_option maxRecDepth 20000 in
theorem ggX3_feedSome_X2_putCoinsByChance : GoodIn wsX3_feedSome wsX2_putCoinsByChance := goodIn_r _ [50, 51, 52, 53, 54, 30, 55, 56, 57, 58, 59, 28, 60, 38, 39, 42, 43, 45, 61, 62, 63, 64, 40, 65, 66, 67, 68, 69, 22, 23, 24, 70, 71, 72, 73, 31, 74, 75, 76, 77, 78, 79, 80, 81, 82, 83, 84, 85, 86, 87, 88, 89, 90, 91, 92, 44, 93, 94, 95, 96, 41, 100, 101, 102, 103, 104, 105, 106, 107, 108, 109, 110, 111, 112] (by decide +kernel) (by decide +kernel)
set_option maxRecDepth 20000 in
theorem gX3_feedSome_X2_putCoinsByChance : GoodIn wsX3_feedSome (wsV RX3 83 RX2 yX2_putCoinsByChance wsX2_putCoinsByChance) := goodIn_app (goodIn_of _ (by decide +kernel)) ggX3_feedSome_X2_putCoinsByChance
theorem dX3_feedSome_0 : decode cX3_feedSome 0 = .ok (.iload_n 1, 1) := by decide +kernel
theorem dX3_feedSome_1 : decode cX3_feedSome 1 = .ok (.iconst 0, 1) := by decide +kernel
theorem dX3_feedSome_2 : decode cX3_feedSome 2 = .ok (.sipush 200, 3) := by decide +kernel
theorem dX3_feedSome_5 : decode cX3_feedSome 5 = .ok (.invokestatic 30, 3) := by decide +kernel
theorem dX3_feedSome_8 : decode cX3_feedSome 8 = .ok (.iload_n 2, 1) := by decide +kernel
theorem dX3_feedSome_9 : decode cX3_feedSome 9 = .ok (.iconst 0, 1) := by decide +kernel
theorem dX3_feedSome_10 : decode cX3_feedSome 10 = .ok (.ldc 80, 2) := by decide +kernel
theorem dX3_feedSome_12 : decode cX3_feedSome 12 = .ok (.invokestatic 30, 3) := by decide +kernel
theorem dX3_feedSome_15 : decode cX3_feedSome 15 = .ok (.aload_n 0, 1) := by decide +kernel
theorem dX3_feedSome_16 : decode cX3_feedSome 16 = .ok (.getfield 12, 3) := by decide +kernel
theorem dX3_feedSome_19 : decode cX3_feedSome 19 = .ok (.getfield 34, 3) := by decide +kernel
theorem dX3_feedSome_22 : decode cX3_feedSome 22 = .ok (.ifCond .ne 13, 3) := by decide +kernel
theorem dX3_feedSome_25 : decode cX3_feedSome 25 = .ok (.new 38, 3) := by decide +kernel
theorem dX3_feedSome_28 : decode cX3_feedSome 28 = .ok (.dup, 1) := by decide +kernel
theorem dX3_feedSome_29 : decode cX3_feedSome 29 = .ok (.ldc 81, 2) := by decide +kernel
theorem dX3_feedSome_31 : decode cX3_feedSome 31 = .ok (.invokespecial 42, 3) := by decide +kernel
theorem dX3_feedSome_34 : decode cX3_feedSome 34 = .ok (.athrow, 1) := by decide +kernel
theorem dX3_feedSome_35 : decode cX3_feedSome 35 = .ok (.aload_n 0, 1) := by decide +kernel
theorem dX3_feedSome_36 : decode cX3_feedSome 36 = .ok (.getfield 19, 3) := by decide +kernel
theorem dX3_feedSome_39 : decode cX3_feedSome 39 = .ok (.aload_n 0, 1) := by decide +kernel
theorem dX3_feedSome_40 : decode cX3_feedSome 40 = .ok (.getfield 12, 3) := by decide +kernel
theorem dX3_feedSome_43 : decode cX3_feedSome 43 = .ok (.invokevirtual 45, 3) := by decide +kernel
theorem dX3_feedSome_46 : decode cX3_feedSome 46 = .ok (.aload_n 0, 1) := by decide +kernel
theorem dX3_feedSome_47 : decode cX3_feedSome 47 = .ok (.getfield 12, 3) := by decide +kernel
theorem dX3_feedSome_50 : decode cX3_feedSome 50 = .ok (.iload_n 1, 1) := by decide +kernel
theorem dX3_feedSome_51 : decode cX3_feedSome 51 = .ok (.iload_n 2, 1) := by decide +kernel
theorem dX3_feedSome_52 : decode cX3_feedSome 52 = .ok (.invokevirtual 83, 3) := by decide +kernel
theorem dX3_feedSome_55 : decode cX3_feedSome 55 = .ok (.ireturn, 1) := by decide +kernel
set_option maxRecDepth 20000 in
theorem ggX3_free_X3_checkRail : GoodIn wsX3_free wsX3_checkRail := goodIn_ca (goodIn_r _ [8, 9, 10, 11, 12, 7, 13] (by decide +kernel) (by decide +kernel)) (goodIn_sub (fun _ h => List.mem_cons_of_mem _ (List.mem_append_right _ h)) (by decide +kernel))
set_option maxRecDepth 20000 in
theorem gX3_free_X3_checkRail : GoodIn wsX3_free (va_wsS RX3 61 yX3_checkRail wsX3_checkRail) := goodIn_app (goodIn_of _ (by decide +kernel)) ggX3_free_X3_checkRail
set_option maxRecDepth 20000 in
theorem ggX3_free_X2_isStuck : GoodIn wsX3_free wsX2_isStuck := goodIn_r _ [18, 19, 67, 68, 69, 70, 71, 72, 73, 74, 75, 76, 77, 78, 79] (by decide +kernel) (by decide +kernel)
set_option maxRecDepth 20000 in
theorem gX3_free_X2_isStuck : GoodIn wsX3_free (wsV RX3 64 RX2 yX2_isStuck wsX2_isStuck) := goodIn_app (goodIn_of _ (by decide +kernel)) ggX3_free_X2_isStuck
set_option maxRecDepth 20000 in
theorem ggX3_free_X1_save : GoodIn wsX3_free wsX1_save := goodIn_r _ [24, 25, 26, 27, 28, 29, 30, 31, 32, 33, 34, 17, 35, 36, 37, 38, 39, 40, 41, 42, 43, 44, 45, 46, 47, 19, 48, 49, 50, 51, 80, 81, 82, 67, 68, 69, 70, 71, 72, 73, 74, 75, 76, 77, 78, 79] (by decide +kernel) (by decide +kernel)
set_option maxRecDepth 20000 in
theorem gX3_free_X1_save : GoodIn wsX3_free (wsV RX3 45 RX1 yX1_save wsX1_save) := goodIn_app (goodIn_of _ (by decide +kernel)) ggX3_free_X1_save
set_option maxRecDepth 20000 in
theorem ggX3_free_X2_loosen : GoodIn wsX3_free wsX2_loosen := goodIn_r _ [55, 19, 45, 50, 48, 56, 57, 58, 17, 59, 60, 61, 62, 63, 67, 68, 69, 70, 71, 72, 73, 74, 75, 76, 77, 78, 79] (by decide +kernel) (by decide +kernel)
set_option maxRecDepth 20000 in
theorem gX3_free_X2_loosen : GoodIn wsX3_free (wsV RX3 88 RX2 yX2_loosen wsX2_loosen) := goodIn_app (goodIn_of _ (by decide +kernel)) ggX3_free_X2_loosen
theorem dX3_free_0 : decode cX3_free 0 = .ok (.iload_n 1, 1) := by decide +kernel
theorem dX3_free_1 : decode cX3_free 1 = .ok (.invokestatic 61, 3) := by decide +kernel
theorem dX3_free_4 : decode cX3_free 4 = .ok (.aload_n 0, 1) := by decide +kernel
theorem dX3_free_5 : decode cX3_free 5 = .ok (.getfield 12, 3) := by decide +kernel
theorem dX3_free_8 : decode cX3_free 8 = .ok (.iload_n 1, 1) := by decide +kernel
theorem dX3_free_9 : decode cX3_free 9 = .ok (.invokevirtual 64, 3) := by decide +kernel
theorem dX3_free_12 : decode cX3_free 12 = .ok (.ifCond .ne 13, 3) := by decide +kernel
theorem dX3_free_15 : decode cX3_free 15 = .ok (.new 38, 3) := by decide +kernel
theorem dX3_free_18 : decode cX3_free 18 = .ok (.dup, 1) := by decide +kernel
theorem dX3_free_19 : decode cX3_free 19 = .ok (.ldc 86, 2) := by decide +kernel
theorem dX3_free_21 : decode cX3_free 21 = .ok (.invokespecial 42, 3) := by decide +kernel
theorem dX3_free_24 : decode cX3_free 24 = .ok (.athrow, 1) := by decide +kernel
theorem dX3_free_25 : decode cX3_free 25 = .ok (.aload_n 0, 1) := by decide +kernel
theorem dX3_free_26 : decode cX3_free 26 = .ok (.getfield 19, 3) := by decide +kernel
theorem dX3_free_29 : decode cX3_free 29 = .ok (.aload_n 0, 1) := by decide +kernel
theorem dX3_free_30 : decode cX3_free 30 = .ok (.getfield 12, 3) := by decide +kernel
theorem dX3_free_33 : decode cX3_free 33 = .ok (.invokevirtual 45, 3) := by decide +kernel
theorem dX3_free_36 : decode cX3_free 36 = .ok (.aload_n 0, 1) := by decide +kernel
theorem dX3_free_37 : decode cX3_free 37 = .ok (.getfield 12, 3) := by decide +kernel
theorem dX3_free_40 : decode cX3_free 40 = .ok (.iload_n 1, 1) := by decide +kernel
theorem dX3_free_41 : decode cX3_free 41 = .ok (.invokevirtual 88, 3) := by decide +kernel
theorem dX3_free_44 : decode cX3_free 44 = .ok (.ireturn, 1) := by decide +kernel
set_option maxRecDepth 20000 in
theorem ggX3_takeBag_X3_checkRail : GoodIn wsX3_takeBag wsX3_checkRail := goodIn_ca (goodIn_r _ [6, 7, 8, 9, 10, 5, 11] (by decide +kernel) (by decide +kernel)) (goodIn_sub (fun _ h => List.mem_cons_of_mem _ (List.mem_append_right _ h)) (by decide +kernel))
set_option maxRecDepth 20000 in
theorem gX3_takeBag_X3_checkRail : GoodIn wsX3_takeBag (va_wsS RX3 61 yX3_checkRail wsX3_checkRail) := goodIn_app (goodIn_of _ (by decide +kernel)) ggX3_takeBag_X3_checkRail
set_option maxRecDepth 20000 in
theorem ggX3_takeBag_X1_save : GoodIn wsX3_takeBag wsX1_save := goodIn_r _ [16, 17, 18, 19, 20, 21, 22, 23, 24, 25, 26, 27, 28, 29, 30, 31, 32, 33, 34, 35, 36, 37, 38, 39, 40, 41, 42, 43, 44, 45, 57, 58, 59, 60, 61, 62, 63, 64, 65, 66, 67, 68, 69, 70, 71, 72] (by decide +kernel) (by decide +kernel)
set_option maxRecDepth 20000 in
theorem gX3_takeBag_X1_save : GoodIn wsX3_takeBag (wsV RX3 45 RX1 yX1_save wsX1_save) := goodIn_app (goodIn_of _ (by decide +kernel)) ggX3_takeBag_X1_save
set_option maxRecDepth 20000 in
theorem ggX3_takeBag_X2_emptyBag : GoodIn wsX3_takeBag wsX2_emptyBag := goodIn_r _ [49, 44, 45, 50, 51, 52, 27, 53, 60, 61, 62, 63, 64, 65, 66, 67, 68, 69, 70, 71, 72] (by decide +kernel) (by decide +kernel)
set_option maxRecDepth 20000 in
theorem gX3_takeBag_X2_emptyBag : GoodIn wsX3_takeBag (wsV RX3 92 RX2 yX2_emptyBag wsX2_emptyBag) := goodIn_app (goodIn_of _ (by decide +kernel)) ggX3_takeBag_X2_emptyBag
theorem dX3_takeBag_0 : decode cX3_takeBag 0 = .ok (.iload_n 1, 1) := by decide +kernel
theorem dX3_takeBag_1 : decode cX3_takeBag 1 = .ok (.invokestatic 61, 3) := by decide +kernel
theorem dX3_takeBag_4 : decode cX3_takeBag 4 = .ok (.aload_n 0, 1) := by decide +kernel
theorem dX3_takeBag_5 : decode cX3_takeBag 5 = .ok (.getfield 19, 3) := by decide +kernel
theorem dX3_takeBag_8 : decode cX3_takeBag 8 = .ok (.aload_n 0, 1) := by decide +kernel
theorem dX3_takeBag_9 : decode cX3_takeBag 9 = .ok (.getfield 12, 3) := by decide +kernel
theorem dX3_takeBag_12 : decode cX3_takeBag 12 = .ok (.invokevirtual 45, 3) := by decide +kernel
theorem dX3_takeBag_15 : decode cX3_takeBag 15 = .ok (.aload_n 0, 1) := by decide +kernel
theorem dX3_takeBag_16 : decode cX3_takeBag 16 = .ok (.getfield 12, 3) := by decide +kernel
theorem dX3_takeBag_19 : decode cX3_takeBag 19 = .ok (.iload_n 1, 1) := by decide +kernel
theorem dX3_takeBag_20 : decode cX3_takeBag 20 = .ok (.invokevirtual 92, 3) := by decide +kernel
theorem dX3_takeBag_23 : decode cX3_takeBag 23 = .ok (.ireturn, 1) := by decide +kernel
set_option maxRecDepth 20000 in
theorem ggX3_takeRejects_X1_save : GoodIn wsX3_takeRejects wsX1_save := goodIn_r _ [7, 8, 9, 10, 11, 12, 13, 14, 15, 16, 17, 18, 19, 20, 21, 22, 23, 24, 25, 26, 27, 28, 29, 30, 31, 32, 33, 34, 35, 36, 47, 48, 49, 50, 51, 52, 53, 54, 55, 56, 57, 58, 59, 60, 61, 62] (by decide +kernel) (by decide +kernel)
set_option maxRecDepth 20000 in
theorem gX3_takeRejects_X1_save : GoodIn wsX3_takeRejects (wsV RX3 45 RX1 yX1_save wsX1_save) := goodIn_app (goodIn_of _ (by decide +kernel)) ggX3_takeRejects_X1_save
set_option maxRecDepth 20000 in
theorem ggX3_takeRejects_X2_removeRejects : GoodIn wsX3_takeRejects wsX2_removeRejects := goodIn_r _ [40, 29, 36, 41, 42, 18, 43, 50, 51, 52, 53, 54, 55, 56, 57, 58, 59, 60, 61, 62] (by decide +kernel) (by decide +kernel)
set_option maxRecDepth 20000 in
theorem gX3_takeRejects_X2_removeRejects : GoodIn wsX3_takeRejects (wsV RX3 95 RX2 yX2_removeRejects wsX2_removeRejects) := goodIn_app (goodIn_of _ (by decide +kernel)) ggX3_takeRejects_X2_removeRejects
theorem dX3_takeRejects_0 : decode cX3_takeRejects 0 = .ok (.aload_n 0, 1) := by decide +kernel
theorem dX3_takeRejects_1 : decode cX3_takeRejects 1 = .ok (.getfield 19, 3) := by decide +kernel
theorem dX3_takeRejects_4 : decode cX3_takeRejects 4 = .ok (.aload_n 0, 1) := by decide +kernel
theorem dX3_takeRejects_5 : decode cX3_takeRejects 5 = .ok (.getfield 12, 3) := by decide +kernel
theorem dX3_takeRejects_8 : decode cX3_takeRejects 8 = .ok (.invokevirtual 45, 3) := by decide +kernel
theorem dX3_takeRejects_11 : decode cX3_takeRejects 11 = .ok (.aload_n 0, 1) := by decide +kernel
theorem dX3_takeRejects_12 : decode cX3_takeRejects 12 = .ok (.getfield 12, 3) := by decide +kernel
theorem dX3_takeRejects_15 : decode cX3_takeRejects 15 = .ok (.invokevirtual 95, 3) := by decide +kernel
theorem dX3_takeRejects_18 : decode cX3_takeRejects 18 = .ok (.ireturn, 1) := by decide +kernel
set_option maxRecDepth 20000 in
theorem ggX3_kind_X3_checkKind : GoodIn wsX3_kind wsX3_checkKind := goodIn_ca (goodIn_r _ [6, 7, 8, 1, 9, 39, 40, 41, 42, 43, 44, 45, 46, 47, 48, 49, 50, 51, 52, 53, 54] (by decide +kernel) (by decide +kernel)) (goodIn_sub (fun _ h => List.mem_cons_of_mem _ (List.mem_append_left _ (List.mem_append_right _ h))) (by decide +kernel))
set_option maxRecDepth 20000 in
theorem gX3_kind_X3_checkKind : GoodIn wsX3_kind (wsV RX3 53 RX3 yX3_checkKind wsX3_checkKind) := goodIn_app (goodIn_of _ (by decide +kernel)) ggX3_kind_X3_checkKind
set_option maxRecDepth 20000 in
theorem ggX3_kind_X3_checkArgument : GoodIn wsX3_kind wsX3_checkArgument := goodIn_ca (goodIn_r _ [12, 13, 14] (by decide +kernel) (by decide +kernel)) (goodIn_sub (fun _ h => List.mem_cons_of_mem _ (List.mem_append_right _ h)) (by decide +kernel))
set_option maxRecDepth 20000 in
theorem gX3_kind_X3_checkArgument : GoodIn wsX3_kind (va_wsS RX3 30 yX3_checkArgument wsX3_checkArgument) := goodIn_app (goodIn_of _ (by decide +kernel)) ggX3_kind_X3_checkArgument
set_option maxRecDepth 20000 in
theorem ggX3_kind_X2_aboutKind : GoodIn wsX3_kind wsX2_aboutKind := goodIn_r _ [19, 20, 21, 22, 23, 24, 25, 26, 27, 18, 28, 29, 30, 31, 32, 33, 34, 35, 36, 37, 38, 42, 43, 44, 45, 46, 47, 48, 49, 50, 51, 52, 53, 54] (by decide +kernel) (by decide +kernel)
set_option maxRecDepth 20000 in
theorem gX3_kind_X2_aboutKind : GoodIn wsX3_kind (wsV RX3 99 RX2 yX2_aboutKind wsX2_aboutKind) := goodIn_app (goodIn_of _ (by decide +kernel)) ggX3_kind_X2_aboutKind
theorem dX3_kind_0 : decode cX3_kind 0 = .ok (.aload_n 0, 1) := by decide +kernel
theorem dX3_kind_1 : decode cX3_kind 1 = .ok (.iload_n 1, 1) := by decide +kernel
theorem dX3_kind_2 : decode cX3_kind 2 = .ok (.invokevirtual 53, 3) := by decide +kernel
theorem dX3_kind_5 : decode cX3_kind 5 = .ok (.iload_n 2, 1) := by decide +kernel
theorem dX3_kind_6 : decode cX3_kind 6 = .ok (.iconst 0, 1) := by decide +kernel
theorem dX3_kind_7 : decode cX3_kind 7 = .ok (.bipush 6, 2) := by decide +kernel
theorem dX3_kind_9 : decode cX3_kind 9 = .ok (.invokestatic 30, 3) := by decide +kernel
theorem dX3_kind_12 : decode cX3_kind 12 = .ok (.aload_n 0, 1) := by decide +kernel
theorem dX3_kind_13 : decode cX3_kind 13 = .ok (.getfield 12, 3) := by decide +kernel
theorem dX3_kind_16 : decode cX3_kind 16 = .ok (.iload_n 1, 1) := by decide +kernel
theorem dX3_kind_17 : decode cX3_kind 17 = .ok (.iload_n 2, 1) := by decide +kernel
theorem dX3_kind_18 : decode cX3_kind 18 = .ok (.invokevirtual 99, 3) := by decide +kernel
theorem dX3_kind_21 : decode cX3_kind 21 = .ok (.ireturn, 1) := by decide +kernel
set_option maxRecDepth 20000 in
theorem ggX3_rail_X3_checkRail : GoodIn wsX3_rail wsX3_checkRail := goodIn_ca (goodIn_r _ [5, 6, 7, 8, 9, 4, 10] (by decide +kernel) (by decide +kernel)) (goodIn_sub (fun _ h => List.mem_cons_of_mem _ (List.mem_append_left _ (List.mem_append_right _ h))) (by decide +kernel))
set_option maxRecDepth 20000 in
theorem gX3_rail_X3_checkRail : GoodIn wsX3_rail (va_wsS RX3 61 yX3_checkRail wsX3_checkRail) := goodIn_app (goodIn_of _ (by decide +kernel)) ggX3_rail_X3_checkRail
set_option maxRecDepth 20000 in
theorem ggX3_rail_X3_checkArgument : GoodIn wsX3_rail wsX3_checkArgument := goodIn_ca (goodIn_r _ [13, 14, 15] (by decide +kernel) (by decide +kernel)) (goodIn_sub (fun _ h => List.mem_cons_of_mem _ (List.mem_append_right _ h)) (by decide +kernel))
set_option maxRecDepth 20000 in
theorem gX3_rail_X3_checkArgument : GoodIn wsX3_rail (va_wsS RX3 30 yX3_checkArgument wsX3_checkArgument) := goodIn_app (goodIn_of _ (by decide +kernel)) ggX3_rail_X3_checkArgument
set_option maxRecDepth 20000 in
theorem ggX3_rail_X2_aboutRail : GoodIn wsX3_rail wsX2_aboutRail := goodIn_r _ [20, 21, 22, 23, 24, 25, 26, 27, 28, 19, 29, 30, 31, 32, 33, 34, 35, 36, 37, 38, 39, 40, 41, 42, 43, 44, 45, 46, 47, 48, 49, 50, 51, 52, 53, 57, 58, 59, 60, 61, 62, 63, 64, 65, 66, 67, 68, 69] (by decide +kernel) (by decide +kernel)
set_option maxRecDepth 20000 in
theorem gX3_rail_X2_aboutRail : GoodIn wsX3_rail (wsV RX3 102 RX2 yX2_aboutRail wsX2_aboutRail) := goodIn_app (goodIn_of _ (by decide +kernel)) ggX3_rail_X2_aboutRail
theorem dX3_rail_0 : decode cX3_rail 0 = .ok (.iload_n 1, 1) := by decide +kernel
theorem dX3_rail_1 : decode cX3_rail 1 = .ok (.invokestatic 61, 3) := by decide +kernel
theorem dX3_rail_4 : decode cX3_rail 4 = .ok (.iload_n 2, 1) := by decide +kernel
theorem dX3_rail_5 : decode cX3_rail 5 = .ok (.iconst 0, 1) := by decide +kernel
theorem dX3_rail_6 : decode cX3_rail 6 = .ok (.bipush 9, 2) := by decide +kernel
theorem dX3_rail_8 : decode cX3_rail 8 = .ok (.invokestatic 30, 3) := by decide +kernel
theorem dX3_rail_11 : decode cX3_rail 11 = .ok (.aload_n 0, 1) := by decide +kernel
theorem dX3_rail_12 : decode cX3_rail 12 = .ok (.getfield 12, 3) := by decide +kernel
theorem dX3_rail_15 : decode cX3_rail 15 = .ok (.iload_n 1, 1) := by decide +kernel
theorem dX3_rail_16 : decode cX3_rail 16 = .ok (.iload_n 2, 1) := by decide +kernel
theorem dX3_rail_17 : decode cX3_rail 17 = .ok (.invokevirtual 102, 3) := by decide +kernel
theorem dX3_rail_20 : decode cX3_rail 20 = .ok (.ireturn, 1) := by decide +kernel
set_option maxRecDepth 20000 in
theorem ggX3_count_X3_checkRail : GoodIn wsX3_count wsX3_checkRail := goodIn_ca (goodIn_r _ [5, 6, 7, 8, 9, 4, 10] (by decide +kernel) (by decide +kernel)) (goodIn_sub (fun _ h => List.mem_cons_of_mem _ (List.mem_append_right _ h)) (by decide +kernel))
set_option maxRecDepth 20000 in
theorem gX3_count_X3_checkRail : GoodIn wsX3_count (va_wsS RX3 61 yX3_checkRail wsX3_checkRail) := goodIn_app (goodIn_of _ (by decide +kernel)) ggX3_count_X3_checkRail
set_option maxRecDepth 20000 in
theorem ggX3_count_X3_checkKind : GoodIn wsX3_count wsX3_checkKind := goodIn_ca (goodIn_r _ [14, 6, 7, 1, 15, 22, 23, 24, 25, 26, 27, 28, 29, 30, 31, 32, 33, 34, 35, 36, 37] (by decide +kernel) (by decide +kernel)) (goodIn_sub (fun _ h => List.mem_cons_of_mem _ (List.mem_append_right _ h)) (by decide +kernel))
set_option maxRecDepth 20000 in
theorem gX3_count_X3_checkKind : GoodIn wsX3_count (wsV RX3 53 RX3 yX3_checkKind wsX3_checkKind) := goodIn_app (goodIn_of _ (by decide +kernel)) ggX3_count_X3_checkKind
set_option maxRecDepth 20000 in
theorem ggX3_count_X2_coinsOfKind : GoodIn wsX3_count wsX2_coinsOfKind := goodIn_r _ [20, 21, 25, 26, 27, 28, 29, 30, 31, 32, 33, 34, 35, 36, 37] (by decide +kernel) (by decide +kernel)
set_option maxRecDepth 20000 in
theorem gX3_count_X2_coinsOfKind : GoodIn wsX3_count (wsV RX3 105 RX2 yX2_coinsOfKind wsX2_coinsOfKind) := goodIn_app (goodIn_of _ (by decide +kernel)) ggX3_count_X2_coinsOfKind
theorem dX3_count_0 : decode cX3_count 0 = .ok (.iload_n 1, 1) := by decide +kernel
theorem dX3_count_1 : decode cX3_count 1 = .ok (.invokestatic 61, 3) := by decide +kernel
theorem dX3_count_4 : decode cX3_count 4 = .ok (.aload_n 0, 1) := by decide +kernel
theorem dX3_count_5 : decode cX3_count 5 = .ok (.iload_n 2, 1) := by decide +kernel
theorem dX3_count_6 : decode cX3_count 6 = .ok (.invokevirtual 53, 3) := by decide +kernel
theorem dX3_count_9 : decode cX3_count 9 = .ok (.aload_n 0, 1) := by decide +kernel
theorem dX3_count_10 : decode cX3_count 10 = .ok (.getfield 12, 3) := by decide +kernel
theorem dX3_count_13 : decode cX3_count 13 = .ok (.iload_n 1, 1) := by decide +kernel
theorem dX3_count_14 : decode cX3_count 14 = .ok (.iload_n 2, 1) := by decide +kernel
theorem dX3_count_15 : decode cX3_count 15 = .ok (.invokevirtual 105, 3) := by decide +kernel
theorem dX3_count_18 : decode cX3_count 18 = .ok (.ireturn, 1) := by decide +kernel
set_option maxRecDepth 20000 in
theorem ggX3_value_X3_checkArgument : GoodIn wsX3_value wsX3_checkArgument := goodIn_ca (goodIn_r _ [5, 6, 7] (by decide +kernel) (by decide +kernel)) (goodIn_sub (fun _ h => List.mem_cons_of_mem _ (List.mem_append_right _ h)) (by decide +kernel))
set_option maxRecDepth 20000 in
theorem gX3_value_X3_checkArgument : GoodIn wsX3_value (va_wsS RX3 30 yX3_checkArgument wsX3_checkArgument) := goodIn_app (goodIn_of _ (by decide +kernel)) ggX3_value_X3_checkArgument
set_option maxRecDepth 20000 in
theorem ggX3_value_X2_aboutAll : GoodIn wsX3_value wsX2_aboutAll := goodIn_r _ [12, 13, 14, 15, 16, 17, 18, 11, 19, 20, 21, 22, 23, 24, 25, 26, 27, 28, 29, 30, 31, 32, 33, 34, 35, 36, 37, 38, 39, 40, 41, 42, 43, 44, 45, 46, 47, 48, 49, 50, 51, 52, 53, 54, 55, 56, 57, 58, 59, 60, 61, 62, 63, 64, 65, 66, 67, 68, 69, 70, 71, 72, 73, 74, 75, 76, 77, 78, 79, 83, 84, 85, 86, 87, 88, 89, 90, 91, 92, 93, 94, 95] (by decide +kernel) (by decide +kernel)
set_option maxRecDepth 20000 in
theorem gX3_value_X2_aboutAll : GoodIn wsX3_value (wsV RX3 108 RX2 yX2_aboutAll wsX2_aboutAll) := goodIn_app (goodIn_of _ (by decide +kernel)) ggX3_value_X2_aboutAll
theorem dX3_value_0 : decode cX3_value 0 = .ok (.iload_n 1, 1) := by decide +kernel
theorem dX3_value_1 : decode cX3_value 1 = .ok (.iconst 0, 1) := by decide +kernel
theorem dX3_value_2 : decode cX3_value 2 = .ok (.bipush 9, 2) := by decide +kernel
theorem dX3_value_4 : decode cX3_value 4 = .ok (.invokestatic 30, 3) := by decide +kernel
theorem dX3_value_7 : decode cX3_value 7 = .ok (.aload_n 0, 1) := by decide +kernel
theorem dX3_value_8 : decode cX3_value 8 = .ok (.getfield 12, 3) := by decide +kernel
theorem dX3_value_11 : decode cX3_value 11 = .ok (.iload_n 1, 1) := by decide +kernel
theorem dX3_value_12 : decode cX3_value 12 = .ok (.invokevirtual 108, 3) := by decide +kernel
theorem dX3_value_15 : decode cX3_value 15 = .ok (.ireturn, 1) := by decide +kernel
set_option maxRecDepth 20000 in
theorem ggX3_where_X3_checkKind : GoodIn wsX3_where wsX3_checkKind := goodIn_ca (goodIn_r _ [6, 7, 8, 1, 9, 51, 52, 53, 54, 55, 56, 57, 58, 59, 60, 61, 62, 63, 64, 65, 66] (by decide +kernel) (by decide +kernel)) (goodIn_sub (fun _ h => List.mem_cons_of_mem _ (List.mem_append_left _ (List.mem_append_right _ h))) (by decide +kernel))
set_option maxRecDepth 20000 in
theorem gX3_where_X3_checkKind : GoodIn wsX3_where (wsV RX3 53 RX3 yX3_checkKind wsX3_checkKind) := goodIn_app (goodIn_of _ (by decide +kernel)) ggX3_where_X3_checkKind
set_option maxRecDepth 20000 in
theorem ggX3_where_X3_checkArgument : GoodIn wsX3_where wsX3_checkArgument := goodIn_ca (goodIn_r _ [12, 13, 14] (by decide +kernel) (by decide +kernel)) (goodIn_sub (fun _ h => List.mem_cons_of_mem _ (List.mem_append_right _ h)) (by decide +kernel))
set_option maxRecDepth 20000 in
theorem gX3_where_X3_checkArgument : GoodIn wsX3_where (va_wsS RX3 30 yX3_checkArgument wsX3_checkArgument) := goodIn_app (goodIn_of _ (by decide +kernel)) ggX3_where_X3_checkArgument
set_option maxRecDepth 20000 in
theorem ggX3_where_X2_placeFor : GoodIn wsX3_where wsX2_placeFor := goodIn_r _ [19, 20, 21, 22, 23, 18, 24, 25, 26, 27, 28, 29, 30, 31, 32, 33, 34, 35, 36, 37, 38, 39, 40, 41, 42, 43, 44, 45, 46, 47, 48, 49, 50, 54, 55, 56, 57, 58, 59, 60, 61, 62, 63, 64, 65, 66] (by decide +kernel) (by decide +kernel)
set_option maxRecDepth 20000 in
theorem gX3_where_X2_placeFor : GoodIn wsX3_where (wsV RX3 111 RX2 yX2_placeFor wsX2_placeFor) := goodIn_app (goodIn_of _ (by decide +kernel)) ggX3_where_X2_placeFor
theorem dX3_where_0 : decode cX3_where 0 = .ok (.aload_n 0, 1) := by decide +kernel
theorem dX3_where_1 : decode cX3_where 1 = .ok (.iload_n 1, 1) := by decide +kernel
theorem dX3_where_2 : decode cX3_where 2 = .ok (.invokevirtual 53, 3) := by decide +kernel
theorem dX3_where_5 : decode cX3_where 5 = .ok (.iload_n 2, 1) := by decide +kernel
theorem dX3_where_6 : decode cX3_where 6 = .ok (.iconst 0, 1) := by decide +kernel
theorem dX3_where_7 : decode cX3_where 7 = .ok (.sipush 999, 3) := by decide +kernel
theorem dX3_where_10 : decode cX3_where 10 = .ok (.invokestatic 30, 3) := by decide +kernel
theorem dX3_where_13 : decode cX3_where 13 = .ok (.aload_n 0, 1) := by decide +kernel
theorem dX3_where_14 : decode cX3_where 14 = .ok (.getfield 12, 3) := by decide +kernel
theorem dX3_where_17 : decode cX3_where 17 = .ok (.iload_n 1, 1) := by decide +kernel
theorem dX3_where_18 : decode cX3_where 18 = .ok (.iload_n 2, 1) := by decide +kernel
theorem dX3_where_19 : decode cX3_where 19 = .ok (.invokevirtual 111, 3) := by decide +kernel
theorem dX3_where_22 : decode cX3_where 22 = .ok (.ireturn, 1) := by decide +kernel
set_option maxRecDepth 20000 in
theorem ggX3_mostWear_X3_checkKind : GoodIn wsX3_mostWear wsX3_checkKind := goodIn_ca (goodIn_r _ [6, 7, 8, 1, 9, 55, 56, 57, 58, 59, 60, 61, 62, 63, 64, 65, 66, 67, 68, 69, 70] (by decide +kernel) (by decide +kernel)) (goodIn_sub (fun _ h => List.mem_cons_of_mem _ (List.mem_append_right _ h)) (by decide +kernel))
set_option maxRecDepth 20000 in
theorem gX3_mostWear_X3_checkKind : GoodIn wsX3_mostWear (wsV RX3 53 RX3 yX3_checkKind wsX3_checkKind) := goodIn_app (goodIn_of _ (by decide +kernel)) ggX3_mostWear_X3_checkKind
set_option maxRecDepth 20000 in
theorem ggX3_mostWear_X2_mostFittingWear : GoodIn wsX3_mostWear wsX2_mostFittingWear := goodIn_r _ [14, 15, 16, 17, 13, 18, 19, 20, 21, 22, 23, 24, 25, 26, 27, 28, 29, 30, 31, 32, 33, 34, 35, 36, 37, 38, 39, 40, 41, 42, 43, 44, 45, 46, 47, 48, 49, 50, 51, 52, 53, 54, 58, 59, 60, 61, 62, 63, 64, 65, 66, 67, 68, 69, 70] (by decide +kernel) (by decide +kernel)
set_option maxRecDepth 20000 in
theorem gX3_mostWear_X2_mostFittingWear : GoodIn wsX3_mostWear (wsV RX3 114 RX2 yX2_mostFittingWear wsX2_mostFittingWear) := goodIn_app (goodIn_of _ (by decide +kernel)) ggX3_mostWear_X2_mostFittingWear
theorem dX3_mostWear_0 : decode cX3_mostWear 0 = .ok (.aload_n 0, 1) := by decide +kernel
theorem dX3_mostWear_1 : decode cX3_mostWear 1 = .ok (.iload_n 1, 1) := by decide +kernel
theorem dX3_mostWear_2 : decode cX3_mostWear 2 = .ok (.invokevirtual 53, 3) := by decide +kernel
theorem dX3_mostWear_5 : decode cX3_mostWear 5 = .ok (.aload_n 0, 1) := by decide +kernel
theorem dX3_mostWear_6 : decode cX3_mostWear 6 = .ok (.getfield 12, 3) := by decide +kernel
theorem dX3_mostWear_9 : decode cX3_mostWear 9 = .ok (.iload_n 1, 1) := by decide +kernel
theorem dX3_mostWear_10 : decode cX3_mostWear 10 = .ok (.invokevirtual 114, 3) := by decide +kernel
theorem dX3_mostWear_13 : decode cX3_mostWear 13 = .ok (.ireturn, 1) := by decide +kernel
set_option maxRecDepth 20000 in
theorem ggX3_bestGap_X3_checkRail : GoodIn wsX3_bestGap wsX3_checkRail := goodIn_ca (goodIn_r _ [5, 6, 7, 8, 9, 4, 10] (by decide +kernel) (by decide +kernel)) (goodIn_sub (fun _ h => List.mem_cons_of_mem _ (List.mem_append_right _ h)) (by decide +kernel))
set_option maxRecDepth 20000 in
theorem gX3_bestGap_X3_checkRail : GoodIn wsX3_bestGap (va_wsS RX3 61 yX3_checkRail wsX3_checkRail) := goodIn_app (goodIn_of _ (by decide +kernel)) ggX3_bestGap_X3_checkRail
set_option maxRecDepth 20000 in
theorem ggX3_bestGap_X2_leastSortingGap : GoodIn wsX3_bestGap wsX2_leastSortingGap := goodIn_r _ [15, 16, 17, 18, 19, 20, 21, 22, 23, 24, 25, 29, 30, 31, 32, 33, 34, 35, 36, 37, 38, 39, 40, 41] (by decide +kernel) (by decide +kernel)
set_option maxRecDepth 20000 in
theorem gX3_bestGap_X2_leastSortingGap : GoodIn wsX3_bestGap (wsV RX3 117 RX2 yX2_leastSortingGap wsX2_leastSortingGap) := goodIn_app (goodIn_of _ (by decide +kernel)) ggX3_bestGap_X2_leastSortingGap
theorem dX3_bestGap_0 : decode cX3_bestGap 0 = .ok (.iload_n 1, 1) := by decide +kernel
theorem dX3_bestGap_1 : decode cX3_bestGap 1 = .ok (.invokestatic 61, 3) := by decide +kernel
theorem dX3_bestGap_4 : decode cX3_bestGap 4 = .ok (.aload_n 0, 1) := by decide +kernel
theorem dX3_bestGap_5 : decode cX3_bestGap 5 = .ok (.getfield 12, 3) := by decide +kernel
theorem dX3_bestGap_8 : decode cX3_bestGap 8 = .ok (.iload_n 1, 1) := by decide +kernel
theorem dX3_bestGap_9 : decode cX3_bestGap 9 = .ok (.invokevirtual 117, 3) := by decide +kernel
theorem dX3_bestGap_12 : decode cX3_bestGap 12 = .ok (.ireturn, 1) := by decide +kernel
set_option maxRecDepth 20000 in
theorem ggX3_supply_X3_checkKind : GoodIn wsX3_supply wsX3_checkKind := goodIn_ca (goodIn_r _ [6, 7, 8, 1, 9, 55, 56, 57, 58, 59, 60, 61, 62, 63, 64, 65, 66, 67, 68, 69, 70] (by decide +kernel) (by decide +kernel)) (goodIn_sub (fun _ h => List.mem_cons_of_mem _ (List.mem_append_right _ h)) (by decide +kernel))
set_option maxRecDepth 20000 in
theorem gX3_supply_X3_checkKind : GoodIn wsX3_supply (wsV RX3 53 RX3 yX3_checkKind wsX3_checkKind) := goodIn_app (goodIn_of _ (by decide +kernel)) ggX3_supply_X3_checkKind
set_option maxRecDepth 20000 in
theorem ggX3_supply_X2_coinsUntilAstray : GoodIn wsX3_supply wsX2_coinsUntilAstray := goodIn_r _ [14, 15, 16, 17, 18, 13, 19, 20, 21, 22, 23, 24, 25, 26, 27, 28, 29, 30, 31, 32, 33, 34, 35, 36, 37, 38, 39, 40, 41, 42, 43, 44, 45, 46, 47, 48, 49, 50, 51, 52, 53, 54, 58, 59, 60, 61, 62, 63, 64, 65, 66, 67, 68, 69, 70] (by decide +kernel) (by decide +kernel)
set_option maxRecDepth 20000 in
theorem gX3_supply_X2_coinsUntilAstray : GoodIn wsX3_supply (wsV RX3 120 RX2 yX2_coinsUntilAstray wsX2_coinsUntilAstray) := goodIn_app (goodIn_of _ (by decide +kernel)) ggX3_supply_X2_coinsUntilAstray
theorem dX3_supply_0 : decode cX3_supply 0 = .ok (.aload_n 0, 1) := by decide +kernel
theorem dX3_supply_1 : decode cX3_supply 1 = .ok (.iload_n 1, 1) := by decide +kernel
theorem dX3_supply_2 : decode cX3_supply 2 = .ok (.invokevirtual 53, 3) := by decide +kernel
theorem dX3_supply_5 : decode cX3_supply 5 = .ok (.aload_n 0, 1) := by decide +kernel
theorem dX3_supply_6 : decode cX3_supply 6 = .ok (.getfield 12, 3) := by decide +kernel
theorem dX3_supply_9 : decode cX3_supply 9 = .ok (.iload_n 1, 1) := by decide +kernel
theorem dX3_supply_10 : decode cX3_supply 10 = .ok (.invokevirtual 120, 3) := by decide +kernel
theorem dX3_supply_13 : decode cX3_supply 13 = .ok (.ireturn, 1) := by decide +kernel
set_option maxRecDepth 20000 in
theorem ggX3_worstKind_X2_kindMostAstray : GoodIn wsX3_worstKind wsX2_kindMostAstray := goodIn_r _ [6, 7, 8, 9, 10, 5, 11, 12, 13, 14, 15, 16, 17, 18, 19, 20, 21, 25, 26, 27, 28, 29, 30, 31, 32, 33, 34, 35, 36, 37] (by decide +kernel) (by decide +kernel)
set_option maxRecDepth 20000 in
theorem gX3_worstKind_X2_kindMostAstray : GoodIn wsX3_worstKind (wsV RX3 123 RX2 yX2_kindMostAstray wsX2_kindMostAstray) := goodIn_app (goodIn_of _ (by decide +kernel)) ggX3_worstKind_X2_kindMostAstray
theorem dX3_worstKind_0 : decode cX3_worstKind 0 = .ok (.aload_n 0, 1) := by decide +kernel
theorem dX3_worstKind_1 : decode cX3_worstKind 1 = .ok (.getfield 12, 3) := by decide +kernel
theorem dX3_worstKind_4 : decode cX3_worstKind 4 = .ok (.invokevirtual 123, 3) := by decide +kernel
theorem dX3_worstKind_7 : decode cX3_worstKind 7 = .ok (.ireturn, 1) := by decide +kernel
set_option maxRecDepth 20000 in
theorem ggX3_right_X2_coinsInBags : GoodIn wsX3_right wsX2_coinsInBags := goodIn_r _ [6, 7, 8, 9, 5, 10, 28, 29, 30, 31, 32, 33, 34, 35, 36, 37, 38, 39, 40] (by decide +kernel) (by decide +kernel)
set_option maxRecDepth 20000 in
theorem gX3_right_X2_coinsInBags : GoodIn wsX3_right (wsV RX3 126 RX2 yX2_coinsInBags wsX2_coinsInBags) := goodIn_app (goodIn_of _ (by decide +kernel)) ggX3_right_X2_coinsInBags
set_option maxRecDepth 20000 in
theorem ggX3_right_X2_misfits : GoodIn wsX3_right wsX2_misfits := goodIn_r _ [14, 15, 16, 17, 5, 18, 19, 20, 21, 22, 23, 24, 7, 28, 29, 30, 31, 32, 33, 34, 35, 36, 37, 38, 39, 40] (by decide +kernel) (by decide +kernel)
set_option maxRecDepth 20000 in
theorem gX3_right_X2_misfits : GoodIn wsX3_right (wsV RX3 129 RX2 yX2_misfits wsX2_misfits) := goodIn_app (goodIn_of _ (by decide +kernel)) ggX3_right_X2_misfits
theorem dX3_right_0 : decode cX3_right 0 = .ok (.aload_n 0, 1) := by decide +kernel
theorem dX3_right_1 : decode cX3_right 1 = .ok (.getfield 12, 3) := by decide +kernel
theorem dX3_right_4 : decode cX3_right 4 = .ok (.invokevirtual 126, 3) := by decide +kernel
theorem dX3_right_7 : decode cX3_right 7 = .ok (.istore_n 1, 1) := by decide +kernel
theorem dX3_right_8 : decode cX3_right 8 = .ok (.iload_n 1, 1) := by decide +kernel
theorem dX3_right_9 : decode cX3_right 9 = .ok (.ifCond .ne 5, 3) := by decide +kernel
theorem dX3_right_12 : decode cX3_right 12 = .ok (.dconst 1, 1) := by decide +kernel
theorem dX3_right_13 : decode cX3_right 13 = .ok (.dreturn, 1) := by decide +kernel
theorem dX3_right_14 : decode cX3_right 14 = .ok (.iload_n 1, 1) := by decide +kernel
theorem dX3_right_15 : decode cX3_right 15 = .ok (.aload_n 0, 1) := by decide +kernel
theorem dX3_right_16 : decode cX3_right 16 = .ok (.getfield 12, 3) := by decide +kernel
theorem dX3_right_19 : decode cX3_right 19 = .ok (.invokevirtual 129, 3) := by decide +kernel
theorem dX3_right_22 : decode cX3_right 22 = .ok (.isub, 1) := by decide +kernel
theorem dX3_right_23 : decode cX3_right 23 = .ok (.i2d, 1) := by decide +kernel
theorem dX3_right_24 : decode cX3_right 24 = .ok (.iload_n 1, 1) := by decide +kernel
theorem dX3_right_25 : decode cX3_right 25 = .ok (.i2d, 1) := by decide +kernel
theorem dX3_right_26 : decode cX3_right 26 = .ok (.ddiv, 1) := by decide +kernel
theorem dX3_right_27 : decode cX3_right 27 = .ok (.dreturn, 1) := by decide +kernel
set_option maxRecDepth 20000 in
theorem ggX3_append_X3_checkArgument : GoodIn wsX3_append wsX3_checkArgument := goodIn_ca (goodIn_r _ [8, 9, 10] (by decide +kernel) (by decide +kernel)) (goodIn_sub (fun _ h => List.mem_cons_of_mem _ (List.mem_append_right _ h)) (by decide +kernel))
set_option maxRecDepth 20000 in
theorem gX3_append_X3_checkArgument : GoodIn wsX3_append (va_wsS RX3 30 yX3_checkArgument wsX3_checkArgument) := goodIn_app (goodIn_of _ (by decide +kernel)) ggX3_append_X3_checkArgument
set_option maxRecDepth 20000 in
theorem ggX3_append_X0_addByte : GoodIn wsX3_append wsX0_addByte := goodIn_r _ [15, 16, 17, 21, 22, 23, 24, 25] (by decide +kernel) (by decide +kernel)
set_option maxRecDepth 20000 in
theorem gX3_append_X0_addByte : GoodIn wsX3_append (wsV RX3 137 RX0 yX0_addByte wsX0_addByte) := goodIn_app (goodIn_of _ (by decide +kernel)) ggX3_append_X0_addByte
theorem dX3_append_0 : decode cX3_append 0 = .ok (.iload_n 1, 1) := by decide +kernel
theorem dX3_append_1 : decode cX3_append 1 = .ok (.iconst 0, 1) := by decide +kernel
theorem dX3_append_2 : decode cX3_append 2 = .ok (.bipush 127, 2) := by decide +kernel
theorem dX3_append_4 : decode cX3_append 4 = .ok (.invokestatic 30, 3) := by decide +kernel
theorem dX3_append_7 : decode cX3_append 7 = .ok (.aload_n 0, 1) := by decide +kernel
theorem dX3_append_8 : decode cX3_append 8 = .ok (.getfield 26, 3) := by decide +kernel
theorem dX3_append_11 : decode cX3_append 11 = .ok (.getfield 132, 3) := by decide +kernel
theorem dX3_append_14 : decode cX3_append 14 = .ok (.bipush 90, 2) := by decide +kernel
theorem dX3_append_16 : decode cX3_append 16 = .ok (.if_icmp .lt 13, 3) := by decide +kernel
theorem dX3_append_19 : decode cX3_append 19 = .ok (.new 38, 3) := by decide +kernel
theorem dX3_append_22 : decode cX3_append 22 = .ok (.dup, 1) := by decide +kernel
theorem dX3_append_23 : decode cX3_append 23 = .ok (.ldc 135, 2) := by decide +kernel
theorem dX3_append_25 : decode cX3_append 25 = .ok (.invokespecial 42, 3) := by decide +kernel
theorem dX3_append_28 : decode cX3_append 28 = .ok (.athrow, 1) := by decide +kernel
theorem dX3_append_29 : decode cX3_append 29 = .ok (.aload_n 0, 1) := by decide +kernel
theorem dX3_append_30 : decode cX3_append 30 = .ok (.getfield 26, 3) := by decide +kernel
theorem dX3_append_33 : decode cX3_append 33 = .ok (.iload_n 1, 1) := by decide +kernel
theorem dX3_append_34 : decode cX3_append 34 = .ok (.invokevirtual 137, 3) := by decide +kernel
theorem dX3_append_37 : decode cX3_append 37 = .ok (.ireturn, 1) := by decide +kernel
theorem dX3_clearText_0 : decode cX3_clearText 0 = .ok (.aload_n 0, 1) := by decide +kernel
theorem dX3_clearText_1 : decode cX3_clearText 1 = .ok (.getfield 26, 3) := by decide +kernel
theorem dX3_clearText_4 : decode cX3_clearText 4 = .ok (.getfield 132, 3) := by decide +kernel
theorem dX3_clearText_7 : decode cX3_clearText 7 = .ok (.istore_n 1, 1) := by decide +kernel
theorem dX3_clearText_8 : decode cX3_clearText 8 = .ok (.aload_n 0, 1) := by decide +kernel
theorem dX3_clearText_9 : decode cX3_clearText 9 = .ok (.getfield 26, 3) := by decide +kernel
theorem dX3_clearText_12 : decode cX3_clearText 12 = .ok (.iconst 0, 1) := by decide +kernel
theorem dX3_clearText_13 : decode cX3_clearText 13 = .ok (.putfield 132, 3) := by decide +kernel
theorem dX3_clearText_16 : decode cX3_clearText 16 = .ok (.iload_n 1, 1) := by decide +kernel
theorem dX3_clearText_17 : decode cX3_clearText 17 = .ok (.ireturn, 1) := by decide +kernel
set_option maxRecDepth 20000 in
theorem ggX3_parse_X0_readCoins : GoodIn wsX3_parse wsX0_readCoins := goodIn_r _ [12, 13, 14, 15, 16, 17, 18, 19, 11, 20, 21, 22, 23, 24, 25, 26, 27, 28, 29, 30, 31, 32, 33, 34, 35, 36, 37, 132, 133, 134, 135, 136] (by decide +kernel) (by decide +kernel)
set_option maxRecDepth 20000 in
theorem gX3_parse_X0_readCoins : GoodIn wsX3_parse (wsV RX3 140 RX0 yX0_readCoins wsX0_readCoins) := goodIn_app (goodIn_of _ (by decide +kernel)) ggX3_parse_X0_readCoins
set_option maxRecDepth 20000 in
theorem ggX3_parse_X1_save : GoodIn wsX3_parse wsX1_save := goodIn_r _ [42, 43, 44, 45, 46, 47, 48, 49, 50, 51, 52, 53, 54, 55, 56, 57, 58, 59, 60, 61, 62, 63, 64, 65, 66, 67, 68, 69, 70, 71, 137, 138, 139, 119, 120, 121, 122, 123, 124, 125, 126, 127, 128, 129, 130, 131] (by decide +kernel) (by decide +kernel)
set_option maxRecDepth 20000 in
theorem gX3_parse_X1_save : GoodIn wsX3_parse (wsV RX3 45 RX1 yX1_save wsX1_save) := goodIn_app (goodIn_of _ (by decide +kernel)) ggX3_parse_X1_save
set_option maxRecDepth 20000 in
theorem ggX3_parse_X2_putCoin : GoodIn wsX3_parse wsX2_putCoin := goodIn_r _ [75, 63, 64, 67, 68, 70, 76, 77, 78, 53, 79, 65, 80, 81, 82, 83, 84, 47, 48, 49, 85, 86, 87, 88, 56, 89, 90, 91, 92, 93, 94, 95, 96, 97, 98, 99, 100, 101, 102, 103, 104, 105, 106, 107, 69, 108, 109, 110, 111, 66, 119, 120, 121, 122, 123, 124, 125, 126, 127, 128, 129, 130, 131] (by decide +kernel) (by decide +kernel)
set_option maxRecDepth 20000 in
theorem gX3_parse_X2_putCoin : GoodIn wsX3_parse (wsV RX3 76 RX2 yX2_putCoin wsX2_putCoin) := goodIn_app (goodIn_of _ (by decide +kernel)) ggX3_parse_X2_putCoin
set_option maxRecDepth 20000 in
theorem ggX3_parse_X3_isRail : GoodIn wsX3_parse wsX3_isRail := goodIn_r _ [115] (by decide +kernel) (by decide +kernel)
set_option maxRecDepth 20000 in
theorem gX3_parse_X3_isRail : GoodIn wsX3_parse (va_wsS RX3 152 yX3_isRail wsX3_isRail) := goodIn_app (goodIn_of _ (by decide +kernel)) ggX3_parse_X3_isRail
theorem dX3_parse_0 : decode cX3_parse 0 = .ok (.aload_n 0, 1) := by decide +kernel
theorem dX3_parse_1 : decode cX3_parse 1 = .ok (.getfield 26, 3) := by decide +kernel
theorem dX3_parse_4 : decode cX3_parse 4 = .ok (.aload_n 0, 1) := by decide +kernel
theorem dX3_parse_5 : decode cX3_parse 5 = .ok (.getfield 12, 3) := by decide +kernel
theorem dX3_parse_8 : decode cX3_parse 8 = .ok (.getfield 34, 3) := by decide +kernel
theorem dX3_parse_11 : decode cX3_parse 11 = .ok (.invokevirtual 140, 3) := by decide +kernel
theorem dX3_parse_14 : decode cX3_parse 14 = .ok (.istore_n 1, 1) := by decide +kernel
theorem dX3_parse_15 : decode cX3_parse 15 = .ok (.iload_n 1, 1) := by decide +kernel
theorem dX3_parse_16 : decode cX3_parse 16 = .ok (.iconst (-1), 1) := by decide +kernel
theorem dX3_parse_17 : decode cX3_parse 17 = .ok (.if_icmp .eq 8, 3) := by decide +kernel
theorem dX3_parse_20 : decode cX3_parse 20 = .ok (.bipush (-10), 2) := by decide +kernel
theorem dX3_parse_22 : decode cX3_parse 22 = .ok (.iload_n 1, 1) := by decide +kernel
theorem dX3_parse_23 : decode cX3_parse 23 = .ok (.isub, 1) := by decide +kernel
theorem dX3_parse_24 : decode cX3_parse 24 = .ok (.ireturn, 1) := by decide +kernel
theorem dX3_parse_25 : decode cX3_parse 25 = .ok (.aload_n 0, 1) := by decide +kernel
theorem dX3_parse_26 : decode cX3_parse 26 = .ok (.getfield 19, 3) := by decide +kernel
theorem dX3_parse_29 : decode cX3_parse 29 = .ok (.aload_n 0, 1) := by decide +kernel
theorem dX3_parse_30 : decode cX3_parse 30 = .ok (.getfield 12, 3) := by decide +kernel
theorem dX3_parse_33 : decode cX3_parse 33 = .ok (.invokevirtual 45, 3) := by decide +kernel
theorem dX3_parse_36 : decode cX3_parse 36 = .ok (.iconst 0, 1) := by decide +kernel
theorem dX3_parse_37 : decode cX3_parse 37 = .ok (.istore_n 2, 1) := by decide +kernel
theorem dX3_parse_38 : decode cX3_parse 38 = .ok (.iconst 0, 1) := by decide +kernel
theorem dX3_parse_39 : decode cX3_parse 39 = .ok (.istore_n 3, 1) := by decide +kernel
theorem dX3_parse_40 : decode cX3_parse 40 = .ok (.iload_n 3, 1) := by decide +kernel
theorem dX3_parse_41 : decode cX3_parse 41 = .ok (.aload_n 0, 1) := by decide +kernel
theorem dX3_parse_42 : decode cX3_parse 42 = .ok (.getfield 26, 3) := by decide +kernel
theorem dX3_parse_45 : decode cX3_parse 45 = .ok (.getfield 143, 3) := by decide +kernel
theorem dX3_parse_48 : decode cX3_parse 48 = .ok (.if_icmp .ge 43, 3) := by decide +kernel
theorem dX3_parse_51 : decode cX3_parse 51 = .ok (.aload_n 0, 1) := by decide +kernel
theorem dX3_parse_52 : decode cX3_parse 52 = .ok (.getfield 12, 3) := by decide +kernel
theorem dX3_parse_55 : decode cX3_parse 55 = .ok (.aload_n 0, 1) := by decide +kernel
theorem dX3_parse_56 : decode cX3_parse 56 = .ok (.getfield 26, 3) := by decide +kernel
theorem dX3_parse_59 : decode cX3_parse 59 = .ok (.getfield 146, 3) := by decide +kernel
theorem dX3_parse_62 : decode cX3_parse 62 = .ok (.iload_n 3, 1) := by decide +kernel
theorem dX3_parse_63 : decode cX3_parse 63 = .ok (.iaload, 1) := by decide +kernel
theorem dX3_parse_64 : decode cX3_parse 64 = .ok (.aload_n 0, 1) := by decide +kernel
theorem dX3_parse_65 : decode cX3_parse 65 = .ok (.getfield 26, 3) := by decide +kernel
theorem dX3_parse_68 : decode cX3_parse 68 = .ok (.getfield 149, 3) := by decide +kernel
theorem dX3_parse_71 : decode cX3_parse 71 = .ok (.iload_n 3, 1) := by decide +kernel
theorem dX3_parse_72 : decode cX3_parse 72 = .ok (.iaload, 1) := by decide +kernel
theorem dX3_parse_73 : decode cX3_parse 73 = .ok (.invokevirtual 76, 3) := by decide +kernel
theorem dX3_parse_76 : decode cX3_parse 76 = .ok (.invokestatic 152, 3) := by decide +kernel
theorem dX3_parse_79 : decode cX3_parse 79 = .ok (.ifCond .eq 6, 3) := by decide +kernel
theorem dX3_parse_82 : decode cX3_parse 82 = .ok (.iinc 2 1, 3) := by decide +kernel
theorem dX3_parse_85 : decode cX3_parse 85 = .ok (.iinc 3 1, 3) := by decide +kernel
theorem dX3_parse_88 : decode cX3_parse 88 = .ok (.goto (-48), 3) := by decide +kernel
theorem dX3_parse_91 : decode cX3_parse 91 = .ok (.iload_n 2, 1) := by decide +kernel
theorem dX3_parse_92 : decode cX3_parse 92 = .ok (.ireturn, 1) := by decide +kernel
set_option maxRecDepth 20000 in
theorem ggX3_undo_X1_restore : GoodIn wsX3_undo wsX1_restore := goodIn_r _ [10, 11, 12, 13, 14, 15, 16, 17, 18, 19, 20, 21, 22, 23, 24, 25, 26, 27, 28, 29, 30, 31, 32, 33, 34, 35, 39, 40, 41, 42, 43, 44, 45, 46, 47, 48, 49, 50, 51, 52, 53, 54] (by decide +kernel) (by decide +kernel)
set_option maxRecDepth 20000 in
theorem gX3_undo_X1_restore : GoodIn wsX3_undo (wsV RX3 160 RX1 yX1_restore wsX1_restore) := goodIn_app (goodIn_of _ (by decide +kernel)) ggX3_undo_X1_restore
theorem dX3_undo_0 : decode cX3_undo 0 = .ok (.aload_n 0, 1) := by decide +kernel
theorem dX3_undo_1 : decode cX3_undo 1 = .ok (.getfield 19, 3) := by decide +kernel
theorem dX3_undo_4 : decode cX3_undo 4 = .ok (.getfield 155, 3) := by decide +kernel
theorem dX3_undo_7 : decode cX3_undo 7 = .ok (.ifCond .ne 13, 3) := by decide +kernel
theorem dX3_undo_10 : decode cX3_undo 10 = .ok (.new 38, 3) := by decide +kernel
theorem dX3_undo_13 : decode cX3_undo 13 = .ok (.dup, 1) := by decide +kernel
theorem dX3_undo_14 : decode cX3_undo 14 = .ok (.ldc 158, 2) := by decide +kernel
theorem dX3_undo_16 : decode cX3_undo 16 = .ok (.invokespecial 42, 3) := by decide +kernel
theorem dX3_undo_19 : decode cX3_undo 19 = .ok (.athrow, 1) := by decide +kernel
theorem dX3_undo_20 : decode cX3_undo 20 = .ok (.aload_n 0, 1) := by decide +kernel
theorem dX3_undo_21 : decode cX3_undo 21 = .ok (.getfield 19, 3) := by decide +kernel
theorem dX3_undo_24 : decode cX3_undo 24 = .ok (.aload_n 0, 1) := by decide +kernel
theorem dX3_undo_25 : decode cX3_undo 25 = .ok (.getfield 12, 3) := by decide +kernel
theorem dX3_undo_28 : decode cX3_undo 28 = .ok (.invokevirtual 160, 3) := by decide +kernel
theorem dX3_undo_31 : decode cX3_undo 31 = .ok (.ireturn, 1) := by decide +kernel
set_option maxRecDepth 20000 in
theorem ggX3_digest_X2_aboutAll : GoodIn wsX3_digest wsX2_aboutAll := goodIn_r _ [13, 14, 15, 16, 17, 18, 19, 12, 20, 21, 22, 23, 24, 25, 26, 27, 28, 29, 30, 31, 32, 33, 34, 35, 36, 37, 38, 39, 40, 41, 42, 43, 44, 45, 46, 47, 48, 49, 50, 51, 52, 53, 54, 55, 56, 57, 58, 59, 60, 61, 62, 63, 64, 65, 66, 67, 68, 69, 70, 71, 72, 73, 74, 75, 76, 77, 78, 79, 80, 147, 148, 149, 150, 151, 152, 153, 154, 155, 156, 157, 158, 159] (by decide +kernel) (by decide +kernel)
set_option maxRecDepth 20000 in
theorem gX3_digest_X2_aboutAll : GoodIn wsX3_digest (wsV RX3 108 RX2 yX2_aboutAll wsX2_aboutAll) := goodIn_app (goodIn_of _ (by decide +kernel)) ggX3_digest_X2_aboutAll
set_option maxRecDepth 20000 in
theorem ggX3_digest_X3_hashOfKind : GoodIn wsX3_digest wsX3_hashOfKind := goodIn_r _ [85, 4, 5, 86, 87, 88, 12, 89, 90, 56, 43, 16, 15, 91, 92, 93, 94, 44, 45, 46, 47, 25, 95, 96, 97, 98, 34, 99, 100, 101, 102, 103, 104, 105, 106, 107, 108, 109, 110, 111, 112, 113, 114, 115, 116, 117, 118, 119, 120, 121, 122, 123, 124, 125, 126, 30, 31, 32, 33, 77, 78, 79, 80, 61, 62, 63, 64, 139, 140, 141, 147, 148, 149, 150, 151, 152, 153, 154, 155, 156, 157, 158, 159] (by decide +kernel) (by decide +kernel)
set_option maxRecDepth 20000 in
theorem gX3_digest_X3_hashOfKind : GoodIn wsX3_digest (wsV RX3 168 RX3 yX3_hashOfKind wsX3_hashOfKind) := goodIn_app (goodIn_of _ (by decide +kernel)) ggX3_digest_X3_hashOfKind
set_option maxRecDepth 20000 in
theorem ggX3_digest_X3_hashOfRail : GoodIn wsX3_digest wsX3_hashOfRail := goodIn_r _ [130, 4, 5, 6, 131, 132, 133, 12, 134, 111, 135, 34, 136, 137, 61, 62, 63, 64, 25, 52, 53, 54, 55, 56, 57, 58, 59, 60, 14, 43, 69, 70, 71, 72, 44, 45, 46, 47, 39, 40, 41, 42, 138, 139, 140, 141, 147, 148, 149, 150, 151, 152, 153, 154, 155, 156, 157, 158, 159] (by decide +kernel) (by decide +kernel)
set_option maxRecDepth 20000 in
theorem gX3_digest_X3_hashOfRail : GoodIn wsX3_digest (wsV RX3 172 RX3 yX3_hashOfRail wsX3_hashOfRail) := goodIn_app (goodIn_of _ (by decide +kernel)) ggX3_digest_X3_hashOfRail
theorem dX3_digest_0 : decode cX3_digest 0 = .ok (.ldc2_w 164, 3) := by decide +kernel
theorem dX3_digest_3 : decode cX3_digest 3 = .ok (.aload_n 0, 1) := by decide +kernel
theorem dX3_digest_4 : decode cX3_digest 4 = .ok (.getfield 26, 3) := by decide +kernel
theorem dX3_digest_7 : decode cX3_digest 7 = .ok (.getfield 132, 3) := by decide +kernel
theorem dX3_digest_10 : decode cX3_digest 10 = .ok (.i2l, 1) := by decide +kernel
theorem dX3_digest_11 : decode cX3_digest 11 = .ok (.ladd, 1) := by decide +kernel
theorem dX3_digest_12 : decode cX3_digest 12 = .ok (.lstore_n 1, 1) := by decide +kernel
theorem dX3_digest_13 : decode cX3_digest 13 = .ok (.iconst 0, 1) := by decide +kernel
theorem dX3_digest_14 : decode cX3_digest 14 = .ok (.istore_n 3, 1) := by decide +kernel
theorem dX3_digest_15 : decode cX3_digest 15 = .ok (.iload_n 3, 1) := by decide +kernel
theorem dX3_digest_16 : decode cX3_digest 16 = .ok (.bipush 10, 2) := by decide +kernel
theorem dX3_digest_18 : decode cX3_digest 18 = .ok (.if_icmp .ge 25, 3) := by decide +kernel
theorem dX3_digest_21 : decode cX3_digest 21 = .ok (.ldc2_w 166, 3) := by decide +kernel
theorem dX3_digest_24 : decode cX3_digest 24 = .ok (.lload_n 1, 1) := by decide +kernel
theorem dX3_digest_25 : decode cX3_digest 25 = .ok (.lmul, 1) := by decide +kernel
theorem dX3_digest_26 : decode cX3_digest 26 = .ok (.aload_n 0, 1) := by decide +kernel
theorem dX3_digest_27 : decode cX3_digest 27 = .ok (.getfield 12, 3) := by decide +kernel
theorem dX3_digest_30 : decode cX3_digest 30 = .ok (.iload_n 3, 1) := by decide +kernel
theorem dX3_digest_31 : decode cX3_digest 31 = .ok (.invokevirtual 108, 3) := by decide +kernel
theorem dX3_digest_34 : decode cX3_digest 34 = .ok (.i2l, 1) := by decide +kernel
theorem dX3_digest_35 : decode cX3_digest 35 = .ok (.ladd, 1) := by decide +kernel
theorem dX3_digest_36 : decode cX3_digest 36 = .ok (.lstore_n 1, 1) := by decide +kernel
theorem dX3_digest_37 : decode cX3_digest 37 = .ok (.iinc 3 1, 3) := by decide +kernel
theorem dX3_digest_40 : decode cX3_digest 40 = .ok (.goto (-25), 3) := by decide +kernel
theorem dX3_digest_43 : decode cX3_digest 43 = .ok (.iconst 0, 1) := by decide +kernel
theorem dX3_digest_44 : decode cX3_digest 44 = .ok (.istore_n 3, 1) := by decide +kernel
theorem dX3_digest_45 : decode cX3_digest 45 = .ok (.iload_n 3, 1) := by decide +kernel
theorem dX3_digest_46 : decode cX3_digest 46 = .ok (.aload_n 0, 1) := by decide +kernel
theorem dX3_digest_47 : decode cX3_digest 47 = .ok (.getfield 12, 3) := by decide +kernel
theorem dX3_digest_50 : decode cX3_digest 50 = .ok (.getfield 34, 3) := by decide +kernel
theorem dX3_digest_53 : decode cX3_digest 53 = .ok (.if_icmp .ge 16, 3) := by decide +kernel
theorem dX3_digest_56 : decode cX3_digest 56 = .ok (.aload_n 0, 1) := by decide +kernel
theorem dX3_digest_57 : decode cX3_digest 57 = .ok (.lload_n 1, 1) := by decide +kernel
theorem dX3_digest_58 : decode cX3_digest 58 = .ok (.iload_n 3, 1) := by decide +kernel
theorem dX3_digest_59 : decode cX3_digest 59 = .ok (.invokevirtual 168, 3) := by decide +kernel
theorem dX3_digest_62 : decode cX3_digest 62 = .ok (.lstore_n 1, 1) := by decide +kernel
theorem dX3_digest_63 : decode cX3_digest 63 = .ok (.iinc 3 1, 3) := by decide +kernel
theorem dX3_digest_66 : decode cX3_digest 66 = .ok (.goto (-21), 3) := by decide +kernel
theorem dX3_digest_69 : decode cX3_digest 69 = .ok (.iconst 0, 1) := by decide +kernel
theorem dX3_digest_70 : decode cX3_digest 70 = .ok (.istore_n 3, 1) := by decide +kernel
theorem dX3_digest_71 : decode cX3_digest 71 = .ok (.iload_n 3, 1) := by decide +kernel
theorem dX3_digest_72 : decode cX3_digest 72 = .ok (.bipush 6, 2) := by decide +kernel
theorem dX3_digest_74 : decode cX3_digest 74 = .ok (.if_icmp .ge 16, 3) := by decide +kernel
theorem dX3_digest_77 : decode cX3_digest 77 = .ok (.aload_n 0, 1) := by decide +kernel
theorem dX3_digest_78 : decode cX3_digest 78 = .ok (.lload_n 1, 1) := by decide +kernel
theorem dX3_digest_79 : decode cX3_digest 79 = .ok (.iload_n 3, 1) := by decide +kernel
theorem dX3_digest_80 : decode cX3_digest 80 = .ok (.invokevirtual 172, 3) := by decide +kernel
theorem dX3_digest_83 : decode cX3_digest 83 = .ok (.lstore_n 1, 1) := by decide +kernel
theorem dX3_digest_84 : decode cX3_digest 84 = .ok (.iinc 3 1, 3) := by decide +kernel
theorem dX3_digest_87 : decode cX3_digest 87 = .ok (.goto (-16), 3) := by decide +kernel
theorem dX3_digest_90 : decode cX3_digest 90 = .ok (.ldc2_w 166, 3) := by decide +kernel
theorem dX3_digest_93 : decode cX3_digest 93 = .ok (.lload_n 1, 1) := by decide +kernel
theorem dX3_digest_94 : decode cX3_digest 94 = .ok (.lmul, 1) := by decide +kernel
theorem dX3_digest_95 : decode cX3_digest 95 = .ok (.aload_n 0, 1) := by decide +kernel
theorem dX3_digest_96 : decode cX3_digest 96 = .ok (.getfield 19, 3) := by decide +kernel
theorem dX3_digest_99 : decode cX3_digest 99 = .ok (.getfield 155, 3) := by decide +kernel
theorem dX3_digest_102 : decode cX3_digest 102 = .ok (.i2l, 1) := by decide +kernel
theorem dX3_digest_103 : decode cX3_digest 103 = .ok (.ladd, 1) := by decide +kernel
theorem dX3_digest_104 : decode cX3_digest 104 = .ok (.lreturn, 1) := by decide +kernel
set_option maxRecDepth 20000 in
theorem ggX3_hashOfKind_X2_aboutKind : GoodIn wsX3_hashOfKind wsX2_aboutKind := goodIn_r _ [7, 8, 9, 10, 11, 12, 13, 14, 15, 6, 16, 17, 18, 19, 20, 21, 22, 23, 24, 25, 26, 70, 71, 72, 73, 74, 75, 76, 77, 78, 79, 80, 81, 82] (by decide +kernel) (by decide +kernel)
set_option maxRecDepth 20000 in
theorem gX3_hashOfKind_X2_aboutKind : GoodIn wsX3_hashOfKind (wsV RX3 99 RX2 yX2_aboutKind wsX2_aboutKind) := goodIn_app (goodIn_of _ (by decide +kernel)) ggX3_hashOfKind_X2_aboutKind
set_option maxRecDepth 20000 in
theorem ggX3_hashOfKind_X2_mostFittingWear : GoodIn wsX3_hashOfKind wsX2_mostFittingWear := goodIn_r _ [30, 31, 32, 33, 6, 34, 10, 35, 36, 37, 38, 39, 40, 41, 42, 43, 44, 45, 46, 47, 48, 49, 50, 51, 8, 52, 53, 54, 55, 56, 57, 58, 26, 59, 60, 61, 62, 63, 64, 65, 66, 21, 70, 71, 72, 73, 74, 75, 76, 77, 78, 79, 80, 81, 82] (by decide +kernel) (by decide +kernel)
set_option maxRecDepth 20000 in
theorem gX3_hashOfKind_X2_mostFittingWear : GoodIn wsX3_hashOfKind (wsV RX3 114 RX2 yX2_mostFittingWear wsX2_mostFittingWear) := goodIn_app (goodIn_of _ (by decide +kernel)) ggX3_hashOfKind_X2_mostFittingWear
theorem dX3_hashOfKind_0 : decode cX3_hashOfKind 0 = .ok (.lload_n 1, 1) := by decide +kernel
theorem dX3_hashOfKind_1 : decode cX3_hashOfKind 1 = .ok (.lstore 4, 2) := by decide +kernel
theorem dX3_hashOfKind_3 : decode cX3_hashOfKind 3 = .ok (.iconst 0, 1) := by decide +kernel
theorem dX3_hashOfKind_4 : decode cX3_hashOfKind 4 = .ok (.istore 6, 2) := by decide +kernel
theorem dX3_hashOfKind_6 : decode cX3_hashOfKind 6 = .ok (.iload 6, 2) := by decide +kernel
theorem dX3_hashOfKind_8 : decode cX3_hashOfKind 8 = .ok (.bipush 7, 2) := by decide +kernel
theorem dX3_hashOfKind_10 : decode cX3_hashOfKind 10 = .ok (.if_icmp .ge 29, 3) := by decide +kernel
theorem dX3_hashOfKind_13 : decode cX3_hashOfKind 13 = .ok (.ldc2_w 166, 3) := by decide +kernel
theorem dX3_hashOfKind_16 : decode cX3_hashOfKind 16 = .ok (.lload 4, 2) := by decide +kernel
theorem dX3_hashOfKind_18 : decode cX3_hashOfKind 18 = .ok (.lmul, 1) := by decide +kernel
theorem dX3_hashOfKind_19 : decode cX3_hashOfKind 19 = .ok (.aload_n 0, 1) := by decide +kernel
theorem dX3_hashOfKind_20 : decode cX3_hashOfKind 20 = .ok (.getfield 12, 3) := by decide +kernel
theorem dX3_hashOfKind_23 : decode cX3_hashOfKind 23 = .ok (.iload_n 3, 1) := by decide +kernel
theorem dX3_hashOfKind_24 : decode cX3_hashOfKind 24 = .ok (.iload 6, 2) := by decide +kernel
theorem dX3_hashOfKind_26 : decode cX3_hashOfKind 26 = .ok (.invokevirtual 99, 3) := by decide +kernel
theorem dX3_hashOfKind_29 : decode cX3_hashOfKind 29 = .ok (.i2l, 1) := by decide +kernel
theorem dX3_hashOfKind_30 : decode cX3_hashOfKind 30 = .ok (.ladd, 1) := by decide +kernel
theorem dX3_hashOfKind_31 : decode cX3_hashOfKind 31 = .ok (.lstore 4, 2) := by decide +kernel
theorem dX3_hashOfKind_33 : decode cX3_hashOfKind 33 = .ok (.iinc 6 1, 3) := by decide +kernel
theorem dX3_hashOfKind_36 : decode cX3_hashOfKind 36 = .ok (.goto (-30), 3) := by decide +kernel
theorem dX3_hashOfKind_39 : decode cX3_hashOfKind 39 = .ok (.ldc2_w 166, 3) := by decide +kernel
theorem dX3_hashOfKind_42 : decode cX3_hashOfKind 42 = .ok (.lload 4, 2) := by decide +kernel
theorem dX3_hashOfKind_44 : decode cX3_hashOfKind 44 = .ok (.lmul, 1) := by decide +kernel
theorem dX3_hashOfKind_45 : decode cX3_hashOfKind 45 = .ok (.aload_n 0, 1) := by decide +kernel
theorem dX3_hashOfKind_46 : decode cX3_hashOfKind 46 = .ok (.getfield 12, 3) := by decide +kernel
theorem dX3_hashOfKind_49 : decode cX3_hashOfKind 49 = .ok (.iload_n 3, 1) := by decide +kernel
theorem dX3_hashOfKind_50 : decode cX3_hashOfKind 50 = .ok (.invokevirtual 114, 3) := by decide +kernel
theorem dX3_hashOfKind_53 : decode cX3_hashOfKind 53 = .ok (.i2l, 1) := by decide +kernel
theorem dX3_hashOfKind_54 : decode cX3_hashOfKind 54 = .ok (.ladd, 1) := by decide +kernel
theorem dX3_hashOfKind_55 : decode cX3_hashOfKind 55 = .ok (.lreturn, 1) := by decide +kernel
set_option maxRecDepth 20000 in
theorem ggX3_hashOfRail_X2_aboutRail : GoodIn wsX3_hashOfRail wsX2_aboutRail := goodIn_r _ [8, 9, 10, 11, 12, 13, 14, 15, 16, 7, 17, 18, 19, 20, 21, 22, 23, 24, 25, 26, 27, 28, 29, 30, 31, 32, 33, 34, 35, 36, 37, 38, 39, 40, 41, 46, 47, 48, 49, 50, 51, 52, 53, 54, 55, 56, 57, 58] (by decide +kernel) (by decide +kernel)
set_option maxRecDepth 20000 in
theorem gX3_hashOfRail_X2_aboutRail : GoodIn wsX3_hashOfRail (wsV RX3 102 RX2 yX2_aboutRail wsX2_aboutRail) := goodIn_app (goodIn_of _ (by decide +kernel)) ggX3_hashOfRail_X2_aboutRail
set_option maxRecDepth 20000 in
theorem ggX3_hashOfRail_X2_coinsOfKind : GoodIn wsX3_hashOfRail wsX2_coinsOfKind := goodIn_r _ [37, 18, 46, 47, 48, 49, 50, 51, 52, 53, 54, 55, 56, 57, 58] (by decide +kernel) (by decide +kernel)
set_option maxRecDepth 20000 in
theorem gX3_hashOfRail_X2_coinsOfKind : GoodIn wsX3_hashOfRail (wsV RX3 105 RX2 yX2_coinsOfKind wsX2_coinsOfKind) := goodIn_app (goodIn_of _ (by decide +kernel)) ggX3_hashOfRail_X2_coinsOfKind
theorem dX3_hashOfRail_0 : decode cX3_hashOfRail 0 = .ok (.lload_n 1, 1) := by decide +kernel
theorem dX3_hashOfRail_1 : decode cX3_hashOfRail 1 = .ok (.lstore 4, 2) := by decide +kernel
theorem dX3_hashOfRail_3 : decode cX3_hashOfRail 3 = .ok (.iconst 0, 1) := by decide +kernel
theorem dX3_hashOfRail_4 : decode cX3_hashOfRail 4 = .ok (.istore 6, 2) := by decide +kernel
theorem dX3_hashOfRail_6 : decode cX3_hashOfRail 6 = .ok (.iload 6, 2) := by decide +kernel
theorem dX3_hashOfRail_8 : decode cX3_hashOfRail 8 = .ok (.bipush 10, 2) := by decide +kernel
theorem dX3_hashOfRail_10 : decode cX3_hashOfRail 10 = .ok (.if_icmp .ge 29, 3) := by decide +kernel
theorem dX3_hashOfRail_13 : decode cX3_hashOfRail 13 = .ok (.ldc2_w 166, 3) := by decide +kernel
theorem dX3_hashOfRail_16 : decode cX3_hashOfRail 16 = .ok (.lload 4, 2) := by decide +kernel
theorem dX3_hashOfRail_18 : decode cX3_hashOfRail 18 = .ok (.lmul, 1) := by decide +kernel
theorem dX3_hashOfRail_19 : decode cX3_hashOfRail 19 = .ok (.aload_n 0, 1) := by decide +kernel
theorem dX3_hashOfRail_20 : decode cX3_hashOfRail 20 = .ok (.getfield 12, 3) := by decide +kernel
theorem dX3_hashOfRail_23 : decode cX3_hashOfRail 23 = .ok (.iload_n 3, 1) := by decide +kernel
theorem dX3_hashOfRail_24 : decode cX3_hashOfRail 24 = .ok (.iload 6, 2) := by decide +kernel
theorem dX3_hashOfRail_26 : decode cX3_hashOfRail 26 = .ok (.invokevirtual 102, 3) := by decide +kernel
theorem dX3_hashOfRail_29 : decode cX3_hashOfRail 29 = .ok (.i2l, 1) := by decide +kernel
theorem dX3_hashOfRail_30 : decode cX3_hashOfRail 30 = .ok (.ladd, 1) := by decide +kernel
theorem dX3_hashOfRail_31 : decode cX3_hashOfRail 31 = .ok (.lstore 4, 2) := by decide +kernel
theorem dX3_hashOfRail_33 : decode cX3_hashOfRail 33 = .ok (.iinc 6 1, 3) := by decide +kernel
theorem dX3_hashOfRail_36 : decode cX3_hashOfRail 36 = .ok (.goto (-30), 3) := by decide +kernel
theorem dX3_hashOfRail_39 : decode cX3_hashOfRail 39 = .ok (.iconst 0, 1) := by decide +kernel
theorem dX3_hashOfRail_40 : decode cX3_hashOfRail 40 = .ok (.istore 6, 2) := by decide +kernel
theorem dX3_hashOfRail_42 : decode cX3_hashOfRail 42 = .ok (.iload 6, 2) := by decide +kernel
theorem dX3_hashOfRail_44 : decode cX3_hashOfRail 44 = .ok (.aload_n 0, 1) := by decide +kernel
theorem dX3_hashOfRail_45 : decode cX3_hashOfRail 45 = .ok (.getfield 12, 3) := by decide +kernel
theorem dX3_hashOfRail_48 : decode cX3_hashOfRail 48 = .ok (.getfield 34, 3) := by decide +kernel
theorem dX3_hashOfRail_51 : decode cX3_hashOfRail 51 = .ok (.if_icmp .ge 29, 3) := by decide +kernel
theorem dX3_hashOfRail_54 : decode cX3_hashOfRail 54 = .ok (.ldc2_w 166, 3) := by decide +kernel
theorem dX3_hashOfRail_57 : decode cX3_hashOfRail 57 = .ok (.lload 4, 2) := by decide +kernel
theorem dX3_hashOfRail_59 : decode cX3_hashOfRail 59 = .ok (.lmul, 1) := by decide +kernel
theorem dX3_hashOfRail_60 : decode cX3_hashOfRail 60 = .ok (.aload_n 0, 1) := by decide +kernel
theorem dX3_hashOfRail_61 : decode cX3_hashOfRail 61 = .ok (.getfield 12, 3) := by decide +kernel
theorem dX3_hashOfRail_64 : decode cX3_hashOfRail 64 = .ok (.iload_n 3, 1) := by decide +kernel
theorem dX3_hashOfRail_65 : decode cX3_hashOfRail 65 = .ok (.iload 6, 2) := by decide +kernel
theorem dX3_hashOfRail_67 : decode cX3_hashOfRail 67 = .ok (.invokevirtual 105, 3) := by decide +kernel
theorem dX3_hashOfRail_70 : decode cX3_hashOfRail 70 = .ok (.i2l, 1) := by decide +kernel
theorem dX3_hashOfRail_71 : decode cX3_hashOfRail 71 = .ok (.ladd, 1) := by decide +kernel
theorem dX3_hashOfRail_72 : decode cX3_hashOfRail 72 = .ok (.lstore 4, 2) := by decide +kernel
theorem dX3_hashOfRail_74 : decode cX3_hashOfRail 74 = .ok (.iinc 6 1, 3) := by decide +kernel
theorem dX3_hashOfRail_77 : decode cX3_hashOfRail 77 = .ok (.goto (-35), 3) := by decide +kernel
theorem dX3_hashOfRail_80 : decode cX3_hashOfRail 80 = .ok (.lload 4, 2) := by decide +kernel
theorem dX3_hashOfRail_82 : decode cX3_hashOfRail 82 = .ok (.lreturn, 1) := by decide +kernel
theorem dX3_checkKind_0 : decode cX3_checkKind 0 = .ok (.iload_n 1, 1) := by decide +kernel
theorem dX3_checkKind_1 : decode cX3_checkKind 1 = .ok (.ifCond .lt 14, 3) := by decide +kernel
theorem dX3_checkKind_4 : decode cX3_checkKind 4 = .ok (.iload_n 1, 1) := by decide +kernel
theorem dX3_checkKind_5 : decode cX3_checkKind 5 = .ok (.aload_n 0, 1) := by decide +kernel
theorem dX3_checkKind_6 : decode cX3_checkKind 6 = .ok (.getfield 12, 3) := by decide +kernel
theorem dX3_checkKind_9 : decode cX3_checkKind 9 = .ok (.getfield 34, 3) := by decide +kernel
theorem dX3_checkKind_12 : decode cX3_checkKind 12 = .ok (.if_icmp .lt 13, 3) := by decide +kernel
theorem dX3_checkKind_15 : decode cX3_checkKind 15 = .ok (.new 175, 3) := by decide +kernel
theorem dX3_checkKind_18 : decode cX3_checkKind 18 = .ok (.dup, 1) := by decide +kernel
theorem dX3_checkKind_19 : decode cX3_checkKind 19 = .ok (.ldc 177, 2) := by decide +kernel
theorem dX3_checkKind_21 : decode cX3_checkKind 21 = .ok (.invokespecial 179, 3) := by decide +kernel
theorem dX3_checkKind_24 : decode cX3_checkKind 24 = .ok (.athrow, 1) := by decide +kernel
theorem dX3_checkKind_25 : decode cX3_checkKind 25 = .ok (.return_, 1) := by decide +kernel
set_option maxRecDepth 20000 in
theorem ggX3_checkRail_X3_isRail : GoodIn wsX3_checkRail wsX3_isRail := goodIn_r _ [6] (by decide +kernel) (by decide +kernel)
set_option maxRecDepth 20000 in
theorem gX3_checkRail_X3_isRail : GoodIn wsX3_checkRail (va_wsS RX3 152 yX3_isRail wsX3_isRail) := goodIn_app (goodIn_of _ (by decide +kernel)) ggX3_checkRail_X3_isRail
theorem dX3_checkRail_0 : decode cX3_checkRail 0 = .ok (.iload_n 0, 1) := by decide +kernel
theorem dX3_checkRail_1 : decode cX3_checkRail 1 = .ok (.invokestatic 152, 3) := by decide +kernel
theorem dX3_checkRail_4 : decode cX3_checkRail 4 = .ok (.ifCond .ne 13, 3) := by decide +kernel
theorem dX3_checkRail_7 : decode cX3_checkRail 7 = .ok (.new 175, 3) := by decide +kernel
theorem dX3_checkRail_10 : decode cX3_checkRail 10 = .ok (.dup, 1) := by decide +kernel
theorem dX3_checkRail_11 : decode cX3_checkRail 11 = .ok (.ldc 180, 2) := by decide +kernel
theorem dX3_checkRail_13 : decode cX3_checkRail 13 = .ok (.invokespecial 179, 3) := by decide +kernel
theorem dX3_checkRail_16 : decode cX3_checkRail 16 = .ok (.athrow, 1) := by decide +kernel
theorem dX3_checkRail_17 : decode cX3_checkRail 17 = .ok (.return_, 1) := by decide +kernel
theorem dX3_checkArgument_0 : decode cX3_checkArgument 0 = .ok (.iload_n 0, 1) := by decide +kernel
theorem dX3_checkArgument_1 : decode cX3_checkArgument 1 = .ok (.iload_n 1, 1) := by decide +kernel
theorem dX3_checkArgument_2 : decode cX3_checkArgument 2 = .ok (.if_icmp .lt 8, 3) := by decide +kernel
theorem dX3_checkArgument_5 : decode cX3_checkArgument 5 = .ok (.iload_n 0, 1) := by decide +kernel
theorem dX3_checkArgument_6 : decode cX3_checkArgument 6 = .ok (.iload_n 2, 1) := by decide +kernel
theorem dX3_checkArgument_7 : decode cX3_checkArgument 7 = .ok (.if_icmp .le 13, 3) := by decide +kernel
theorem dX3_checkArgument_10 : decode cX3_checkArgument 10 = .ok (.new 182, 3) := by decide +kernel
theorem dX3_checkArgument_13 : decode cX3_checkArgument 13 = .ok (.dup, 1) := by decide +kernel
theorem dX3_checkArgument_14 : decode cX3_checkArgument 14 = .ok (.ldc 184, 2) := by decide +kernel
theorem dX3_checkArgument_16 : decode cX3_checkArgument 16 = .ok (.invokespecial 186, 3) := by decide +kernel
theorem dX3_checkArgument_19 : decode cX3_checkArgument 19 = .ok (.athrow, 1) := by decide +kernel
theorem dX3_checkArgument_20 : decode cX3_checkArgument 20 = .ok (.return_, 1) := by decide +kernel
theorem dX3_isRail_0 : decode cX3_isRail 0 = .ok (.iload_n 0, 1) := by decide +kernel
theorem dX3_isRail_1 : decode cX3_isRail 1 = .ok (.ifCond .lt 13, 3) := by decide +kernel
theorem dX3_isRail_4 : decode cX3_isRail 4 = .ok (.iload_n 0, 1) := by decide +kernel
theorem dX3_isRail_5 : decode cX3_isRail 5 = .ok (.bipush 6, 2) := by decide +kernel
theorem dX3_isRail_7 : decode cX3_isRail 7 = .ok (.if_icmp .ge 7, 3) := by decide +kernel
theorem dX3_isRail_10 : decode cX3_isRail 10 = .ok (.iconst 1, 1) := by decide +kernel
theorem dX3_isRail_11 : decode cX3_isRail 11 = .ok (.goto 4, 3) := by decide +kernel
theorem dX3_isRail_14 : decode cX3_isRail 14 = .ok (.iconst 0, 1) := by decide +kernel
theorem dX3_isRail_15 : decode cX3_isRail 15 = .ok (.ireturn, 1) := by decide +kernel
set_option maxRecDepth 20000 in
theorem ggX4_init_X4_railAt : GoodIn wsX4_init wsX4_railAt := goodIn_r _ [12] (by decide +kernel) (by decide +kernel)
set_option maxRecDepth 20000 in
theorem gX4_init_X4_railAt : GoodIn wsX4_init (va_wsS RX4 22 yX4_railAt wsX4_railAt) := goodIn_app (goodIn_of _ (by decide +kernel)) ggX4_init_X4_railAt
set_option maxRecDepth 20000 in
theorem ggX4_init_X4_clears : GoodIn wsX4_init wsX4_clears := goodIn_r _ [16, 5, 9, 10, 11, 12, 17, 18, 19, 20, 21, 22, 23, 24, 25, 26] (by decide +kernel) (by decide +kernel)
set_option maxRecDepth 20000 in
theorem gX4_init_X4_clears : GoodIn wsX4_init (wsV RX4 26 RX4 yX4_clears wsX4_clears) := goodIn_app (goodIn_of _ (by decide +kernel)) ggX4_init_X4_clears
theorem dX4_init_0 : decode cX4_init 0 = .ok (.aload_n 0, 1) := by decide +kernel
theorem dX4_init_1 : decode cX4_init 1 = .ok (.invokespecial 1, 3) := by decide +kernel
theorem dX4_init_4 : decode cX4_init 4 = .ok (.aload_n 0, 1) := by decide +kernel
theorem dX4_init_5 : decode cX4_init 5 = .ok (.bipush 99, 2) := by decide +kernel
theorem dX4_init_7 : decode cX4_init 7 = .ok (.newarray .int, 2) := by decide +kernel
theorem dX4_init_9 : decode cX4_init 9 = .ok (.putfield 7, 3) := by decide +kernel
theorem dX4_init_12 : decode cX4_init 12 = .ok (.aload_n 0, 1) := by decide +kernel
theorem dX4_init_13 : decode cX4_init 13 = .ok (.sipush 396, 3) := by decide +kernel
theorem dX4_init_16 : decode cX4_init 16 = .ok (.newarray .int, 2) := by decide +kernel
theorem dX4_init_18 : decode cX4_init 18 = .ok (.putfield 13, 3) := by decide +kernel
theorem dX4_init_21 : decode cX4_init 21 = .ok (.aload_n 0, 1) := by decide +kernel
theorem dX4_init_22 : decode cX4_init 22 = .ok (.bipush 99, 2) := by decide +kernel
theorem dX4_init_24 : decode cX4_init 24 = .ok (.newarray .int, 2) := by decide +kernel
theorem dX4_init_26 : decode cX4_init 26 = .ok (.putfield 16, 3) := by decide +kernel
theorem dX4_init_29 : decode cX4_init 29 = .ok (.aload_n 0, 1) := by decide +kernel
theorem dX4_init_30 : decode cX4_init 30 = .ok (.bipush 90, 2) := by decide +kernel
theorem dX4_init_32 : decode cX4_init 32 = .ok (.newarray .int, 2) := by decide +kernel
theorem dX4_init_34 : decode cX4_init 34 = .ok (.putfield 19, 3) := by decide +kernel
theorem dX4_init_37 : decode cX4_init 37 = .ok (.iconst 0, 1) := by decide +kernel
theorem dX4_init_38 : decode cX4_init 38 = .ok (.istore_n 1, 1) := by decide +kernel
theorem dX4_init_39 : decode cX4_init 39 = .ok (.iload_n 1, 1) := by decide +kernel
theorem dX4_init_40 : decode cX4_init 40 = .ok (.bipush 6, 2) := by decide +kernel
theorem dX4_init_42 : decode cX4_init 42 = .ok (.if_icmp .ge 33, 3) := by decide +kernel
theorem dX4_init_45 : decode cX4_init 45 = .ok (.aload_n 0, 1) := by decide +kernel
theorem dX4_init_46 : decode cX4_init 46 = .ok (.getfield 7, 3) := by decide +kernel
theorem dX4_init_49 : decode cX4_init 49 = .ok (.iload_n 1, 1) := by decide +kernel
theorem dX4_init_50 : decode cX4_init 50 = .ok (.iconst 0, 1) := by decide +kernel
theorem dX4_init_51 : decode cX4_init 51 = .ok (.invokestatic 22, 3) := by decide +kernel
theorem dX4_init_54 : decode cX4_init 54 = .ok (.sipush 1500, 3) := by decide +kernel
theorem dX4_init_57 : decode cX4_init 57 = .ok (.sipush 400, 3) := by decide +kernel
theorem dX4_init_60 : decode cX4_init 60 = .ok (.iload_n 1, 1) := by decide +kernel
theorem dX4_init_61 : decode cX4_init 61 = .ok (.imul, 1) := by decide +kernel
theorem dX4_init_62 : decode cX4_init 62 = .ok (.iadd, 1) := by decide +kernel
theorem dX4_init_63 : decode cX4_init 63 = .ok (.iastore, 1) := by decide +kernel
theorem dX4_init_64 : decode cX4_init 64 = .ok (.aload_n 0, 1) := by decide +kernel
theorem dX4_init_65 : decode cX4_init 65 = .ok (.iload_n 1, 1) := by decide +kernel
theorem dX4_init_66 : decode cX4_init 66 = .ok (.invokevirtual 26, 3) := by decide +kernel
theorem dX4_init_69 : decode cX4_init 69 = .ok (.iinc 1 1, 3) := by decide +kernel
theorem dX4_init_72 : decode cX4_init 72 = .ok (.goto (-33), 3) := by decide +kernel
theorem dX4_init_75 : decode cX4_init 75 = .ok (.return_, 1) := by decide +kernel
theorem dX4_thrown_0 : decode cX4_thrown 0 = .ok (.aload_n 0, 1) := by decide +kernel
theorem dX4_thrown_1 : decode cX4_thrown 1 = .ok (.getfield 30, 3) := by decide +kernel
theorem dX4_thrown_4 : decode cX4_thrown 4 = .ok (.ireturn, 1) := by decide +kernel
theorem dX4_in_0 : decode cX4_in 0 = .ok (.lload_n 0, 1) := by decide +kernel
theorem dX4_in_1 : decode cX4_in 1 = .ok (.lload_n 2, 1) := by decide +kernel
theorem dX4_in_2 : decode cX4_in 2 = .ok (.lcmp, 1) := by decide +kernel
theorem dX4_in_3 : decode cX4_in 3 = .ok (.ifCond .lt 14, 3) := by decide +kernel
theorem dX4_in_6 : decode cX4_in 6 = .ok (.lload_n 0, 1) := by decide +kernel
theorem dX4_in_7 : decode cX4_in 7 = .ok (.lload 4, 2) := by decide +kernel
theorem dX4_in_9 : decode cX4_in 9 = .ok (.lcmp, 1) := by decide +kernel
theorem dX4_in_10 : decode cX4_in 10 = .ok (.ifCond .gt 7, 3) := by decide +kernel
theorem dX4_in_13 : decode cX4_in 13 = .ok (.iconst 1, 1) := by decide +kernel
theorem dX4_in_14 : decode cX4_in 14 = .ok (.goto 4, 3) := by decide +kernel
theorem dX4_in_17 : decode cX4_in 17 = .ok (.iconst 0, 1) := by decide +kernel
theorem dX4_in_18 : decode cX4_in 18 = .ok (.ireturn, 1) := by decide +kernel
theorem dX4_fine_0 : decode cX4_fine 0 = .ok (.aload_n 0, 1) := by decide +kernel
theorem dX4_fine_1 : decode cX4_fine 1 = .ok (.iconst 0, 1) := by decide +kernel
theorem dX4_fine_2 : decode cX4_fine 2 = .ok (.putfield 30, 3) := by decide +kernel
theorem dX4_fine_5 : decode cX4_fine 5 = .ok (.iload_n 1, 1) := by decide +kernel
theorem dX4_fine_6 : decode cX4_fine 6 = .ok (.ireturn, 1) := by decide +kernel
theorem dX4_throwing_0 : decode cX4_throwing 0 = .ok (.aload_n 0, 1) := by decide +kernel
theorem dX4_throwing_1 : decode cX4_throwing 1 = .ok (.iload_n 1, 1) := by decide +kernel
theorem dX4_throwing_2 : decode cX4_throwing 2 = .ok (.putfield 30, 3) := by decide +kernel
theorem dX4_throwing_5 : decode cX4_throwing 5 = .ok (.iconst 0, 1) := by decide +kernel
theorem dX4_throwing_6 : decode cX4_throwing 6 = .ok (.ireturn, 1) := by decide +kernel
theorem dX4_save_0 : decode cX4_save 0 = .ok (.aload_n 0, 1) := by decide +kernel
theorem dX4_save_1 : decode cX4_save 1 = .ok (.getfield 34, 3) := by decide +kernel
theorem dX4_save_4 : decode cX4_save 4 = .ok (.iconst 4, 1) := by decide +kernel
theorem dX4_save_5 : decode cX4_save 5 = .ok (.if_icmp .ne 43, 3) := by decide +kernel
theorem dX4_save_8 : decode cX4_save 8 = .ok (.iconst 0, 1) := by decide +kernel
theorem dX4_save_9 : decode cX4_save 9 = .ok (.istore_n 1, 1) := by decide +kernel
theorem dX4_save_10 : decode cX4_save 10 = .ok (.iload_n 1, 1) := by decide +kernel
theorem dX4_save_11 : decode cX4_save 11 = .ok (.sipush 297, 3) := by decide +kernel
theorem dX4_save_14 : decode cX4_save 14 = .ok (.if_icmp .ge 24, 3) := by decide +kernel
theorem dX4_save_17 : decode cX4_save 17 = .ok (.aload_n 0, 1) := by decide +kernel
theorem dX4_save_18 : decode cX4_save 18 = .ok (.getfield 13, 3) := by decide +kernel
theorem dX4_save_21 : decode cX4_save 21 = .ok (.iload_n 1, 1) := by decide +kernel
theorem dX4_save_22 : decode cX4_save 22 = .ok (.aload_n 0, 1) := by decide +kernel
theorem dX4_save_23 : decode cX4_save 23 = .ok (.getfield 13, 3) := by decide +kernel
theorem dX4_save_26 : decode cX4_save 26 = .ok (.iload_n 1, 1) := by decide +kernel
theorem dX4_save_27 : decode cX4_save 27 = .ok (.bipush 99, 2) := by decide +kernel
theorem dX4_save_29 : decode cX4_save 29 = .ok (.iadd, 1) := by decide +kernel
theorem dX4_save_30 : decode cX4_save 30 = .ok (.iaload, 1) := by decide +kernel
theorem dX4_save_31 : decode cX4_save 31 = .ok (.iastore, 1) := by decide +kernel
theorem dX4_save_32 : decode cX4_save 32 = .ok (.iinc 1 1, 3) := by decide +kernel
theorem dX4_save_35 : decode cX4_save 35 = .ok (.goto (-25), 3) := by decide +kernel
theorem dX4_save_38 : decode cX4_save 38 = .ok (.aload_n 0, 1) := by decide +kernel
theorem dX4_save_39 : decode cX4_save 39 = .ok (.dup, 1) := by decide +kernel
theorem dX4_save_40 : decode cX4_save 40 = .ok (.getfield 34, 3) := by decide +kernel
theorem dX4_save_43 : decode cX4_save 43 = .ok (.iconst 1, 1) := by decide +kernel
theorem dX4_save_44 : decode cX4_save 44 = .ok (.isub, 1) := by decide +kernel
