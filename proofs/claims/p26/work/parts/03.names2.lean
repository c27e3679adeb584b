theorem dX2_removeRejects_1 : decode cX2_removeRejects 1 = .ok (.getfield 24, 3) := by decide +kernel
theorem dX2_removeRejects_4 : decode cX2_removeRejects 4 = .ok (.invokestatic 109, 3) := by decide +kernel
theorem dX2_removeRejects_7 : decode cX2_removeRejects 7 = .ok (.istore_n 1, 1) := by decide +kernel
theorem dX2_removeRejects_8 : decode cX2_removeRejects 8 = .ok (.iconst 0, 1) := by decide +kernel
theorem dX2_removeRejects_9 : decode cX2_removeRejects 9 = .ok (.istore_n 2, 1) := by decide +kernel
theorem dX2_removeRejects_10 : decode cX2_removeRejects 10 = .ok (.iload_n 2, 1) := by decide +kernel
theorem dX2_removeRejects_11 : decode cX2_removeRejects 11 = .ok (.bipush 6, 2) := by decide +kernel
theorem dX2_removeRejects_13 : decode cX2_removeRejects 13 = .ok (.if_icmp .ge 16, 3) := by decide +kernel
theorem dX2_removeRejects_16 : decode cX2_removeRejects 16 = .ok (.aload_n 0, 1) := by decide +kernel
theorem dX2_removeRejects_17 : decode cX2_removeRejects 17 = .ok (.getfield 24, 3) := by decide +kernel
theorem dX2_removeRejects_20 : decode cX2_removeRejects 20 = .ok (.iload_n 2, 1) := by decide +kernel
theorem dX2_removeRejects_21 : decode cX2_removeRejects 21 = .ok (.iconst 0, 1) := by decide +kernel
theorem dX2_removeRejects_22 : decode cX2_removeRejects 22 = .ok (.iastore, 1) := by decide +kernel
theorem dX2_removeRejects_23 : decode cX2_removeRejects 23 = .ok (.iinc 2 1, 3) := by decide +kernel
theorem dX2_removeRejects_26 : decode cX2_removeRejects 26 = .ok (.goto (-16), 3) := by decide +kernel
theorem dX2_removeRejects_29 : decode cX2_removeRejects 29 = .ok (.aload_n 0, 1) := by decide +kernel
theorem dX2_removeRejects_30 : decode cX2_removeRejects 30 = .ok (.dup, 1) := by decide +kernel
theorem dX2_removeRejects_31 : decode cX2_removeRejects 31 = .ok (.getfield 55, 3) := by decide +kernel
theorem dX2_removeRejects_34 : decode cX2_removeRejects 34 = .ok (.iload_n 1, 1) := by decide +kernel
theorem dX2_removeRejects_35 : decode cX2_removeRejects 35 = .ok (.iadd, 1) := by decide +kernel
theorem dX2_removeRejects_36 : decode cX2_removeRejects 36 = .ok (.putfield 55, 3) := by decide +kernel
theorem dX2_removeRejects_39 : decode cX2_removeRejects 39 = .ok (.iload_n 1, 1) := by decide +kernel
theorem dX2_removeRejects_40 : decode cX2_removeRejects 40 = .ok (.ireturn, 1) := by decide +kernel
set_option maxRecDepth 20000 in
theorem ggX2_aboutKind_X2_coinsOfKindInBags : GoodIn wsX2_aboutKind wsX2_coinsOfKindInBags := goodIn_r _ [10, 11, 12, 13, 9, 14, 15, 21, 22, 23, 24, 25, 26, 27, 28, 29, 30, 31, 32, 33] (by decide +kernel) (by decide +kernel)
set_option maxRecDepth 20000 in
theorem gX2_aboutKind_X2_coinsOfKindInBags : GoodIn wsX2_aboutKind (wsV RX2 113 RX2 yX2_coinsOfKindInBags wsX2_coinsOfKindInBags) := goodIn_app (goodIn_of _ (by decide +kernel)) ggX2_aboutKind_X2_coinsOfKindInBags
set_option maxRecDepth 20000 in
theorem ggX2_aboutKind_X2_stuckOfKind : GoodIn wsX2_aboutKind wsX2_stuckOfKind := goodIn_r _ [19, 20, 21, 22, 23, 24, 25, 26, 27, 28, 29, 30, 31, 32, 33] (by decide +kernel) (by decide +kernel)
set_option maxRecDepth 20000 in
theorem gX2_aboutKind_X2_stuckOfKind : GoodIn wsX2_aboutKind (wsV RX2 116 RX2 yX2_stuckOfKind wsX2_stuckOfKind) := goodIn_app (goodIn_of _ (by decide +kernel)) ggX2_aboutKind_X2_stuckOfKind
theorem dX2_aboutKind_0 : decode cX2_aboutKind 0 = .ok (.iload_n 2, 1) := by decide +kernel
theorem dX2_aboutKind_1 : decode cX2_aboutKind 1 = .ok (.tableswitch 79 0 5 #[39, 46, 53, 60, 66, 72], 39) := by decide +kernel
theorem dX2_aboutKind_40 : decode cX2_aboutKind 40 = .ok (.aload_n 0, 1) := by decide +kernel
theorem dX2_aboutKind_41 : decode cX2_aboutKind 41 = .ok (.getfield 9, 3) := by decide +kernel
theorem dX2_aboutKind_44 : decode cX2_aboutKind 44 = .ok (.iload_n 1, 1) := by decide +kernel
theorem dX2_aboutKind_45 : decode cX2_aboutKind 45 = .ok (.iaload, 1) := by decide +kernel
theorem dX2_aboutKind_46 : decode cX2_aboutKind 46 = .ok (.ireturn, 1) := by decide +kernel
theorem dX2_aboutKind_47 : decode cX2_aboutKind 47 = .ok (.aload_n 0, 1) := by decide +kernel
theorem dX2_aboutKind_48 : decode cX2_aboutKind 48 = .ok (.getfield 15, 3) := by decide +kernel
theorem dX2_aboutKind_51 : decode cX2_aboutKind 51 = .ok (.iload_n 1, 1) := by decide +kernel
theorem dX2_aboutKind_52 : decode cX2_aboutKind 52 = .ok (.iaload, 1) := by decide +kernel
theorem dX2_aboutKind_53 : decode cX2_aboutKind 53 = .ok (.ireturn, 1) := by decide +kernel
theorem dX2_aboutKind_54 : decode cX2_aboutKind 54 = .ok (.aload_n 0, 1) := by decide +kernel
theorem dX2_aboutKind_55 : decode cX2_aboutKind 55 = .ok (.getfield 18, 3) := by decide +kernel
theorem dX2_aboutKind_58 : decode cX2_aboutKind 58 = .ok (.iload_n 1, 1) := by decide +kernel
theorem dX2_aboutKind_59 : decode cX2_aboutKind 59 = .ok (.iaload, 1) := by decide +kernel
theorem dX2_aboutKind_60 : decode cX2_aboutKind 60 = .ok (.ireturn, 1) := by decide +kernel
theorem dX2_aboutKind_61 : decode cX2_aboutKind 61 = .ok (.aload_n 0, 1) := by decide +kernel
theorem dX2_aboutKind_62 : decode cX2_aboutKind 62 = .ok (.iload_n 1, 1) := by decide +kernel
theorem dX2_aboutKind_63 : decode cX2_aboutKind 63 = .ok (.invokevirtual 113, 3) := by decide +kernel
theorem dX2_aboutKind_66 : decode cX2_aboutKind 66 = .ok (.ireturn, 1) := by decide +kernel
theorem dX2_aboutKind_67 : decode cX2_aboutKind 67 = .ok (.aload_n 0, 1) := by decide +kernel
theorem dX2_aboutKind_68 : decode cX2_aboutKind 68 = .ok (.iload_n 1, 1) := by decide +kernel
theorem dX2_aboutKind_69 : decode cX2_aboutKind 69 = .ok (.invokevirtual 116, 3) := by decide +kernel
theorem dX2_aboutKind_72 : decode cX2_aboutKind 72 = .ok (.ireturn, 1) := by decide +kernel
theorem dX2_aboutKind_73 : decode cX2_aboutKind 73 = .ok (.aload_n 0, 1) := by decide +kernel
theorem dX2_aboutKind_74 : decode cX2_aboutKind 74 = .ok (.getfield 24, 3) := by decide +kernel
theorem dX2_aboutKind_77 : decode cX2_aboutKind 77 = .ok (.iload_n 1, 1) := by decide +kernel
theorem dX2_aboutKind_78 : decode cX2_aboutKind 78 = .ok (.iaload, 1) := by decide +kernel
theorem dX2_aboutKind_79 : decode cX2_aboutKind 79 = .ok (.ireturn, 1) := by decide +kernel
theorem dX2_aboutKind_80 : decode cX2_aboutKind 80 = .ok (.aload_n 0, 1) := by decide +kernel
theorem dX2_aboutKind_81 : decode cX2_aboutKind 81 = .ok (.getfield 21, 3) := by decide +kernel
theorem dX2_aboutKind_84 : decode cX2_aboutKind 84 = .ok (.iload_n 1, 1) := by decide +kernel
theorem dX2_aboutKind_85 : decode cX2_aboutKind 85 = .ok (.iaload, 1) := by decide +kernel
theorem dX2_aboutKind_86 : decode cX2_aboutKind 86 = .ok (.ireturn, 1) := by decide +kernel
set_option maxRecDepth 20000 in
theorem ggX2_aboutRail_X2_coinsIn : GoodIn wsX2_aboutRail wsX2_coinsIn := goodIn_r _ [10, 11, 35, 36, 37, 38, 39, 40, 41, 42, 43, 44, 45, 46, 47] (by decide +kernel) (by decide +kernel)
set_option maxRecDepth 20000 in
theorem gX2_aboutRail_X2_coinsIn : GoodIn wsX2_aboutRail (wsV RX2 58 RX2 yX2_coinsIn wsX2_coinsIn) := goodIn_app (goodIn_of _ (by decide +kernel)) ggX2_aboutRail_X2_coinsIn
set_option maxRecDepth 20000 in
theorem ggX2_aboutRail_X2_supposedWorth : GoodIn wsX2_aboutRail wsX2_supposedWorth := goodIn_r _ [15, 16, 17, 18, 19, 9, 20, 21, 22, 6, 7, 8, 10, 11, 35, 36, 37, 38, 39, 40, 41, 42, 43, 44, 45, 46, 47] (by decide +kernel) (by decide +kernel)
set_option maxRecDepth 20000 in
theorem gX2_aboutRail_X2_supposedWorth : GoodIn wsX2_aboutRail (wsV RX2 119 RX2 yX2_supposedWorth wsX2_supposedWorth) := goodIn_app (goodIn_of _ (by decide +kernel)) ggX2_aboutRail_X2_supposedWorth
set_option maxRecDepth 20000 in
theorem ggX2_aboutRail_X2_trueWorth : GoodIn wsX2_aboutRail wsX2_trueWorth := goodIn_r _ [26, 21, 16, 27, 28, 29, 9, 30, 11, 35, 36, 37, 38, 39, 40, 41, 42, 43, 44, 45, 46, 47] (by decide +kernel) (by decide +kernel)
set_option maxRecDepth 20000 in
theorem gX2_aboutRail_X2_trueWorth : GoodIn wsX2_aboutRail (wsV RX2 122 RX2 yX2_trueWorth wsX2_trueWorth) := goodIn_app (goodIn_of _ (by decide +kernel)) ggX2_aboutRail_X2_trueWorth
set_option maxRecDepth 20000 in
theorem ggX2_aboutRail_X2_misfitsIn : GoodIn wsX2_aboutRail wsX2_misfitsIn := goodIn_r _ [34, 21, 22, 27, 28, 29, 9, 30, 11, 35, 36, 37, 38, 39, 40, 41, 42, 43, 44, 45, 46, 47] (by decide +kernel) (by decide +kernel)
set_option maxRecDepth 20000 in
theorem gX2_aboutRail_X2_misfitsIn : GoodIn wsX2_aboutRail (wsV RX2 125 RX2 yX2_misfitsIn wsX2_misfitsIn) := goodIn_app (goodIn_of _ (by decide +kernel)) ggX2_aboutRail_X2_misfitsIn
set_option maxRecDepth 20000 in
theorem ggX2_aboutRail_X2_kindOfRail : GoodIn wsX2_aboutRail wsX2_kindOfRail := goodIn_r _ [20, 21, 22, 35, 36, 37, 38, 39, 40, 41, 42, 43, 44, 45, 46, 47] (by decide +kernel) (by decide +kernel)
set_option maxRecDepth 20000 in
theorem gX2_aboutRail_X2_kindOfRail : GoodIn wsX2_aboutRail (wsV RX2 128 RX2 yX2_kindOfRail wsX2_kindOfRail) := goodIn_app (goodIn_of _ (by decide +kernel)) ggX2_aboutRail_X2_kindOfRail
theorem dX2_aboutRail_0 : decode cX2_aboutRail 0 = .ok (.iload_n 2, 1) := by decide +kernel
theorem dX2_aboutRail_1 : decode cX2_aboutRail 1 = .ok (.tableswitch 109 0 8 #[51, 58, 65, 71, 78, 85, 91, 97, 103], 51) := by decide +kernel
theorem dX2_aboutRail_52 : decode cX2_aboutRail 52 = .ok (.aload_n 0, 1) := by decide +kernel
theorem dX2_aboutRail_53 : decode cX2_aboutRail 53 = .ok (.getfield 27, 3) := by decide +kernel
theorem dX2_aboutRail_56 : decode cX2_aboutRail 56 = .ok (.iload_n 1, 1) := by decide +kernel
theorem dX2_aboutRail_57 : decode cX2_aboutRail 57 = .ok (.iaload, 1) := by decide +kernel
theorem dX2_aboutRail_58 : decode cX2_aboutRail 58 = .ok (.ireturn, 1) := by decide +kernel
theorem dX2_aboutRail_59 : decode cX2_aboutRail 59 = .ok (.aload_n 0, 1) := by decide +kernel
theorem dX2_aboutRail_60 : decode cX2_aboutRail 60 = .ok (.getfield 30, 3) := by decide +kernel
theorem dX2_aboutRail_63 : decode cX2_aboutRail 63 = .ok (.iload_n 1, 1) := by decide +kernel
theorem dX2_aboutRail_64 : decode cX2_aboutRail 64 = .ok (.iaload, 1) := by decide +kernel
theorem dX2_aboutRail_65 : decode cX2_aboutRail 65 = .ok (.ireturn, 1) := by decide +kernel
theorem dX2_aboutRail_66 : decode cX2_aboutRail 66 = .ok (.aload_n 0, 1) := by decide +kernel
theorem dX2_aboutRail_67 : decode cX2_aboutRail 67 = .ok (.iload_n 1, 1) := by decide +kernel
theorem dX2_aboutRail_68 : decode cX2_aboutRail 68 = .ok (.invokevirtual 58, 3) := by decide +kernel
theorem dX2_aboutRail_71 : decode cX2_aboutRail 71 = .ok (.ireturn, 1) := by decide +kernel
theorem dX2_aboutRail_72 : decode cX2_aboutRail 72 = .ok (.aload_n 0, 1) := by decide +kernel
theorem dX2_aboutRail_73 : decode cX2_aboutRail 73 = .ok (.getfield 33, 3) := by decide +kernel
theorem dX2_aboutRail_76 : decode cX2_aboutRail 76 = .ok (.iload_n 1, 1) := by decide +kernel
theorem dX2_aboutRail_77 : decode cX2_aboutRail 77 = .ok (.iaload, 1) := by decide +kernel
theorem dX2_aboutRail_78 : decode cX2_aboutRail 78 = .ok (.ireturn, 1) := by decide +kernel
theorem dX2_aboutRail_79 : decode cX2_aboutRail 79 = .ok (.aload_n 0, 1) := by decide +kernel
theorem dX2_aboutRail_80 : decode cX2_aboutRail 80 = .ok (.getfield 36, 3) := by decide +kernel
theorem dX2_aboutRail_83 : decode cX2_aboutRail 83 = .ok (.iload_n 1, 1) := by decide +kernel
theorem dX2_aboutRail_84 : decode cX2_aboutRail 84 = .ok (.iaload, 1) := by decide +kernel
theorem dX2_aboutRail_85 : decode cX2_aboutRail 85 = .ok (.ireturn, 1) := by decide +kernel
theorem dX2_aboutRail_86 : decode cX2_aboutRail 86 = .ok (.aload_n 0, 1) := by decide +kernel
theorem dX2_aboutRail_87 : decode cX2_aboutRail 87 = .ok (.iload_n 1, 1) := by decide +kernel
theorem dX2_aboutRail_88 : decode cX2_aboutRail 88 = .ok (.invokevirtual 119, 3) := by decide +kernel
theorem dX2_aboutRail_91 : decode cX2_aboutRail 91 = .ok (.ireturn, 1) := by decide +kernel
theorem dX2_aboutRail_92 : decode cX2_aboutRail 92 = .ok (.aload_n 0, 1) := by decide +kernel
theorem dX2_aboutRail_93 : decode cX2_aboutRail 93 = .ok (.iload_n 1, 1) := by decide +kernel
theorem dX2_aboutRail_94 : decode cX2_aboutRail 94 = .ok (.invokevirtual 122, 3) := by decide +kernel
theorem dX2_aboutRail_97 : decode cX2_aboutRail 97 = .ok (.ireturn, 1) := by decide +kernel
theorem dX2_aboutRail_98 : decode cX2_aboutRail 98 = .ok (.aload_n 0, 1) := by decide +kernel
theorem dX2_aboutRail_99 : decode cX2_aboutRail 99 = .ok (.iload_n 1, 1) := by decide +kernel
theorem dX2_aboutRail_100 : decode cX2_aboutRail 100 = .ok (.invokevirtual 125, 3) := by decide +kernel
theorem dX2_aboutRail_103 : decode cX2_aboutRail 103 = .ok (.ireturn, 1) := by decide +kernel
theorem dX2_aboutRail_104 : decode cX2_aboutRail 104 = .ok (.aload_n 0, 1) := by decide +kernel
theorem dX2_aboutRail_105 : decode cX2_aboutRail 105 = .ok (.iload_n 1, 1) := by decide +kernel
theorem dX2_aboutRail_106 : decode cX2_aboutRail 106 = .ok (.invokevirtual 128, 3) := by decide +kernel
theorem dX2_aboutRail_109 : decode cX2_aboutRail 109 = .ok (.ireturn, 1) := by decide +kernel
theorem dX2_aboutRail_110 : decode cX2_aboutRail 110 = .ok (.aload_n 0, 1) := by decide +kernel
theorem dX2_aboutRail_111 : decode cX2_aboutRail 111 = .ok (.getfield 39, 3) := by decide +kernel
theorem dX2_aboutRail_114 : decode cX2_aboutRail 114 = .ok (.iload_n 1, 1) := by decide +kernel
theorem dX2_aboutRail_115 : decode cX2_aboutRail 115 = .ok (.iaload, 1) := by decide +kernel
theorem dX2_aboutRail_116 : decode cX2_aboutRail 116 = .ok (.ireturn, 1) := by decide +kernel
set_option maxRecDepth 20000 in
theorem ggX2_aboutAll_X2_sum : GoodIn wsX2_aboutAll wsX2_sum := goodIn_r _ [8] (by decide +kernel) (by decide +kernel)
set_option maxRecDepth 20000 in
theorem gX2_aboutAll_X2_sum : GoodIn wsX2_aboutAll (va_wsS RX2 109 yX2_sum wsX2_sum) := goodIn_app (goodIn_of _ (by decide +kernel)) ggX2_aboutAll_X2_sum
set_option maxRecDepth 20000 in
theorem ggX2_aboutAll_X2_coinsInBags : GoodIn wsX2_aboutAll wsX2_coinsInBags := goodIn_r _ [12, 13, 5, 6, 7, 8, 69, 70, 71, 72, 73, 74, 75, 76, 77, 78, 79, 80, 81] (by decide +kernel) (by decide +kernel)
set_option maxRecDepth 20000 in
theorem gX2_aboutAll_X2_coinsInBags : GoodIn wsX2_aboutAll (wsV RX2 131 RX2 yX2_coinsInBags wsX2_coinsInBags) := goodIn_app (goodIn_of _ (by decide +kernel)) ggX2_aboutAll_X2_coinsInBags
set_option maxRecDepth 20000 in
theorem ggX2_aboutAll_X2_stuckRails : GoodIn wsX2_aboutAll wsX2_stuckRails := goodIn_r _ [17, 18, 19, 20, 7, 21, 22, 69, 70, 71, 72, 73, 74, 75, 76, 77, 78, 79, 80, 81] (by decide +kernel) (by decide +kernel)
set_option maxRecDepth 20000 in
theorem gX2_aboutAll_X2_stuckRails : GoodIn wsX2_aboutAll (wsV RX2 135 RX2 yX2_stuckRails wsX2_stuckRails) := goodIn_app (goodIn_of _ (by decide +kernel)) ggX2_aboutAll_X2_stuckRails
set_option maxRecDepth 20000 in
theorem ggX2_aboutAll_X2_misfits : GoodIn wsX2_aboutAll wsX2_misfits := goodIn_r _ [26, 27, 28, 29, 7, 30, 1, 31, 32, 33, 34, 35, 13, 69, 70, 71, 72, 73, 74, 75, 76, 77, 78, 79, 80, 81] (by decide +kernel) (by decide +kernel)
set_option maxRecDepth 20000 in
theorem gX2_aboutAll_X2_misfits : GoodIn wsX2_aboutAll (wsV RX2 138 RX2 yX2_misfits wsX2_misfits) := goodIn_app (goodIn_of _ (by decide +kernel)) ggX2_aboutAll_X2_misfits
set_option maxRecDepth 20000 in
theorem ggX2_aboutAll_X2_supposedWorthOfAll : GoodIn wsX2_aboutAll wsX2_supposedWorthOfAll := goodIn_r _ [39, 40, 41, 42, 7, 43, 44, 45, 46, 47, 48, 1, 31, 49, 50, 51, 52, 13, 69, 70, 71, 72, 73, 74, 75, 76, 77, 78, 79, 80, 81] (by decide +kernel) (by decide +kernel)
set_option maxRecDepth 20000 in
theorem gX2_aboutAll_X2_supposedWorthOfAll : GoodIn wsX2_aboutAll (wsV RX2 141 RX2 yX2_supposedWorthOfAll wsX2_supposedWorthOfAll) := goodIn_app (goodIn_of _ (by decide +kernel)) ggX2_aboutAll_X2_supposedWorthOfAll
set_option maxRecDepth 20000 in
theorem ggX2_aboutAll_X2_trueWorthOfAll : GoodIn wsX2_aboutAll wsX2_trueWorthOfAll := goodIn_r _ [56, 57, 58, 59, 7, 60, 1, 44, 32, 33, 34, 35, 13, 69, 70, 71, 72, 73, 74, 75, 76, 77, 78, 79, 80, 81] (by decide +kernel) (by decide +kernel)
set_option maxRecDepth 20000 in
theorem gX2_aboutAll_X2_trueWorthOfAll : GoodIn wsX2_aboutAll (wsV RX2 144 RX2 yX2_trueWorthOfAll wsX2_trueWorthOfAll) := goodIn_app (goodIn_of _ (by decide +kernel)) ggX2_aboutAll_X2_trueWorthOfAll
set_option maxRecDepth 20000 in
theorem ggX2_aboutAll_X2_fullBags : GoodIn wsX2_aboutAll wsX2_fullBags := goodIn_r _ [64, 65, 66, 67, 7, 68, 49, 50, 51, 52, 13, 69, 70, 71, 72, 73, 74, 75, 76, 77, 78, 79, 80, 81] (by decide +kernel) (by decide +kernel)
set_option maxRecDepth 20000 in
theorem gX2_aboutAll_X2_fullBags : GoodIn wsX2_aboutAll (wsV RX2 147 RX2 yX2_fullBags wsX2_fullBags) := goodIn_app (goodIn_of _ (by decide +kernel)) ggX2_aboutAll_X2_fullBags
theorem dX2_aboutAll_0 : decode cX2_aboutAll 0 = .ok (.iload_n 1, 1) := by decide +kernel
theorem dX2_aboutAll_1 : decode cX2_aboutAll 1 = .ok (.tableswitch 102 0 8 #[51, 56, 64, 69, 74, 82, 87, 92, 97], 51) := by decide +kernel
theorem dX2_aboutAll_52 : decode cX2_aboutAll 52 = .ok (.aload_n 0, 1) := by decide +kernel
theorem dX2_aboutAll_53 : decode cX2_aboutAll 53 = .ok (.getfield 45, 3) := by decide +kernel
theorem dX2_aboutAll_56 : decode cX2_aboutAll 56 = .ok (.ireturn, 1) := by decide +kernel
theorem dX2_aboutAll_57 : decode cX2_aboutAll 57 = .ok (.aload_n 0, 1) := by decide +kernel
theorem dX2_aboutAll_58 : decode cX2_aboutAll 58 = .ok (.getfield 21, 3) := by decide +kernel
theorem dX2_aboutAll_61 : decode cX2_aboutAll 61 = .ok (.invokestatic 109, 3) := by decide +kernel
theorem dX2_aboutAll_64 : decode cX2_aboutAll 64 = .ok (.ireturn, 1) := by decide +kernel
theorem dX2_aboutAll_65 : decode cX2_aboutAll 65 = .ok (.aload_n 0, 1) := by decide +kernel
theorem dX2_aboutAll_66 : decode cX2_aboutAll 66 = .ok (.invokevirtual 131, 3) := by decide +kernel
theorem dX2_aboutAll_69 : decode cX2_aboutAll 69 = .ok (.ireturn, 1) := by decide +kernel
theorem dX2_aboutAll_70 : decode cX2_aboutAll 70 = .ok (.aload_n 0, 1) := by decide +kernel
theorem dX2_aboutAll_71 : decode cX2_aboutAll 71 = .ok (.invokevirtual 135, 3) := by decide +kernel
theorem dX2_aboutAll_74 : decode cX2_aboutAll 74 = .ok (.ireturn, 1) := by decide +kernel
theorem dX2_aboutAll_75 : decode cX2_aboutAll 75 = .ok (.aload_n 0, 1) := by decide +kernel
theorem dX2_aboutAll_76 : decode cX2_aboutAll 76 = .ok (.getfield 24, 3) := by decide +kernel
theorem dX2_aboutAll_79 : decode cX2_aboutAll 79 = .ok (.invokestatic 109, 3) := by decide +kernel
theorem dX2_aboutAll_82 : decode cX2_aboutAll 82 = .ok (.ireturn, 1) := by decide +kernel
theorem dX2_aboutAll_83 : decode cX2_aboutAll 83 = .ok (.aload_n 0, 1) := by decide +kernel
theorem dX2_aboutAll_84 : decode cX2_aboutAll 84 = .ok (.getfield 55, 3) := by decide +kernel
theorem dX2_aboutAll_87 : decode cX2_aboutAll 87 = .ok (.ireturn, 1) := by decide +kernel
theorem dX2_aboutAll_88 : decode cX2_aboutAll 88 = .ok (.aload_n 0, 1) := by decide +kernel
theorem dX2_aboutAll_89 : decode cX2_aboutAll 89 = .ok (.invokevirtual 138, 3) := by decide +kernel
theorem dX2_aboutAll_92 : decode cX2_aboutAll 92 = .ok (.ireturn, 1) := by decide +kernel
theorem dX2_aboutAll_93 : decode cX2_aboutAll 93 = .ok (.aload_n 0, 1) := by decide +kernel
theorem dX2_aboutAll_94 : decode cX2_aboutAll 94 = .ok (.invokevirtual 141, 3) := by decide +kernel
theorem dX2_aboutAll_97 : decode cX2_aboutAll 97 = .ok (.ireturn, 1) := by decide +kernel
theorem dX2_aboutAll_98 : decode cX2_aboutAll 98 = .ok (.aload_n 0, 1) := by decide +kernel
theorem dX2_aboutAll_99 : decode cX2_aboutAll 99 = .ok (.invokevirtual 144, 3) := by decide +kernel
theorem dX2_aboutAll_102 : decode cX2_aboutAll 102 = .ok (.ireturn, 1) := by decide +kernel
theorem dX2_aboutAll_103 : decode cX2_aboutAll 103 = .ok (.aload_n 0, 1) := by decide +kernel
theorem dX2_aboutAll_104 : decode cX2_aboutAll 104 = .ok (.invokevirtual 147, 3) := by decide +kernel
theorem dX2_aboutAll_107 : decode cX2_aboutAll 107 = .ok (.ireturn, 1) := by decide +kernel
theorem dX2_sum_0 : decode cX2_sum 0 = .ok (.iconst 0, 1) := by decide +kernel
theorem dX2_sum_1 : decode cX2_sum 1 = .ok (.istore_n 1, 1) := by decide +kernel
theorem dX2_sum_2 : decode cX2_sum 2 = .ok (.aload_n 0, 1) := by decide +kernel
theorem dX2_sum_3 : decode cX2_sum 3 = .ok (.astore_n 2, 1) := by decide +kernel
theorem dX2_sum_4 : decode cX2_sum 4 = .ok (.aload_n 2, 1) := by decide +kernel
theorem dX2_sum_5 : decode cX2_sum 5 = .ok (.arraylength, 1) := by decide +kernel
theorem dX2_sum_6 : decode cX2_sum 6 = .ok (.istore_n 3, 1) := by decide +kernel
theorem dX2_sum_7 : decode cX2_sum 7 = .ok (.iconst 0, 1) := by decide +kernel
theorem dX2_sum_8 : decode cX2_sum 8 = .ok (.istore 4, 2) := by decide +kernel
theorem dX2_sum_10 : decode cX2_sum 10 = .ok (.iload 4, 2) := by decide +kernel
theorem dX2_sum_12 : decode cX2_sum 12 = .ok (.iload_n 3, 1) := by decide +kernel
theorem dX2_sum_13 : decode cX2_sum 13 = .ok (.if_icmp .ge 20, 3) := by decide +kernel
theorem dX2_sum_16 : decode cX2_sum 16 = .ok (.aload_n 2, 1) := by decide +kernel
theorem dX2_sum_17 : decode cX2_sum 17 = .ok (.iload 4, 2) := by decide +kernel
theorem dX2_sum_19 : decode cX2_sum 19 = .ok (.iaload, 1) := by decide +kernel
theorem dX2_sum_20 : decode cX2_sum 20 = .ok (.istore 5, 2) := by decide +kernel
theorem dX2_sum_22 : decode cX2_sum 22 = .ok (.iload_n 1, 1) := by decide +kernel
theorem dX2_sum_23 : decode cX2_sum 23 = .ok (.iload 5, 2) := by decide +kernel
theorem dX2_sum_25 : decode cX2_sum 25 = .ok (.iadd, 1) := by decide +kernel
theorem dX2_sum_26 : decode cX2_sum 26 = .ok (.istore_n 1, 1) := by decide +kernel
theorem dX2_sum_27 : decode cX2_sum 27 = .ok (.iinc 4 1, 3) := by decide +kernel
theorem dX2_sum_30 : decode cX2_sum 30 = .ok (.goto (-20), 3) := by decide +kernel
theorem dX2_sum_33 : decode cX2_sum 33 = .ok (.iload_n 1, 1) := by decide +kernel
theorem dX2_sum_34 : decode cX2_sum 34 = .ok (.ireturn, 1) := by decide +kernel
theorem dX2_coinsOfKind_0 : decode cX2_coinsOfKind 0 = .ok (.aload_n 0, 1) := by decide +kernel
theorem dX2_coinsOfKind_1 : decode cX2_coinsOfKind 1 = .ok (.getfield 42, 3) := by decide +kernel
theorem dX2_coinsOfKind_4 : decode cX2_coinsOfKind 4 = .ok (.iload_n 1, 1) := by decide +kernel
theorem dX2_coinsOfKind_5 : decode cX2_coinsOfKind 5 = .ok (.bipush 6, 2) := by decide +kernel
theorem dX2_coinsOfKind_7 : decode cX2_coinsOfKind 7 = .ok (.imul, 1) := by decide +kernel
theorem dX2_coinsOfKind_8 : decode cX2_coinsOfKind 8 = .ok (.iload_n 2, 1) := by decide +kernel
theorem dX2_coinsOfKind_9 : decode cX2_coinsOfKind 9 = .ok (.iadd, 1) := by decide +kernel
theorem dX2_coinsOfKind_10 : decode cX2_coinsOfKind 10 = .ok (.iaload, 1) := by decide +kernel
theorem dX2_coinsOfKind_11 : decode cX2_coinsOfKind 11 = .ok (.ireturn, 1) := by decide +kernel
theorem dX2_coinsIn_0 : decode cX2_coinsIn 0 = .ok (.iconst 0, 1) := by decide +kernel
theorem dX2_coinsIn_1 : decode cX2_coinsIn 1 = .ok (.istore_n 2, 1) := by decide +kernel
theorem dX2_coinsIn_2 : decode cX2_coinsIn 2 = .ok (.iconst 0, 1) := by decide +kernel
theorem dX2_coinsIn_3 : decode cX2_coinsIn 3 = .ok (.istore_n 3, 1) := by decide +kernel
theorem dX2_coinsIn_4 : decode cX2_coinsIn 4 = .ok (.iload_n 3, 1) := by decide +kernel
theorem dX2_coinsIn_5 : decode cX2_coinsIn 5 = .ok (.bipush 6, 2) := by decide +kernel
theorem dX2_coinsIn_7 : decode cX2_coinsIn 7 = .ok (.if_icmp .ge 23, 3) := by decide +kernel
theorem dX2_coinsIn_10 : decode cX2_coinsIn 10 = .ok (.iload_n 2, 1) := by decide +kernel
theorem dX2_coinsIn_11 : decode cX2_coinsIn 11 = .ok (.aload_n 0, 1) := by decide +kernel
theorem dX2_coinsIn_12 : decode cX2_coinsIn 12 = .ok (.getfield 42, 3) := by decide +kernel
theorem dX2_coinsIn_15 : decode cX2_coinsIn 15 = .ok (.iload_n 1, 1) := by decide +kernel
theorem dX2_coinsIn_16 : decode cX2_coinsIn 16 = .ok (.bipush 6, 2) := by decide +kernel
theorem dX2_coinsIn_18 : decode cX2_coinsIn 18 = .ok (.imul, 1) := by decide +kernel
theorem dX2_coinsIn_19 : decode cX2_coinsIn 19 = .ok (.iload_n 3, 1) := by decide +kernel
theorem dX2_coinsIn_20 : decode cX2_coinsIn 20 = .ok (.iadd, 1) := by decide +kernel
theorem dX2_coinsIn_21 : decode cX2_coinsIn 21 = .ok (.iaload, 1) := by decide +kernel
theorem dX2_coinsIn_22 : decode cX2_coinsIn 22 = .ok (.iadd, 1) := by decide +kernel
theorem dX2_coinsIn_23 : decode cX2_coinsIn 23 = .ok (.istore_n 2, 1) := by decide +kernel
theorem dX2_coinsIn_24 : decode cX2_coinsIn 24 = .ok (.iinc 3 1, 3) := by decide +kernel
theorem dX2_coinsIn_27 : decode cX2_coinsIn 27 = .ok (.goto (-23), 3) := by decide +kernel
theorem dX2_coinsIn_30 : decode cX2_coinsIn 30 = .ok (.iload_n 2, 1) := by decide +kernel
theorem dX2_coinsIn_31 : decode cX2_coinsIn 31 = .ok (.ireturn, 1) := by decide +kernel
set_option maxRecDepth 20000 in
theorem ggX2_coinsInBags_X2_sum : GoodIn wsX2_coinsInBags wsX2_sum := goodIn_r _ [5] (by decide +kernel) (by decide +kernel)
set_option maxRecDepth 20000 in
theorem gX2_coinsInBags_X2_sum : GoodIn wsX2_coinsInBags (va_wsS RX2 109 yX2_sum wsX2_sum) := goodIn_app (goodIn_of _ (by decide +kernel)) ggX2_coinsInBags_X2_sum
theorem dX2_coinsInBags_0 : decode cX2_coinsInBags 0 = .ok (.aload_n 0, 1) := by decide +kernel
theorem dX2_coinsInBags_1 : decode cX2_coinsInBags 1 = .ok (.getfield 42, 3) := by decide +kernel
theorem dX2_coinsInBags_4 : decode cX2_coinsInBags 4 = .ok (.invokestatic 109, 3) := by decide +kernel
theorem dX2_coinsInBags_7 : decode cX2_coinsInBags 7 = .ok (.ireturn, 1) := by decide +kernel
set_option maxRecDepth 20000 in
theorem ggX2_coinsOfKindInBags_X2_coinsOfKind : GoodIn wsX2_coinsOfKindInBags wsX2_coinsOfKind := goodIn_r _ [5, 6, 7, 8, 9, 10, 11, 12, 13, 14, 15, 16, 17, 18, 19] (by decide +kernel) (by decide +kernel)
set_option maxRecDepth 20000 in
theorem gX2_coinsOfKindInBags_X2_coinsOfKind : GoodIn wsX2_coinsOfKindInBags (wsV RX2 150 RX2 yX2_coinsOfKind wsX2_coinsOfKind) := goodIn_app (goodIn_of _ (by decide +kernel)) ggX2_coinsOfKindInBags_X2_coinsOfKind
theorem dX2_coinsOfKindInBags_0 : decode cX2_coinsOfKindInBags 0 = .ok (.iconst 0, 1) := by decide +kernel
theorem dX2_coinsOfKindInBags_1 : decode cX2_coinsOfKindInBags 1 = .ok (.istore_n 2, 1) := by decide +kernel
theorem dX2_coinsOfKindInBags_2 : decode cX2_coinsOfKindInBags 2 = .ok (.iconst 0, 1) := by decide +kernel
theorem dX2_coinsOfKindInBags_3 : decode cX2_coinsOfKindInBags 3 = .ok (.istore_n 3, 1) := by decide +kernel
theorem dX2_coinsOfKindInBags_4 : decode cX2_coinsOfKindInBags 4 = .ok (.iload_n 3, 1) := by decide +kernel
theorem dX2_coinsOfKindInBags_5 : decode cX2_coinsOfKindInBags 5 = .ok (.bipush 6, 2) := by decide +kernel
theorem dX2_coinsOfKindInBags_7 : decode cX2_coinsOfKindInBags 7 = .ok (.if_icmp .ge 18, 3) := by decide +kernel
theorem dX2_coinsOfKindInBags_10 : decode cX2_coinsOfKindInBags 10 = .ok (.iload_n 2, 1) := by decide +kernel
theorem dX2_coinsOfKindInBags_11 : decode cX2_coinsOfKindInBags 11 = .ok (.aload_n 0, 1) := by decide +kernel
theorem dX2_coinsOfKindInBags_12 : decode cX2_coinsOfKindInBags 12 = .ok (.iload_n 3, 1) := by decide +kernel
theorem dX2_coinsOfKindInBags_13 : decode cX2_coinsOfKindInBags 13 = .ok (.iload_n 1, 1) := by decide +kernel
theorem dX2_coinsOfKindInBags_14 : decode cX2_coinsOfKindInBags 14 = .ok (.invokevirtual 150, 3) := by decide +kernel
theorem dX2_coinsOfKindInBags_17 : decode cX2_coinsOfKindInBags 17 = .ok (.iadd, 1) := by decide +kernel
theorem dX2_coinsOfKindInBags_18 : decode cX2_coinsOfKindInBags 18 = .ok (.istore_n 2, 1) := by decide +kernel
theorem dX2_coinsOfKindInBags_19 : decode cX2_coinsOfKindInBags 19 = .ok (.iinc 3 1, 3) := by decide +kernel
theorem dX2_coinsOfKindInBags_22 : decode cX2_coinsOfKindInBags 22 = .ok (.goto (-18), 3) := by decide +kernel
theorem dX2_coinsOfKindInBags_25 : decode cX2_coinsOfKindInBags 25 = .ok (.iload_n 2, 1) := by decide +kernel
theorem dX2_coinsOfKindInBags_26 : decode cX2_coinsOfKindInBags 26 = .ok (.ireturn, 1) := by decide +kernel
theorem dX2_stuckOfKind_0 : decode cX2_stuckOfKind 0 = .ok (.iconst 0, 1) := by decide +kernel
theorem dX2_stuckOfKind_1 : decode cX2_stuckOfKind 1 = .ok (.istore_n 2, 1) := by decide +kernel
theorem dX2_stuckOfKind_2 : decode cX2_stuckOfKind 2 = .ok (.iconst 0, 1) := by decide +kernel
theorem dX2_stuckOfKind_3 : decode cX2_stuckOfKind 3 = .ok (.istore_n 3, 1) := by decide +kernel
theorem dX2_stuckOfKind_4 : decode cX2_stuckOfKind 4 = .ok (.iload_n 3, 1) := by decide +kernel
theorem dX2_stuckOfKind_5 : decode cX2_stuckOfKind 5 = .ok (.bipush 6, 2) := by decide +kernel
theorem dX2_stuckOfKind_7 : decode cX2_stuckOfKind 7 = .ok (.if_icmp .ge 22, 3) := by decide +kernel
theorem dX2_stuckOfKind_10 : decode cX2_stuckOfKind 10 = .ok (.aload_n 0, 1) := by decide +kernel
theorem dX2_stuckOfKind_11 : decode cX2_stuckOfKind 11 = .ok (.getfield 33, 3) := by decide +kernel
theorem dX2_stuckOfKind_14 : decode cX2_stuckOfKind 14 = .ok (.iload_n 3, 1) := by decide +kernel
theorem dX2_stuckOfKind_15 : decode cX2_stuckOfKind 15 = .ok (.iaload, 1) := by decide +kernel
theorem dX2_stuckOfKind_16 : decode cX2_stuckOfKind 16 = .ok (.iload_n 1, 1) := by decide +kernel
theorem dX2_stuckOfKind_17 : decode cX2_stuckOfKind 17 = .ok (.if_icmp .ne 6, 3) := by decide +kernel
theorem dX2_stuckOfKind_20 : decode cX2_stuckOfKind 20 = .ok (.iinc 2 1, 3) := by decide +kernel
theorem dX2_stuckOfKind_23 : decode cX2_stuckOfKind 23 = .ok (.iinc 3 1, 3) := by decide +kernel
theorem dX2_stuckOfKind_26 : decode cX2_stuckOfKind 26 = .ok (.goto (-22), 3) := by decide +kernel
theorem dX2_stuckOfKind_29 : decode cX2_stuckOfKind 29 = .ok (.iload_n 2, 1) := by decide +kernel
theorem dX2_stuckOfKind_30 : decode cX2_stuckOfKind 30 = .ok (.ireturn, 1) := by decide +kernel
set_option maxRecDepth 20000 in
theorem ggX2_stuckRails_X2_isStuck : GoodIn wsX2_stuckRails wsX2_isStuck := goodIn_r _ [5, 6, 7, 8, 9, 10, 11, 12, 13, 14, 15, 16, 17, 18, 19] (by decide +kernel) (by decide +kernel)
set_option maxRecDepth 20000 in
theorem gX2_stuckRails_X2_isStuck : GoodIn wsX2_stuckRails (wsV RX2 69 RX2 yX2_isStuck wsX2_isStuck) := goodIn_app (goodIn_of _ (by decide +kernel)) ggX2_stuckRails_X2_isStuck
theorem dX2_stuckRails_0 : decode cX2_stuckRails 0 = .ok (.iconst 0, 1) := by decide +kernel
theorem dX2_stuckRails_1 : decode cX2_stuckRails 1 = .ok (.istore_n 1, 1) := by decide +kernel
theorem dX2_stuckRails_2 : decode cX2_stuckRails 2 = .ok (.iconst 0, 1) := by decide +kernel
theorem dX2_stuckRails_3 : decode cX2_stuckRails 3 = .ok (.istore_n 2, 1) := by decide +kernel
theorem dX2_stuckRails_4 : decode cX2_stuckRails 4 = .ok (.iload_n 2, 1) := by decide +kernel
theorem dX2_stuckRails_5 : decode cX2_stuckRails 5 = .ok (.bipush 6, 2) := by decide +kernel
theorem dX2_stuckRails_7 : decode cX2_stuckRails 7 = .ok (.if_icmp .ge 20, 3) := by decide +kernel
theorem dX2_stuckRails_10 : decode cX2_stuckRails 10 = .ok (.aload_n 0, 1) := by decide +kernel
theorem dX2_stuckRails_11 : decode cX2_stuckRails 11 = .ok (.iload_n 2, 1) := by decide +kernel
theorem dX2_stuckRails_12 : decode cX2_stuckRails 12 = .ok (.invokevirtual 69, 3) := by decide +kernel
theorem dX2_stuckRails_15 : decode cX2_stuckRails 15 = .ok (.ifCond .eq 6, 3) := by decide +kernel
theorem dX2_stuckRails_18 : decode cX2_stuckRails 18 = .ok (.iinc 1 1, 3) := by decide +kernel
theorem dX2_stuckRails_21 : decode cX2_stuckRails 21 = .ok (.iinc 2 1, 3) := by decide +kernel
theorem dX2_stuckRails_24 : decode cX2_stuckRails 24 = .ok (.goto (-20), 3) := by decide +kernel
theorem dX2_stuckRails_27 : decode cX2_stuckRails 27 = .ok (.iload_n 1, 1) := by decide +kernel
theorem dX2_stuckRails_28 : decode cX2_stuckRails 28 = .ok (.ireturn, 1) := by decide +kernel
set_option maxRecDepth 20000 in
theorem ggX2_fullBags_X2_isFull : GoodIn wsX2_fullBags wsX2_isFull := goodIn_r _ [5, 6, 7, 8, 4, 9, 10, 11, 12, 13, 14, 15, 16, 17, 18, 19, 20, 21, 22, 23] (by decide +kernel) (by decide +kernel)
set_option maxRecDepth 20000 in
theorem gX2_fullBags_X2_isFull : GoodIn wsX2_fullBags (wsV RX2 73 RX2 yX2_isFull wsX2_isFull) := goodIn_app (goodIn_of _ (by decide +kernel)) ggX2_fullBags_X2_isFull
theorem dX2_fullBags_0 : decode cX2_fullBags 0 = .ok (.iconst 0, 1) := by decide +kernel
theorem dX2_fullBags_1 : decode cX2_fullBags 1 = .ok (.istore_n 1, 1) := by decide +kernel
theorem dX2_fullBags_2 : decode cX2_fullBags 2 = .ok (.iconst 0, 1) := by decide +kernel
theorem dX2_fullBags_3 : decode cX2_fullBags 3 = .ok (.istore_n 2, 1) := by decide +kernel
theorem dX2_fullBags_4 : decode cX2_fullBags 4 = .ok (.iload_n 2, 1) := by decide +kernel
theorem dX2_fullBags_5 : decode cX2_fullBags 5 = .ok (.bipush 6, 2) := by decide +kernel
theorem dX2_fullBags_7 : decode cX2_fullBags 7 = .ok (.if_icmp .ge 20, 3) := by decide +kernel
theorem dX2_fullBags_10 : decode cX2_fullBags 10 = .ok (.aload_n 0, 1) := by decide +kernel
theorem dX2_fullBags_11 : decode cX2_fullBags 11 = .ok (.iload_n 2, 1) := by decide +kernel
theorem dX2_fullBags_12 : decode cX2_fullBags 12 = .ok (.invokevirtual 73, 3) := by decide +kernel
theorem dX2_fullBags_15 : decode cX2_fullBags 15 = .ok (.ifCond .eq 6, 3) := by decide +kernel
theorem dX2_fullBags_18 : decode cX2_fullBags 18 = .ok (.iinc 1 1, 3) := by decide +kernel
theorem dX2_fullBags_21 : decode cX2_fullBags 21 = .ok (.iinc 2 1, 3) := by decide +kernel
theorem dX2_fullBags_24 : decode cX2_fullBags 24 = .ok (.goto (-20), 3) := by decide +kernel
theorem dX2_fullBags_27 : decode cX2_fullBags 27 = .ok (.iload_n 1, 1) := by decide +kernel
theorem dX2_fullBags_28 : decode cX2_fullBags 28 = .ok (.ireturn, 1) := by decide +kernel
theorem dX2_kindOfRail_0 : decode cX2_kindOfRail 0 = .ok (.iconst 0, 1) := by decide +kernel
theorem dX2_kindOfRail_1 : decode cX2_kindOfRail 1 = .ok (.istore_n 2, 1) := by decide +kernel
theorem dX2_kindOfRail_2 : decode cX2_kindOfRail 2 = .ok (.iload_n 2, 1) := by decide +kernel
theorem dX2_kindOfRail_3 : decode cX2_kindOfRail 3 = .ok (.aload_n 0, 1) := by decide +kernel
theorem dX2_kindOfRail_4 : decode cX2_kindOfRail 4 = .ok (.getfield 45, 3) := by decide +kernel
theorem dX2_kindOfRail_7 : decode cX2_kindOfRail 7 = .ok (.if_icmp .ge 21, 3) := by decide +kernel
theorem dX2_kindOfRail_10 : decode cX2_kindOfRail 10 = .ok (.aload_n 0, 1) := by decide +kernel
theorem dX2_kindOfRail_11 : decode cX2_kindOfRail 11 = .ok (.getfield 18, 3) := by decide +kernel
theorem dX2_kindOfRail_14 : decode cX2_kindOfRail 14 = .ok (.iload_n 2, 1) := by decide +kernel
theorem dX2_kindOfRail_15 : decode cX2_kindOfRail 15 = .ok (.iaload, 1) := by decide +kernel
theorem dX2_kindOfRail_16 : decode cX2_kindOfRail 16 = .ok (.iload_n 1, 1) := by decide +kernel
theorem dX2_kindOfRail_17 : decode cX2_kindOfRail 17 = .ok (.if_icmp .ne 5, 3) := by decide +kernel
theorem dX2_kindOfRail_20 : decode cX2_kindOfRail 20 = .ok (.iload_n 2, 1) := by decide +kernel
theorem dX2_kindOfRail_21 : decode cX2_kindOfRail 21 = .ok (.ireturn, 1) := by decide +kernel
theorem dX2_kindOfRail_22 : decode cX2_kindOfRail 22 = .ok (.iinc 2 1, 3) := by decide +kernel
theorem dX2_kindOfRail_25 : decode cX2_kindOfRail 25 = .ok (.goto (-23), 3) := by decide +kernel
theorem dX2_kindOfRail_28 : decode cX2_kindOfRail 28 = .ok (.iconst (-1), 1) := by decide +kernel
theorem dX2_kindOfRail_29 : decode cX2_kindOfRail 29 = .ok (.ireturn, 1) := by decide +kernel
set_option maxRecDepth 20000 in
theorem ggX2_supposedWorth_X2_kindOfRail : GoodIn wsX2_supposedWorth wsX2_kindOfRail := goodIn_r _ [6, 7, 8, 14, 15, 16, 17, 18, 19, 20, 21, 22, 23, 24, 25, 26] (by decide +kernel) (by decide +kernel)
set_option maxRecDepth 20000 in
theorem gX2_supposedWorth_X2_kindOfRail : GoodIn wsX2_supposedWorth (wsV RX2 128 RX2 yX2_kindOfRail wsX2_kindOfRail) := goodIn_app (goodIn_of _ (by decide +kernel)) ggX2_supposedWorth_X2_kindOfRail
set_option maxRecDepth 20000 in
theorem ggX2_supposedWorth_X2_coinsIn : GoodIn wsX2_supposedWorth wsX2_coinsIn := goodIn_r _ [12, 13, 14, 15, 16, 17, 18, 19, 20, 21, 22, 23, 24, 25, 26] (by decide +kernel) (by decide +kernel)
set_option maxRecDepth 20000 in
theorem gX2_supposedWorth_X2_coinsIn : GoodIn wsX2_supposedWorth (wsV RX2 58 RX2 yX2_coinsIn wsX2_coinsIn) := goodIn_app (goodIn_of _ (by decide +kernel)) ggX2_supposedWorth_X2_coinsIn
theorem dX2_supposedWorth_0 : decode cX2_supposedWorth 0 = .ok (.aload_n 0, 1) := by decide +kernel
theorem dX2_supposedWorth_1 : decode cX2_supposedWorth 1 = .ok (.iload_n 1, 1) := by decide +kernel
theorem dX2_supposedWorth_2 : decode cX2_supposedWorth 2 = .ok (.invokevirtual 128, 3) := by decide +kernel
theorem dX2_supposedWorth_5 : decode cX2_supposedWorth 5 = .ok (.istore_n 2, 1) := by decide +kernel
theorem dX2_supposedWorth_6 : decode cX2_supposedWorth 6 = .ok (.iload_n 2, 1) := by decide +kernel
theorem dX2_supposedWorth_7 : decode cX2_supposedWorth 7 = .ok (.iconst (-1), 1) := by decide +kernel
theorem dX2_supposedWorth_8 : decode cX2_supposedWorth 8 = .ok (.if_icmp .ne 7, 3) := by decide +kernel
theorem dX2_supposedWorth_11 : decode cX2_supposedWorth 11 = .ok (.iconst 0, 1) := by decide +kernel
theorem dX2_supposedWorth_12 : decode cX2_supposedWorth 12 = .ok (.goto 15, 3) := by decide +kernel
theorem dX2_supposedWorth_15 : decode cX2_supposedWorth 15 = .ok (.aload_n 0, 1) := by decide +kernel
theorem dX2_supposedWorth_16 : decode cX2_supposedWorth 16 = .ok (.iload_n 1, 1) := by decide +kernel
theorem dX2_supposedWorth_17 : decode cX2_supposedWorth 17 = .ok (.invokevirtual 58, 3) := by decide +kernel
theorem dX2_supposedWorth_20 : decode cX2_supposedWorth 20 = .ok (.aload_n 0, 1) := by decide +kernel
theorem dX2_supposedWorth_21 : decode cX2_supposedWorth 21 = .ok (.getfield 15, 3) := by decide +kernel
theorem dX2_supposedWorth_24 : decode cX2_supposedWorth 24 = .ok (.iload_n 2, 1) := by decide +kernel
theorem dX2_supposedWorth_25 : decode cX2_supposedWorth 25 = .ok (.iaload, 1) := by decide +kernel
theorem dX2_supposedWorth_26 : decode cX2_supposedWorth 26 = .ok (.imul, 1) := by decide +kernel
theorem dX2_supposedWorth_27 : decode cX2_supposedWorth 27 = .ok (.ireturn, 1) := by decide +kernel
set_option maxRecDepth 20000 in
theorem ggX2_supposedWorthOfAll_X2_supposedWorth : GoodIn wsX2_supposedWorthOfAll wsX2_supposedWorth := goodIn_r _ [5, 6, 7, 8, 9, 4, 10, 11, 12, 13, 14, 15, 16, 17, 18, 19, 20, 21, 22, 23, 24, 25, 26, 27, 28, 29, 30] (by decide +kernel) (by decide +kernel)
set_option maxRecDepth 20000 in
theorem gX2_supposedWorthOfAll_X2_supposedWorth : GoodIn wsX2_supposedWorthOfAll (wsV RX2 119 RX2 yX2_supposedWorth wsX2_supposedWorth) := goodIn_app (goodIn_of _ (by decide +kernel)) ggX2_supposedWorthOfAll_X2_supposedWorth
theorem dX2_supposedWorthOfAll_0 : decode cX2_supposedWorthOfAll 0 = .ok (.iconst 0, 1) := by decide +kernel
theorem dX2_supposedWorthOfAll_1 : decode cX2_supposedWorthOfAll 1 = .ok (.istore_n 1, 1) := by decide +kernel
theorem dX2_supposedWorthOfAll_2 : decode cX2_supposedWorthOfAll 2 = .ok (.iconst 0, 1) := by decide +kernel
theorem dX2_supposedWorthOfAll_3 : decode cX2_supposedWorthOfAll 3 = .ok (.istore_n 2, 1) := by decide +kernel
theorem dX2_supposedWorthOfAll_4 : decode cX2_supposedWorthOfAll 4 = .ok (.iload_n 2, 1) := by decide +kernel
theorem dX2_supposedWorthOfAll_5 : decode cX2_supposedWorthOfAll 5 = .ok (.bipush 6, 2) := by decide +kernel
theorem dX2_supposedWorthOfAll_7 : decode cX2_supposedWorthOfAll 7 = .ok (.if_icmp .ge 17, 3) := by decide +kernel
theorem dX2_supposedWorthOfAll_10 : decode cX2_supposedWorthOfAll 10 = .ok (.iload_n 1, 1) := by decide +kernel
theorem dX2_supposedWorthOfAll_11 : decode cX2_supposedWorthOfAll 11 = .ok (.aload_n 0, 1) := by decide +kernel
theorem dX2_supposedWorthOfAll_12 : decode cX2_supposedWorthOfAll 12 = .ok (.iload_n 2, 1) := by decide +kernel
theorem dX2_supposedWorthOfAll_13 : decode cX2_supposedWorthOfAll 13 = .ok (.invokevirtual 119, 3) := by decide +kernel
theorem dX2_supposedWorthOfAll_16 : decode cX2_supposedWorthOfAll 16 = .ok (.iadd, 1) := by decide +kernel
theorem dX2_supposedWorthOfAll_17 : decode cX2_supposedWorthOfAll 17 = .ok (.istore_n 1, 1) := by decide +kernel
theorem dX2_supposedWorthOfAll_18 : decode cX2_supposedWorthOfAll 18 = .ok (.iinc 2 1, 3) := by decide +kernel
theorem dX2_supposedWorthOfAll_21 : decode cX2_supposedWorthOfAll 21 = .ok (.goto (-17), 3) := by decide +kernel
theorem dX2_supposedWorthOfAll_24 : decode cX2_supposedWorthOfAll 24 = .ok (.iload_n 1, 1) := by decide +kernel
theorem dX2_supposedWorthOfAll_25 : decode cX2_supposedWorthOfAll 25 = .ok (.ireturn, 1) := by decide +kernel
set_option maxRecDepth 20000 in
theorem ggX2_trueWorth_X2_coinsOfKind : GoodIn wsX2_trueWorth wsX2_coinsOfKind := goodIn_r _ [7, 8, 9, 10, 11, 12, 13, 14, 15, 16, 17, 18, 19, 20, 21] (by decide +kernel) (by decide +kernel)
set_option maxRecDepth 20000 in
theorem gX2_trueWorth_X2_coinsOfKind : GoodIn wsX2_trueWorth (wsV RX2 150 RX2 yX2_coinsOfKind wsX2_coinsOfKind) := goodIn_app (goodIn_of _ (by decide +kernel)) ggX2_trueWorth_X2_coinsOfKind
theorem dX2_trueWorth_0 : decode cX2_trueWorth 0 = .ok (.iconst 0, 1) := by decide +kernel
theorem dX2_trueWorth_1 : decode cX2_trueWorth 1 = .ok (.istore_n 2, 1) := by decide +kernel
theorem dX2_trueWorth_2 : decode cX2_trueWorth 2 = .ok (.iconst 0, 1) := by decide +kernel
theorem dX2_trueWorth_3 : decode cX2_trueWorth 3 = .ok (.istore_n 3, 1) := by decide +kernel
theorem dX2_trueWorth_4 : decode cX2_trueWorth 4 = .ok (.iload_n 3, 1) := by decide +kernel
theorem dX2_trueWorth_5 : decode cX2_trueWorth 5 = .ok (.aload_n 0, 1) := by decide +kernel
theorem dX2_trueWorth_6 : decode cX2_trueWorth 6 = .ok (.getfield 45, 3) := by decide +kernel
theorem dX2_trueWorth_9 : decode cX2_trueWorth 9 = .ok (.if_icmp .ge 25, 3) := by decide +kernel
theorem dX2_trueWorth_12 : decode cX2_trueWorth 12 = .ok (.iload_n 2, 1) := by decide +kernel
theorem dX2_trueWorth_13 : decode cX2_trueWorth 13 = .ok (.aload_n 0, 1) := by decide +kernel
theorem dX2_trueWorth_14 : decode cX2_trueWorth 14 = .ok (.iload_n 1, 1) := by decide +kernel
theorem dX2_trueWorth_15 : decode cX2_trueWorth 15 = .ok (.iload_n 3, 1) := by decide +kernel
theorem dX2_trueWorth_16 : decode cX2_trueWorth 16 = .ok (.invokevirtual 150, 3) := by decide +kernel
theorem dX2_trueWorth_19 : decode cX2_trueWorth 19 = .ok (.aload_n 0, 1) := by decide +kernel
theorem dX2_trueWorth_20 : decode cX2_trueWorth 20 = .ok (.getfield 15, 3) := by decide +kernel
theorem dX2_trueWorth_23 : decode cX2_trueWorth 23 = .ok (.iload_n 3, 1) := by decide +kernel
theorem dX2_trueWorth_24 : decode cX2_trueWorth 24 = .ok (.iaload, 1) := by decide +kernel
theorem dX2_trueWorth_25 : decode cX2_trueWorth 25 = .ok (.imul, 1) := by decide +kernel
theorem dX2_trueWorth_26 : decode cX2_trueWorth 26 = .ok (.iadd, 1) := by decide +kernel
theorem dX2_trueWorth_27 : decode cX2_trueWorth 27 = .ok (.istore_n 2, 1) := by decide +kernel
theorem dX2_trueWorth_28 : decode cX2_trueWorth 28 = .ok (.iinc 3 1, 3) := by decide +kernel
theorem dX2_trueWorth_31 : decode cX2_trueWorth 31 = .ok (.goto (-27), 3) := by decide +kernel
theorem dX2_trueWorth_34 : decode cX2_trueWorth 34 = .ok (.iload_n 2, 1) := by decide +kernel
theorem dX2_trueWorth_35 : decode cX2_trueWorth 35 = .ok (.ireturn, 1) := by decide +kernel
set_option maxRecDepth 20000 in
theorem ggX2_trueWorthOfAll_X2_trueWorth : GoodIn wsX2_trueWorthOfAll wsX2_trueWorth := goodIn_r _ [5, 6, 7, 8, 9, 10, 4, 11, 12, 13, 14, 15, 16, 17, 18, 19, 20, 21, 22, 23, 24, 25] (by decide +kernel) (by decide +kernel)
set_option maxRecDepth 20000 in
theorem gX2_trueWorthOfAll_X2_trueWorth : GoodIn wsX2_trueWorthOfAll (wsV RX2 122 RX2 yX2_trueWorth wsX2_trueWorth) := goodIn_app (goodIn_of _ (by decide +kernel)) ggX2_trueWorthOfAll_X2_trueWorth
theorem dX2_trueWorthOfAll_0 : decode cX2_trueWorthOfAll 0 = .ok (.iconst 0, 1) := by decide +kernel
theorem dX2_trueWorthOfAll_1 : decode cX2_trueWorthOfAll 1 = .ok (.istore_n 1, 1) := by decide +kernel
theorem dX2_trueWorthOfAll_2 : decode cX2_trueWorthOfAll 2 = .ok (.iconst 0, 1) := by decide +kernel
theorem dX2_trueWorthOfAll_3 : decode cX2_trueWorthOfAll 3 = .ok (.istore_n 2, 1) := by decide +kernel
theorem dX2_trueWorthOfAll_4 : decode cX2_trueWorthOfAll 4 = .ok (.iload_n 2, 1) := by decide +kernel
theorem dX2_trueWorthOfAll_5 : decode cX2_trueWorthOfAll 5 = .ok (.bipush 6, 2) := by decide +kernel
theorem dX2_trueWorthOfAll_7 : decode cX2_trueWorthOfAll 7 = .ok (.if_icmp .ge 17, 3) := by decide +kernel
theorem dX2_trueWorthOfAll_10 : decode cX2_trueWorthOfAll 10 = .ok (.iload_n 1, 1) := by decide +kernel
theorem dX2_trueWorthOfAll_11 : decode cX2_trueWorthOfAll 11 = .ok (.aload_n 0, 1) := by decide +kernel
theorem dX2_trueWorthOfAll_12 : decode cX2_trueWorthOfAll 12 = .ok (.iload_n 2, 1) := by decide +kernel
theorem dX2_trueWorthOfAll_13 : decode cX2_trueWorthOfAll 13 = .ok (.invokevirtual 122, 3) := by decide +kernel
theorem dX2_trueWorthOfAll_16 : decode cX2_trueWorthOfAll 16 = .ok (.iadd, 1) := by decide +kernel
theorem dX2_trueWorthOfAll_17 : decode cX2_trueWorthOfAll 17 = .ok (.istore_n 1, 1) := by decide +kernel
theorem dX2_trueWorthOfAll_18 : decode cX2_trueWorthOfAll 18 = .ok (.iinc 2 1, 3) := by decide +kernel
theorem dX2_trueWorthOfAll_21 : decode cX2_trueWorthOfAll 21 = .ok (.goto (-17), 3) := by decide +kernel
theorem dX2_trueWorthOfAll_24 : decode cX2_trueWorthOfAll 24 = .ok (.iload_n 1, 1) := by decide +kernel
theorem dX2_trueWorthOfAll_25 : decode cX2_trueWorthOfAll 25 = .ok (.ireturn, 1) := by decide +kernel
set_option maxRecDepth 20000 in
theorem ggX2_misfitsIn_X2_coinsOfKind : GoodIn wsX2_misfitsIn wsX2_coinsOfKind := goodIn_r _ [7, 8, 9, 10, 11, 12, 13, 14, 15, 16, 17, 18, 19, 20, 21] (by decide +kernel) (by decide +kernel)
set_option maxRecDepth 20000 in
theorem gX2_misfitsIn_X2_coinsOfKind : GoodIn wsX2_misfitsIn (wsV RX2 150 RX2 yX2_coinsOfKind wsX2_coinsOfKind) := goodIn_app (goodIn_of _ (by decide +kernel)) ggX2_misfitsIn_X2_coinsOfKind
theorem dX2_misfitsIn_0 : decode cX2_misfitsIn 0 = .ok (.iconst 0, 1) := by decide +kernel
theorem dX2_misfitsIn_1 : decode cX2_misfitsIn 1 = .ok (.istore_n 2, 1) := by decide +kernel
theorem dX2_misfitsIn_2 : decode cX2_misfitsIn 2 = .ok (.iconst 0, 1) := by decide +kernel
theorem dX2_misfitsIn_3 : decode cX2_misfitsIn 3 = .ok (.istore_n 3, 1) := by decide +kernel
theorem dX2_misfitsIn_4 : decode cX2_misfitsIn 4 = .ok (.iload_n 3, 1) := by decide +kernel
theorem dX2_misfitsIn_5 : decode cX2_misfitsIn 5 = .ok (.aload_n 0, 1) := by decide +kernel
theorem dX2_misfitsIn_6 : decode cX2_misfitsIn 6 = .ok (.getfield 45, 3) := by decide +kernel
theorem dX2_misfitsIn_9 : decode cX2_misfitsIn 9 = .ok (.if_icmp .ge 28, 3) := by decide +kernel
theorem dX2_misfitsIn_12 : decode cX2_misfitsIn 12 = .ok (.aload_n 0, 1) := by decide +kernel
theorem dX2_misfitsIn_13 : decode cX2_misfitsIn 13 = .ok (.getfield 18, 3) := by decide +kernel
theorem dX2_misfitsIn_16 : decode cX2_misfitsIn 16 = .ok (.iload_n 3, 1) := by decide +kernel
theorem dX2_misfitsIn_17 : decode cX2_misfitsIn 17 = .ok (.iaload, 1) := by decide +kernel
theorem dX2_misfitsIn_18 : decode cX2_misfitsIn 18 = .ok (.iload_n 1, 1) := by decide +kernel
theorem dX2_misfitsIn_19 : decode cX2_misfitsIn 19 = .ok (.if_icmp .eq 12, 3) := by decide +kernel
theorem dX2_misfitsIn_22 : decode cX2_misfitsIn 22 = .ok (.iload_n 2, 1) := by decide +kernel
theorem dX2_misfitsIn_23 : decode cX2_misfitsIn 23 = .ok (.aload_n 0, 1) := by decide +kernel
theorem dX2_misfitsIn_24 : decode cX2_misfitsIn 24 = .ok (.iload_n 1, 1) := by decide +kernel
theorem dX2_misfitsIn_25 : decode cX2_misfitsIn 25 = .ok (.iload_n 3, 1) := by decide +kernel
theorem dX2_misfitsIn_26 : decode cX2_misfitsIn 26 = .ok (.invokevirtual 150, 3) := by decide +kernel
theorem dX2_misfitsIn_29 : decode cX2_misfitsIn 29 = .ok (.iadd, 1) := by decide +kernel
theorem dX2_misfitsIn_30 : decode cX2_misfitsIn 30 = .ok (.istore_n 2, 1) := by decide +kernel
theorem dX2_misfitsIn_31 : decode cX2_misfitsIn 31 = .ok (.iinc 3 1, 3) := by decide +kernel
theorem dX2_misfitsIn_34 : decode cX2_misfitsIn 34 = .ok (.goto (-30), 3) := by decide +kernel
theorem dX2_misfitsIn_37 : decode cX2_misfitsIn 37 = .ok (.iload_n 2, 1) := by decide +kernel
theorem dX2_misfitsIn_38 : decode cX2_misfitsIn 38 = .ok (.ireturn, 1) := by decide +kernel
set_option maxRecDepth 20000 in
theorem ggX2_misfits_X2_misfitsIn : GoodIn wsX2_misfits wsX2_misfitsIn := goodIn_r _ [5, 6, 7, 8, 9, 10, 4, 11, 12, 13, 14, 15, 16, 17, 18, 19, 20, 21, 22, 23, 24, 25] (by decide +kernel) (by decide +kernel)
set_option maxRecDepth 20000 in
theorem gX2_misfits_X2_misfitsIn : GoodIn wsX2_misfits (wsV RX2 125 RX2 yX2_misfitsIn wsX2_misfitsIn) := goodIn_app (goodIn_of _ (by decide +kernel)) ggX2_misfits_X2_misfitsIn
theorem dX2_misfits_0 : decode cX2_misfits 0 = .ok (.iconst 0, 1) := by decide +kernel
theorem dX2_misfits_1 : decode cX2_misfits 1 = .ok (.istore_n 1, 1) := by decide +kernel
theorem dX2_misfits_2 : decode cX2_misfits 2 = .ok (.iconst 0, 1) := by decide +kernel
theorem dX2_misfits_3 : decode cX2_misfits 3 = .ok (.istore_n 2, 1) := by decide +kernel
theorem dX2_misfits_4 : decode cX2_misfits 4 = .ok (.iload_n 2, 1) := by decide +kernel
theorem dX2_misfits_5 : decode cX2_misfits 5 = .ok (.bipush 6, 2) := by decide +kernel
theorem dX2_misfits_7 : decode cX2_misfits 7 = .ok (.if_icmp .ge 17, 3) := by decide +kernel
theorem dX2_misfits_10 : decode cX2_misfits 10 = .ok (.iload_n 1, 1) := by decide +kernel
theorem dX2_misfits_11 : decode cX2_misfits 11 = .ok (.aload_n 0, 1) := by decide +kernel
theorem dX2_misfits_12 : decode cX2_misfits 12 = .ok (.iload_n 2, 1) := by decide +kernel
theorem dX2_misfits_13 : decode cX2_misfits 13 = .ok (.invokevirtual 125, 3) := by decide +kernel
theorem dX2_misfits_16 : decode cX2_misfits 16 = .ok (.iadd, 1) := by decide +kernel
theorem dX2_misfits_17 : decode cX2_misfits 17 = .ok (.istore_n 1, 1) := by decide +kernel
theorem dX2_misfits_18 : decode cX2_misfits 18 = .ok (.iinc 2 1, 3) := by decide +kernel
theorem dX2_misfits_21 : decode cX2_misfits 21 = .ok (.goto (-17), 3) := by decide +kernel
theorem dX2_misfits_24 : decode cX2_misfits 24 = .ok (.iload_n 1, 1) := by decide +kernel
theorem dX2_misfits_25 : decode cX2_misfits 25 = .ok (.ireturn, 1) := by decide +kernel
set_option maxRecDepth 20000 in
theorem ggX2_fallsHome_X2_placeFor : GoodIn wsX2_fallsHome wsX2_placeFor := goodIn_r _ [6, 7, 8, 9, 10, 5, 11, 12, 13, 14, 15, 16, 17, 18, 19, 20, 21, 22, 23, 24, 25, 26, 27, 28, 29, 30, 31, 32, 33, 34, 35, 36, 37, 38, 39, 40, 41, 42, 43, 44, 45, 46, 47, 48, 49, 50] (by decide +kernel) (by decide +kernel)
set_option maxRecDepth 20000 in
theorem gX2_fallsHome_X2_placeFor : GoodIn wsX2_fallsHome (wsV RX2 84 RX2 yX2_placeFor wsX2_placeFor) := goodIn_app (goodIn_of _ (by decide +kernel)) ggX2_fallsHome_X2_placeFor
theorem dX2_fallsHome_0 : decode cX2_fallsHome 0 = .ok (.aload_n 0, 1) := by decide +kernel
theorem dX2_fallsHome_1 : decode cX2_fallsHome 1 = .ok (.iload_n 1, 1) := by decide +kernel
theorem dX2_fallsHome_2 : decode cX2_fallsHome 2 = .ok (.iload_n 2, 1) := by decide +kernel
theorem dX2_fallsHome_3 : decode cX2_fallsHome 3 = .ok (.invokevirtual 84, 3) := by decide +kernel
theorem dX2_fallsHome_6 : decode cX2_fallsHome 6 = .ok (.aload_n 0, 1) := by decide +kernel
theorem dX2_fallsHome_7 : decode cX2_fallsHome 7 = .ok (.getfield 18, 3) := by decide +kernel
theorem dX2_fallsHome_10 : decode cX2_fallsHome 10 = .ok (.iload_n 1, 1) := by decide +kernel
theorem dX2_fallsHome_11 : decode cX2_fallsHome 11 = .ok (.iaload, 1) := by decide +kernel
theorem dX2_fallsHome_12 : decode cX2_fallsHome 12 = .ok (.if_icmp .ne 7, 3) := by decide +kernel
theorem dX2_fallsHome_15 : decode cX2_fallsHome 15 = .ok (.iconst 1, 1) := by decide +kernel
theorem dX2_fallsHome_16 : decode cX2_fallsHome 16 = .ok (.goto 4, 3) := by decide +kernel
theorem dX2_fallsHome_19 : decode cX2_fallsHome 19 = .ok (.iconst 0, 1) := by decide +kernel
theorem dX2_fallsHome_20 : decode cX2_fallsHome 20 = .ok (.ireturn, 1) := by decide +kernel
set_option maxRecDepth 20000 in
theorem ggX2_mostFittingWear_X2_fallsHome : GoodIn wsX2_mostFittingWear wsX2_fallsHome := goodIn_r _ [5, 6, 7, 8, 9, 4, 10, 11, 12, 13, 14, 15, 16, 17, 18, 19, 20, 21, 22, 23, 24, 25, 26, 27, 28, 29, 30, 31, 32, 33, 34, 35, 36, 37, 38, 39, 40, 41, 42, 43, 44, 45, 46, 47, 48, 49, 50, 51, 52, 53, 54] (by decide +kernel) (by decide +kernel)
set_option maxRecDepth 20000 in
theorem gX2_mostFittingWear_X2_fallsHome : GoodIn wsX2_mostFittingWear (wsV RX2 156 RX2 yX2_fallsHome wsX2_fallsHome) := goodIn_app (goodIn_of _ (by decide +kernel)) ggX2_mostFittingWear_X2_fallsHome
theorem dX2_mostFittingWear_0 : decode cX2_mostFittingWear 0 = .ok (.aload_n 0, 1) := by decide +kernel
theorem dX2_mostFittingWear_1 : decode cX2_mostFittingWear 1 = .ok (.iload_n 1, 1) := by decide +kernel
theorem dX2_mostFittingWear_2 : decode cX2_mostFittingWear 2 = .ok (.iconst 0, 1) := by decide +kernel
theorem dX2_mostFittingWear_3 : decode cX2_mostFittingWear 3 = .ok (.invokevirtual 156, 3) := by decide +kernel
theorem dX2_mostFittingWear_6 : decode cX2_mostFittingWear 6 = .ok (.ifCond .ne 5, 3) := by decide +kernel
theorem dX2_mostFittingWear_9 : decode cX2_mostFittingWear 9 = .ok (.iconst (-1), 1) := by decide +kernel
theorem dX2_mostFittingWear_10 : decode cX2_mostFittingWear 10 = .ok (.ireturn, 1) := by decide +kernel
theorem dX2_mostFittingWear_11 : decode cX2_mostFittingWear 11 = .ok (.iconst 0, 1) := by decide +kernel
theorem dX2_mostFittingWear_12 : decode cX2_mostFittingWear 12 = .ok (.istore_n 2, 1) := by decide +kernel
theorem dX2_mostFittingWear_13 : decode cX2_mostFittingWear 13 = .ok (.sipush 512, 3) := by decide +kernel
theorem dX2_mostFittingWear_16 : decode cX2_mostFittingWear 16 = .ok (.istore_n 3, 1) := by decide +kernel
theorem dX2_mostFittingWear_17 : decode cX2_mostFittingWear 17 = .ok (.iload_n 3, 1) := by decide +kernel
theorem dX2_mostFittingWear_18 : decode cX2_mostFittingWear 18 = .ok (.ifCond .le 34, 3) := by decide +kernel
theorem dX2_mostFittingWear_21 : decode cX2_mostFittingWear 21 = .ok (.iload_n 2, 1) := by decide +kernel
theorem dX2_mostFittingWear_22 : decode cX2_mostFittingWear 22 = .ok (.iload_n 3, 1) := by decide +kernel
theorem dX2_mostFittingWear_23 : decode cX2_mostFittingWear 23 = .ok (.iadd, 1) := by decide +kernel
theorem dX2_mostFittingWear_24 : decode cX2_mostFittingWear 24 = .ok (.sipush 999, 3) := by decide +kernel
theorem dX2_mostFittingWear_27 : decode cX2_mostFittingWear 27 = .ok (.if_icmp .gt 18, 3) := by decide +kernel
theorem dX2_mostFittingWear_30 : decode cX2_mostFittingWear 30 = .ok (.aload_n 0, 1) := by decide +kernel
theorem dX2_mostFittingWear_31 : decode cX2_mostFittingWear 31 = .ok (.iload_n 1, 1) := by decide +kernel
theorem dX2_mostFittingWear_32 : decode cX2_mostFittingWear 32 = .ok (.iload_n 2, 1) := by decide +kernel
theorem dX2_mostFittingWear_33 : decode cX2_mostFittingWear 33 = .ok (.iload_n 3, 1) := by decide +kernel
theorem dX2_mostFittingWear_34 : decode cX2_mostFittingWear 34 = .ok (.iadd, 1) := by decide +kernel
theorem dX2_mostFittingWear_35 : decode cX2_mostFittingWear 35 = .ok (.invokevirtual 156, 3) := by decide +kernel
theorem dX2_mostFittingWear_38 : decode cX2_mostFittingWear 38 = .ok (.ifCond .eq 7, 3) := by decide +kernel
theorem dX2_mostFittingWear_41 : decode cX2_mostFittingWear 41 = .ok (.iload_n 2, 1) := by decide +kernel
theorem dX2_mostFittingWear_42 : decode cX2_mostFittingWear 42 = .ok (.iload_n 3, 1) := by decide +kernel
theorem dX2_mostFittingWear_43 : decode cX2_mostFittingWear 43 = .ok (.iadd, 1) := by decide +kernel
theorem dX2_mostFittingWear_44 : decode cX2_mostFittingWear 44 = .ok (.istore_n 2, 1) := by decide +kernel
theorem dX2_mostFittingWear_45 : decode cX2_mostFittingWear 45 = .ok (.iload_n 3, 1) := by decide +kernel
theorem dX2_mostFittingWear_46 : decode cX2_mostFittingWear 46 = .ok (.iconst 2, 1) := by decide +kernel
theorem dX2_mostFittingWear_47 : decode cX2_mostFittingWear 47 = .ok (.idiv, 1) := by decide +kernel
theorem dX2_mostFittingWear_48 : decode cX2_mostFittingWear 48 = .ok (.istore_n 3, 1) := by decide +kernel
theorem dX2_mostFittingWear_49 : decode cX2_mostFittingWear 49 = .ok (.goto (-32), 3) := by decide +kernel
theorem dX2_mostFittingWear_52 : decode cX2_mostFittingWear 52 = .ok (.iload_n 2, 1) := by decide +kernel
theorem dX2_mostFittingWear_53 : decode cX2_mostFittingWear 53 = .ok (.ireturn, 1) := by decide +kernel
theorem dX2_leastSortingGap_0 : decode cX2_leastSortingGap 0 = .ok (.iconst (-1), 1) := by decide +kernel
theorem dX2_leastSortingGap_1 : decode cX2_leastSortingGap 1 = .ok (.istore_n 2, 1) := by decide +kernel
theorem dX2_leastSortingGap_2 : decode cX2_leastSortingGap 2 = .ok (.sipush 4100, 3) := by decide +kernel
theorem dX2_leastSortingGap_5 : decode cX2_leastSortingGap 5 = .ok (.istore_n 3, 1) := by decide +kernel
theorem dX2_leastSortingGap_6 : decode cX2_leastSortingGap 6 = .ok (.iconst 0, 1) := by decide +kernel
theorem dX2_leastSortingGap_7 : decode cX2_leastSortingGap 7 = .ok (.istore 4, 2) := by decide +kernel
theorem dX2_leastSortingGap_9 : decode cX2_leastSortingGap 9 = .ok (.iload 4, 2) := by decide +kernel
theorem dX2_leastSortingGap_11 : decode cX2_leastSortingGap 11 = .ok (.aload_n 0, 1) := by decide +kernel
theorem dX2_leastSortingGap_12 : decode cX2_leastSortingGap 12 = .ok (.getfield 45, 3) := by decide +kernel
theorem dX2_leastSortingGap_15 : decode cX2_leastSortingGap 15 = .ok (.if_icmp .ge 60, 3) := by decide +kernel
theorem dX2_leastSortingGap_18 : decode cX2_leastSortingGap 18 = .ok (.aload_n 0, 1) := by decide +kernel
theorem dX2_leastSortingGap_19 : decode cX2_leastSortingGap 19 = .ok (.getfield 18, 3) := by decide +kernel
theorem dX2_leastSortingGap_22 : decode cX2_leastSortingGap 22 = .ok (.iload 4, 2) := by decide +kernel
theorem dX2_leastSortingGap_24 : decode cX2_leastSortingGap 24 = .ok (.iaload, 1) := by decide +kernel
theorem dX2_leastSortingGap_25 : decode cX2_leastSortingGap 25 = .ok (.iload_n 1, 1) := by decide +kernel
theorem dX2_leastSortingGap_26 : decode cX2_leastSortingGap 26 = .ok (.if_icmp .ne 20, 3) := by decide +kernel
theorem dX2_leastSortingGap_29 : decode cX2_leastSortingGap 29 = .ok (.iload_n 2, 1) := by decide +kernel
theorem dX2_leastSortingGap_30 : decode cX2_leastSortingGap 30 = .ok (.aload_n 0, 1) := by decide +kernel
theorem dX2_leastSortingGap_31 : decode cX2_leastSortingGap 31 = .ok (.getfield 9, 3) := by decide +kernel
theorem dX2_leastSortingGap_34 : decode cX2_leastSortingGap 34 = .ok (.iload 4, 2) := by decide +kernel
theorem dX2_leastSortingGap_36 : decode cX2_leastSortingGap 36 = .ok (.iaload, 1) := by decide +kernel
theorem dX2_leastSortingGap_37 : decode cX2_leastSortingGap 37 = .ok (.iconst 5, 1) := by decide +kernel
theorem dX2_leastSortingGap_38 : decode cX2_leastSortingGap 38 = .ok (.iadd, 1) := by decide +kernel
theorem dX2_leastSortingGap_39 : decode cX2_leastSortingGap 39 = .ok (.invokestatic 76, 3) := by decide +kernel
theorem dX2_leastSortingGap_42 : decode cX2_leastSortingGap 42 = .ok (.istore_n 2, 1) := by decide +kernel
theorem dX2_leastSortingGap_43 : decode cX2_leastSortingGap 43 = .ok (.goto 26, 3) := by decide +kernel
theorem dX2_leastSortingGap_46 : decode cX2_leastSortingGap 46 = .ok (.aload_n 0, 1) := by decide +kernel
theorem dX2_leastSortingGap_47 : decode cX2_leastSortingGap 47 = .ok (.getfield 18, 3) := by decide +kernel
theorem dX2_leastSortingGap_50 : decode cX2_leastSortingGap 50 = .ok (.iload 4, 2) := by decide +kernel
theorem dX2_leastSortingGap_52 : decode cX2_leastSortingGap 52 = .ok (.iaload, 1) := by decide +kernel
theorem dX2_leastSortingGap_53 : decode cX2_leastSortingGap 53 = .ok (.iload_n 1, 1) := by decide +kernel
theorem dX2_leastSortingGap_54 : decode cX2_leastSortingGap 54 = .ok (.if_icmp .le 15, 3) := by decide +kernel
theorem dX2_leastSortingGap_57 : decode cX2_leastSortingGap 57 = .ok (.iload_n 3, 1) := by decide +kernel
theorem dX2_leastSortingGap_58 : decode cX2_leastSortingGap 58 = .ok (.aload_n 0, 1) := by decide +kernel
theorem dX2_leastSortingGap_59 : decode cX2_leastSortingGap 59 = .ok (.getfield 9, 3) := by decide +kernel
theorem dX2_leastSortingGap_62 : decode cX2_leastSortingGap 62 = .ok (.iload 4, 2) := by decide +kernel
theorem dX2_leastSortingGap_64 : decode cX2_leastSortingGap 64 = .ok (.iaload, 1) := by decide +kernel
theorem dX2_leastSortingGap_65 : decode cX2_leastSortingGap 65 = .ok (.invokestatic 81, 3) := by decide +kernel
theorem dX2_leastSortingGap_68 : decode cX2_leastSortingGap 68 = .ok (.istore_n 3, 1) := by decide +kernel
theorem dX2_leastSortingGap_69 : decode cX2_leastSortingGap 69 = .ok (.iinc 4 1, 3) := by decide +kernel
theorem dX2_leastSortingGap_72 : decode cX2_leastSortingGap 72 = .ok (.goto (-63), 3) := by decide +kernel
theorem dX2_leastSortingGap_75 : decode cX2_leastSortingGap 75 = .ok (.iload_n 2, 1) := by decide +kernel
theorem dX2_leastSortingGap_76 : decode cX2_leastSortingGap 76 = .ok (.iload_n 3, 1) := by decide +kernel
theorem dX2_leastSortingGap_77 : decode cX2_leastSortingGap 77 = .ok (.if_icmp .gt 7, 3) := by decide +kernel
theorem dX2_leastSortingGap_80 : decode cX2_leastSortingGap 80 = .ok (.iload_n 2, 1) := by decide +kernel
theorem dX2_leastSortingGap_81 : decode cX2_leastSortingGap 81 = .ok (.goto 4, 3) := by decide +kernel
theorem dX2_leastSortingGap_84 : decode cX2_leastSortingGap 84 = .ok (.iconst (-1), 1) := by decide +kernel
theorem dX2_leastSortingGap_85 : decode cX2_leastSortingGap 85 = .ok (.ireturn, 1) := by decide +kernel
set_option maxRecDepth 20000 in
theorem ggX2_coinsUntilAstray_X2_fallsHome : GoodIn wsX2_coinsUntilAstray wsX2_fallsHome := goodIn_r _ [6, 1, 7, 8, 9, 5, 10, 11, 12, 13, 14, 15, 16, 17, 18, 19, 20, 21, 22, 23, 24, 25, 26, 27, 28, 29, 30, 31, 32, 33, 34, 35, 36, 37, 38, 39, 40, 41, 42, 43, 44, 45, 46, 47, 48, 49, 50, 51, 52, 53, 54] (by decide +kernel) (by decide +kernel)
set_option maxRecDepth 20000 in
theorem gX2_coinsUntilAstray_X2_fallsHome : GoodIn wsX2_coinsUntilAstray (wsV RX2 156 RX2 yX2_fallsHome wsX2_fallsHome) := goodIn_app (goodIn_of _ (by decide +kernel)) ggX2_coinsUntilAstray_X2_fallsHome
set_option maxRecDepth 20000 in
theorem ggX2_coinsUntilAstray_X2_coinsIn : GoodIn wsX2_coinsUntilAstray wsX2_coinsIn := goodIn_r _ [40, 41, 42, 43, 44, 45, 46, 47, 48, 49, 50, 51, 52, 53, 54] (by decide +kernel) (by decide +kernel)
set_option maxRecDepth 20000 in
theorem gX2_coinsUntilAstray_X2_coinsIn : GoodIn wsX2_coinsUntilAstray (wsV RX2 58 RX2 yX2_coinsIn wsX2_coinsIn) := goodIn_app (goodIn_of _ (by decide +kernel)) ggX2_coinsUntilAstray_X2_coinsIn
theorem dX2_coinsUntilAstray_0 : decode cX2_coinsUntilAstray 0 = .ok (.aload_n 0, 1) := by decide +kernel
theorem dX2_coinsUntilAstray_1 : decode cX2_coinsUntilAstray 1 = .ok (.iload_n 1, 1) := by decide +kernel
theorem dX2_coinsUntilAstray_2 : decode cX2_coinsUntilAstray 2 = .ok (.iconst 0, 1) := by decide +kernel
theorem dX2_coinsUntilAstray_3 : decode cX2_coinsUntilAstray 3 = .ok (.invokevirtual 156, 3) := by decide +kernel
theorem dX2_coinsUntilAstray_6 : decode cX2_coinsUntilAstray 6 = .ok (.ifCond .eq 19, 3) := by decide +kernel
theorem dX2_coinsUntilAstray_9 : decode cX2_coinsUntilAstray 9 = .ok (.bipush 40, 2) := by decide +kernel
theorem dX2_coinsUntilAstray_11 : decode cX2_coinsUntilAstray 11 = .ok (.aload_n 0, 1) := by decide +kernel
theorem dX2_coinsUntilAstray_12 : decode cX2_coinsUntilAstray 12 = .ok (.aload_n 0, 1) := by decide +kernel
theorem dX2_coinsUntilAstray_13 : decode cX2_coinsUntilAstray 13 = .ok (.getfield 18, 3) := by decide +kernel
theorem dX2_coinsUntilAstray_16 : decode cX2_coinsUntilAstray 16 = .ok (.iload_n 1, 1) := by decide +kernel
theorem dX2_coinsUntilAstray_17 : decode cX2_coinsUntilAstray 17 = .ok (.iaload, 1) := by decide +kernel
theorem dX2_coinsUntilAstray_18 : decode cX2_coinsUntilAstray 18 = .ok (.invokevirtual 58, 3) := by decide +kernel
theorem dX2_coinsUntilAstray_21 : decode cX2_coinsUntilAstray 21 = .ok (.isub, 1) := by decide +kernel
theorem dX2_coinsUntilAstray_22 : decode cX2_coinsUntilAstray 22 = .ok (.goto 4, 3) := by decide +kernel
theorem dX2_coinsUntilAstray_25 : decode cX2_coinsUntilAstray 25 = .ok (.iconst 0, 1) := by decide +kernel
theorem dX2_coinsUntilAstray_26 : decode cX2_coinsUntilAstray 26 = .ok (.ireturn, 1) := by decide +kernel
set_option maxRecDepth 20000 in
theorem ggX3_init_X2_init : GoodIn wsX3_init wsX2_init := goodIn_r _ [18, 19, 2, 3, 20, 21, 22, 23, 24, 25, 26, 27, 28, 29, 30, 31, 45, 46, 47, 48, 49, 50, 51, 52, 53, 54, 55, 56, 57] (by decide +kernel) (by decide +kernel)
set_option maxRecDepth 20000 in
theorem gX3_init_X2_init : GoodIn wsX3_init (wsX2_init) := ggX3_init_X2_init
set_option maxRecDepth 20000 in
theorem ggX3_init_X1_init : GoodIn wsX3_init wsX1_init := goodIn_r _ [34, 35, 2, 3, 36, 37, 5, 6, 38, 17, 18, 19, 20, 21, 22, 23, 24, 25, 26, 27, 28, 29, 30, 31, 61, 62, 63, 45, 46, 47, 48, 49, 50, 51, 52, 53, 54, 55, 56, 57] (by decide +kernel) (by decide +kernel)
set_option maxRecDepth 20000 in
theorem gX3_init_X1_init : GoodIn wsX3_init (wsX1_init) := ggX3_init_X1_init
set_option maxRecDepth 20000 in
theorem ggX3_init_X0_init : GoodIn wsX3_init wsX0_init := goodIn_r _ [40, 41, 2, 3, 20, 42, 43, 44, 64, 65, 66, 67, 68] (by decide +kernel) (by decide +kernel)
set_option maxRecDepth 20000 in
theorem gX3_init_X0_init_n25 : GoodIn wsX3_init (wsX0_init) := ggX3_init_X0_init
theorem dX3_init_0 : decode cX3_init 0 = .ok (.aload_n 0, 1) := by decide +kernel
theorem dX3_init_1 : decode cX3_init 1 = .ok (.invokespecial 3, 3) := by decide +kernel
theorem dX3_init_4 : decode cX3_init 4 = .ok (.aload_n 0, 1) := by decide +kernel
theorem dX3_init_5 : decode cX3_init 5 = .ok (.new 9, 3) := by decide +kernel
theorem dX3_init_8 : decode cX3_init 8 = .ok (.dup, 1) := by decide +kernel
theorem dX3_init_9 : decode cX3_init 9 = .ok (.invokespecial 11, 3) := by decide +kernel
theorem dX3_init_12 : decode cX3_init 12 = .ok (.putfield 12, 3) := by decide +kernel
theorem dX3_init_15 : decode cX3_init 15 = .ok (.aload_n 0, 1) := by decide +kernel
theorem dX3_init_16 : decode cX3_init 16 = .ok (.new 16, 3) := by decide +kernel
theorem dX3_init_19 : decode cX3_init 19 = .ok (.dup, 1) := by decide +kernel
theorem dX3_init_20 : decode cX3_init 20 = .ok (.invokespecial 18, 3) := by decide +kernel
theorem dX3_init_23 : decode cX3_init 23 = .ok (.putfield 19, 3) := by decide +kernel
theorem dX3_init_26 : decode cX3_init 26 = .ok (.aload_n 0, 1) := by decide +kernel
theorem dX3_init_27 : decode cX3_init 27 = .ok (.new 23, 3) := by decide +kernel
theorem dX3_init_30 : decode cX3_init 30 = .ok (.dup, 1) := by decide +kernel
theorem dX3_init_31 : decode cX3_init 31 = .ok (.invokespecial 25, 3) := by decide +kernel
theorem dX3_init_34 : decode cX3_init 34 = .ok (.putfield 26, 3) := by decide +kernel
theorem dX3_init_37 : decode cX3_init 37 = .ok (.return_, 1) := by decide +kernel
set_option maxRecDepth 20000 in
theorem ggX3_addKind_X3_checkArgument : GoodIn wsX3_addKind wsX3_checkArgument := goodIn_ca (goodIn_r _ [9, 10, 11] (by decide +kernel) (by decide +kernel)) (goodIn_sub (fun _ h => List.mem_cons_of_mem _ (List.mem_append_right _ h)) (by decide +kernel))
