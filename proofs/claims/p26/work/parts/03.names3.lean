set_option maxRecDepth 20000 in
theorem gX3_addKind_X3_checkArgument : GoodIn wsX3_addKind (va_wsS RX3 30 yX3_checkArgument wsX3_checkArgument) := goodIn_app (goodIn_of _ (by decide +kernel)) ggX3_addKind_X3_checkArgument
set_option maxRecDepth 20000 in
theorem ggX3_addKind_X1_save : GoodIn wsX3_addKind wsX1_save := goodIn_r _ [16, 17, 18, 19, 20, 21, 22, 23, 24, 25, 26, 27, 28, 29, 30, 31, 32, 33, 34, 35, 36, 37, 38, 39, 40, 41, 42, 43, 44, 45, 66, 67, 68, 53, 54, 55, 56, 57, 58, 59, 60, 61, 62, 63, 64, 65] (by decide +kernel) (by decide +kernel)
set_option maxRecDepth 20000 in
theorem gX3_addKind_X1_save : GoodIn wsX3_addKind (wsV RX3 45 RX1 yX1_save wsX1_save) := goodIn_app (goodIn_of _ (by decide +kernel)) ggX3_addKind_X1_save
set_option maxRecDepth 20000 in
theorem ggX3_addKind_X2_putKind : GoodIn wsX3_addKind wsX2_putKind := goodIn_r _ [49, 29, 30, 35, 36, 53, 54, 55, 56, 57, 58, 59, 60, 61, 62, 63, 64, 65] (by decide +kernel) (by decide +kernel)
set_option maxRecDepth 20000 in
theorem gX3_addKind_X2_putKind : GoodIn wsX3_addKind (wsV RX3 49 RX2 yX2_putKind wsX2_putKind) := goodIn_app (goodIn_of _ (by decide +kernel)) ggX3_addKind_X2_putKind
theorem dX3_addKind_0 : decode cX3_addKind 0 = .ok (.iload_n 1, 1) := by decide +kernel
theorem dX3_addKind_1 : decode cX3_addKind 1 = .ok (.sipush 1000, 3) := by decide +kernel
theorem dX3_addKind_4 : decode cX3_addKind 4 = .ok (.sipush 4000, 3) := by decide +kernel
theorem dX3_addKind_7 : decode cX3_addKind 7 = .ok (.invokestatic 30, 3) := by decide +kernel
theorem dX3_addKind_10 : decode cX3_addKind 10 = .ok (.iload_n 2, 1) := by decide +kernel
theorem dX3_addKind_11 : decode cX3_addKind 11 = .ok (.iconst 1, 1) := by decide +kernel
theorem dX3_addKind_12 : decode cX3_addKind 12 = .ok (.sipush 500, 3) := by decide +kernel
theorem dX3_addKind_15 : decode cX3_addKind 15 = .ok (.invokestatic 30, 3) := by decide +kernel
theorem dX3_addKind_18 : decode cX3_addKind 18 = .ok (.iload_n 3, 1) := by decide +kernel
theorem dX3_addKind_19 : decode cX3_addKind 19 = .ok (.iconst 0, 1) := by decide +kernel
theorem dX3_addKind_20 : decode cX3_addKind 20 = .ok (.iconst 5, 1) := by decide +kernel
theorem dX3_addKind_21 : decode cX3_addKind 21 = .ok (.invokestatic 30, 3) := by decide +kernel
theorem dX3_addKind_24 : decode cX3_addKind 24 = .ok (.aload_n 0, 1) := by decide +kernel
theorem dX3_addKind_25 : decode cX3_addKind 25 = .ok (.getfield 12, 3) := by decide +kernel
theorem dX3_addKind_28 : decode cX3_addKind 28 = .ok (.getfield 34, 3) := by decide +kernel
theorem dX3_addKind_31 : decode cX3_addKind 31 = .ok (.bipush 6, 2) := by decide +kernel
theorem dX3_addKind_33 : decode cX3_addKind 33 = .ok (.if_icmp .lt 13, 3) := by decide +kernel
theorem dX3_addKind_36 : decode cX3_addKind 36 = .ok (.new 38, 3) := by decide +kernel
theorem dX3_addKind_39 : decode cX3_addKind 39 = .ok (.dup, 1) := by decide +kernel
theorem dX3_addKind_40 : decode cX3_addKind 40 = .ok (.ldc 40, 2) := by decide +kernel
theorem dX3_addKind_42 : decode cX3_addKind 42 = .ok (.invokespecial 42, 3) := by decide +kernel
theorem dX3_addKind_45 : decode cX3_addKind 45 = .ok (.athrow, 1) := by decide +kernel
theorem dX3_addKind_46 : decode cX3_addKind 46 = .ok (.aload_n 0, 1) := by decide +kernel
theorem dX3_addKind_47 : decode cX3_addKind 47 = .ok (.getfield 19, 3) := by decide +kernel
theorem dX3_addKind_50 : decode cX3_addKind 50 = .ok (.aload_n 0, 1) := by decide +kernel
theorem dX3_addKind_51 : decode cX3_addKind 51 = .ok (.getfield 12, 3) := by decide +kernel
theorem dX3_addKind_54 : decode cX3_addKind 54 = .ok (.invokevirtual 45, 3) := by decide +kernel
theorem dX3_addKind_57 : decode cX3_addKind 57 = .ok (.aload_n 0, 1) := by decide +kernel
theorem dX3_addKind_58 : decode cX3_addKind 58 = .ok (.getfield 12, 3) := by decide +kernel
theorem dX3_addKind_61 : decode cX3_addKind 61 = .ok (.iload_n 1, 1) := by decide +kernel
theorem dX3_addKind_62 : decode cX3_addKind 62 = .ok (.iload_n 2, 1) := by decide +kernel
theorem dX3_addKind_63 : decode cX3_addKind 63 = .ok (.iload_n 3, 1) := by decide +kernel
theorem dX3_addKind_64 : decode cX3_addKind 64 = .ok (.invokevirtual 49, 3) := by decide +kernel
theorem dX3_addKind_67 : decode cX3_addKind 67 = .ok (.ireturn, 1) := by decide +kernel
set_option maxRecDepth 20000 in
theorem ggX3_setGap_X3_checkRail : GoodIn wsX3_setGap wsX3_checkRail := goodIn_ca (goodIn_r _ [10, 11, 12, 13, 14, 9, 15] (by decide +kernel) (by decide +kernel)) (goodIn_sub (fun _ h => List.mem_cons_of_mem _ (List.mem_append_left _ (List.mem_append_right _ h))) (by decide +kernel))
set_option maxRecDepth 20000 in
theorem gX3_setGap_X3_checkRail : GoodIn wsX3_setGap (va_wsS RX3 61 yX3_checkRail wsX3_checkRail) := goodIn_app (goodIn_of _ (by decide +kernel)) ggX3_setGap_X3_checkRail
set_option maxRecDepth 20000 in
theorem ggX3_setGap_X3_checkArgument : GoodIn wsX3_setGap wsX3_checkArgument := goodIn_ca (goodIn_r _ [18, 19, 20] (by decide +kernel) (by decide +kernel)) (goodIn_sub (fun _ h => List.mem_cons_of_mem _ (List.mem_append_right _ h)) (by decide +kernel))
set_option maxRecDepth 20000 in
theorem gX3_setGap_X3_checkArgument : GoodIn wsX3_setGap (va_wsS RX3 30 yX3_checkArgument wsX3_checkArgument) := goodIn_app (goodIn_of _ (by decide +kernel)) ggX3_setGap_X3_checkArgument
set_option maxRecDepth 20000 in
theorem ggX3_setGap_X2_isStuck : GoodIn wsX3_setGap wsX2_isStuck := goodIn_r _ [25, 26, 62, 63, 64, 65, 66, 67, 68, 69, 70, 71, 72, 73, 74] (by decide +kernel) (by decide +kernel)
set_option maxRecDepth 20000 in
theorem gX3_setGap_X2_isStuck : GoodIn wsX3_setGap (wsV RX3 64 RX2 yX2_isStuck wsX2_isStuck) := goodIn_app (goodIn_of _ (by decide +kernel)) ggX3_setGap_X2_isStuck
set_option maxRecDepth 20000 in
theorem ggX3_setGap_X1_save : GoodIn wsX3_setGap wsX1_save := goodIn_r _ [31, 32, 33, 34, 35, 36, 37, 38, 39, 40, 41, 24, 42, 43, 44, 45, 46, 47, 48, 49, 50, 51, 52, 53, 54, 26, 55, 56, 57, 58, 75, 76, 77, 62, 63, 64, 65, 66, 67, 68, 69, 70, 71, 72, 73, 74] (by decide +kernel) (by decide +kernel)
set_option maxRecDepth 20000 in
theorem gX3_setGap_X1_save : GoodIn wsX3_setGap (wsV RX3 45 RX1 yX1_save wsX1_save) := goodIn_app (goodIn_of _ (by decide +kernel)) ggX3_setGap_X1_save
theorem dX3_setGap_0 : decode cX3_setGap 0 = .ok (.iload_n 1, 1) := by decide +kernel
theorem dX3_setGap_1 : decode cX3_setGap 1 = .ok (.invokestatic 61, 3) := by decide +kernel
theorem dX3_setGap_4 : decode cX3_setGap 4 = .ok (.iload_n 2, 1) := by decide +kernel
theorem dX3_setGap_5 : decode cX3_setGap 5 = .ok (.sipush 900, 3) := by decide +kernel
theorem dX3_setGap_8 : decode cX3_setGap 8 = .ok (.sipush 4100, 3) := by decide +kernel
theorem dX3_setGap_11 : decode cX3_setGap 11 = .ok (.invokestatic 30, 3) := by decide +kernel
theorem dX3_setGap_14 : decode cX3_setGap 14 = .ok (.aload_n 0, 1) := by decide +kernel
theorem dX3_setGap_15 : decode cX3_setGap 15 = .ok (.getfield 12, 3) := by decide +kernel
theorem dX3_setGap_18 : decode cX3_setGap 18 = .ok (.iload_n 1, 1) := by decide +kernel
theorem dX3_setGap_19 : decode cX3_setGap 19 = .ok (.invokevirtual 64, 3) := by decide +kernel
theorem dX3_setGap_22 : decode cX3_setGap 22 = .ok (.ifCond .eq 13, 3) := by decide +kernel
theorem dX3_setGap_25 : decode cX3_setGap 25 = .ok (.new 38, 3) := by decide +kernel
theorem dX3_setGap_28 : decode cX3_setGap 28 = .ok (.dup, 1) := by decide +kernel
theorem dX3_setGap_29 : decode cX3_setGap 29 = .ok (.ldc 68, 2) := by decide +kernel
theorem dX3_setGap_31 : decode cX3_setGap 31 = .ok (.invokespecial 42, 3) := by decide +kernel
theorem dX3_setGap_34 : decode cX3_setGap 34 = .ok (.athrow, 1) := by decide +kernel
theorem dX3_setGap_35 : decode cX3_setGap 35 = .ok (.aload_n 0, 1) := by decide +kernel
theorem dX3_setGap_36 : decode cX3_setGap 36 = .ok (.getfield 19, 3) := by decide +kernel
theorem dX3_setGap_39 : decode cX3_setGap 39 = .ok (.aload_n 0, 1) := by decide +kernel
theorem dX3_setGap_40 : decode cX3_setGap 40 = .ok (.getfield 12, 3) := by decide +kernel
theorem dX3_setGap_43 : decode cX3_setGap 43 = .ok (.invokevirtual 45, 3) := by decide +kernel
theorem dX3_setGap_46 : decode cX3_setGap 46 = .ok (.aload_n 0, 1) := by decide +kernel
theorem dX3_setGap_47 : decode cX3_setGap 47 = .ok (.getfield 12, 3) := by decide +kernel
theorem dX3_setGap_50 : decode cX3_setGap 50 = .ok (.getfield 70, 3) := by decide +kernel
theorem dX3_setGap_53 : decode cX3_setGap 53 = .ok (.iload_n 1, 1) := by decide +kernel
theorem dX3_setGap_54 : decode cX3_setGap 54 = .ok (.iaload, 1) := by decide +kernel
theorem dX3_setGap_55 : decode cX3_setGap 55 = .ok (.istore_n 3, 1) := by decide +kernel
theorem dX3_setGap_56 : decode cX3_setGap 56 = .ok (.aload_n 0, 1) := by decide +kernel
theorem dX3_setGap_57 : decode cX3_setGap 57 = .ok (.getfield 12, 3) := by decide +kernel
theorem dX3_setGap_60 : decode cX3_setGap 60 = .ok (.getfield 70, 3) := by decide +kernel
theorem dX3_setGap_63 : decode cX3_setGap 63 = .ok (.iload_n 1, 1) := by decide +kernel
theorem dX3_setGap_64 : decode cX3_setGap 64 = .ok (.iload_n 2, 1) := by decide +kernel
theorem dX3_setGap_65 : decode cX3_setGap 65 = .ok (.iastore, 1) := by decide +kernel
theorem dX3_setGap_66 : decode cX3_setGap 66 = .ok (.aload_n 0, 1) := by decide +kernel
theorem dX3_setGap_67 : decode cX3_setGap 67 = .ok (.getfield 12, 3) := by decide +kernel
theorem dX3_setGap_70 : decode cX3_setGap 70 = .ok (.getfield 73, 3) := by decide +kernel
theorem dX3_setGap_73 : decode cX3_setGap 73 = .ok (.iload_n 1, 1) := by decide +kernel
theorem dX3_setGap_74 : decode cX3_setGap 74 = .ok (.iconst 0, 1) := by decide +kernel
theorem dX3_setGap_75 : decode cX3_setGap 75 = .ok (.iastore, 1) := by decide +kernel
theorem dX3_setGap_76 : decode cX3_setGap 76 = .ok (.iload_n 3, 1) := by decide +kernel
theorem dX3_setGap_77 : decode cX3_setGap 77 = .ok (.ireturn, 1) := by decide +kernel
set_option maxRecDepth 20000 in
theorem ggX3_feed_X3_checkKind : GoodIn wsX3_feed wsX3_checkKind := goodIn_ca (goodIn_r _ [7, 8, 9, 2, 10, 90, 91, 92, 93, 94, 95, 96, 97, 98, 99, 100, 101, 102, 103, 104, 105] (by decide +kernel) (by decide +kernel)) (goodIn_sub (fun _ h => List.mem_cons_of_mem _ (List.mem_append_left _ (List.mem_append_right _ h))) (by decide +kernel))
set_option maxRecDepth 20000 in
theorem gX3_feed_X3_checkKind : GoodIn wsX3_feed (wsV RX3 53 RX3 yX3_checkKind wsX3_checkKind) := goodIn_app (goodIn_of _ (by decide +kernel)) ggX3_feed_X3_checkKind
set_option maxRecDepth 20000 in
theorem ggX3_feed_X3_checkArgument : GoodIn wsX3_feed wsX3_checkArgument := goodIn_ca (goodIn_r _ [13, 14, 15] (by decide +kernel) (by decide +kernel)) (goodIn_sub (fun _ h => List.mem_cons_of_mem _ (List.mem_append_right _ h)) (by decide +kernel))
set_option maxRecDepth 20000 in
theorem gX3_feed_X3_checkArgument : GoodIn wsX3_feed (va_wsS RX3 30 yX3_checkArgument wsX3_checkArgument) := goodIn_app (goodIn_of _ (by decide +kernel)) ggX3_feed_X3_checkArgument
set_option maxRecDepth 20000 in
theorem ggX3_feed_X1_save : GoodIn wsX3_feed wsX1_save := goodIn_r _ [20, 21, 22, 23, 24, 25, 26, 27, 28, 29, 30, 31, 32, 33, 34, 35, 36, 37, 38, 39, 40, 41, 42, 43, 44, 45, 46, 47, 48, 49, 106, 107, 108, 93, 94, 95, 96, 97, 98, 99, 100, 101, 102, 103, 104, 105] (by decide +kernel) (by decide +kernel)
set_option maxRecDepth 20000 in
theorem gX3_feed_X1_save : GoodIn wsX3_feed (wsV RX3 45 RX1 yX1_save wsX1_save) := goodIn_app (goodIn_of _ (by decide +kernel)) ggX3_feed_X1_save
set_option maxRecDepth 20000 in
theorem ggX3_feed_X2_putCoin : GoodIn wsX3_feed wsX2_putCoin := goodIn_r _ [53, 41, 42, 45, 46, 48, 54, 55, 56, 31, 57, 43, 58, 59, 60, 61, 62, 25, 26, 27, 63, 64, 65, 66, 34, 67, 68, 69, 70, 71, 72, 73, 74, 75, 76, 77, 78, 79, 80, 81, 82, 83, 84, 85, 47, 86, 87, 88, 89, 44, 93, 94, 95, 96, 97, 98, 99, 100, 101, 102, 103, 104, 105] (by decide +kernel) (by decide +kernel)
set_option maxRecDepth 20000 in
theorem gX3_feed_X2_putCoin : GoodIn wsX3_feed (wsV RX3 76 RX2 yX2_putCoin wsX2_putCoin) := goodIn_app (goodIn_of _ (by decide +kernel)) ggX3_feed_X2_putCoin
theorem dX3_feed_0 : decode cX3_feed 0 = .ok (.aload_n 0, 1) := by decide +kernel
theorem dX3_feed_1 : decode cX3_feed 1 = .ok (.iload_n 1, 1) := by decide +kernel
theorem dX3_feed_2 : decode cX3_feed 2 = .ok (.invokevirtual 53, 3) := by decide +kernel
theorem dX3_feed_5 : decode cX3_feed 5 = .ok (.iload_n 2, 1) := by decide +kernel
theorem dX3_feed_6 : decode cX3_feed 6 = .ok (.iconst 0, 1) := by decide +kernel
theorem dX3_feed_7 : decode cX3_feed 7 = .ok (.sipush 999, 3) := by decide +kernel
theorem dX3_feed_10 : decode cX3_feed 10 = .ok (.invokestatic 30, 3) := by decide +kernel
theorem dX3_feed_13 : decode cX3_feed 13 = .ok (.aload_n 0, 1) := by decide +kernel
theorem dX3_feed_14 : decode cX3_feed 14 = .ok (.getfield 19, 3) := by decide +kernel
theorem dX3_feed_17 : decode cX3_feed 17 = .ok (.aload_n 0, 1) := by decide +kernel
theorem dX3_feed_18 : decode cX3_feed 18 = .ok (.getfield 12, 3) := by decide +kernel
theorem dX3_feed_21 : decode cX3_feed 21 = .ok (.invokevirtual 45, 3) := by decide +kernel
theorem dX3_feed_24 : decode cX3_feed 24 = .ok (.aload_n 0, 1) := by decide +kernel
theorem dX3_feed_25 : decode cX3_feed 25 = .ok (.getfield 12, 3) := by decide +kernel
theorem dX3_feed_28 : decode cX3_feed 28 = .ok (.iload_n 1, 1) := by decide +kernel
theorem dX3_feed_29 : decode cX3_feed 29 = .ok (.iload_n 2, 1) := by decide +kernel
theorem dX3_feed_30 : decode cX3_feed 30 = .ok (.invokevirtual 76, 3) := by decide +kernel
theorem dX3_feed_33 : decode cX3_feed 33 = .ok (.ireturn, 1) := by decide +kernel
set_option maxRecDepth 20000 in
theorem ggX3_feedSome_X3_checkArgument : GoodIn wsX3_feedSome wsX3_checkArgument := goodIn_ca (goodIn_r _ [10, 11, 12] (by decide +kernel) (by decide +kernel)) (goodIn_sub (fun _ h => List.mem_cons_of_mem _ (List.mem_append_right _ h)) (by decide +kernel))
set_option maxRecDepth 20000 in
theorem gX3_feedSome_X3_checkArgument : GoodIn wsX3_feedSome (va_wsS RX3 30 yX3_checkArgument wsX3_checkArgument) := goodIn_app (goodIn_of _ (by decide +kernel)) ggX3_feedSome_X3_checkArgument
set_option maxRecDepth 20000 in
theorem ggX3_feedSome_X1_save : GoodIn wsX3_feedSome wsX1_save := goodIn_r _ [17, 18, 19, 20, 21, 22, 23, 24, 25, 26, 27, 28, 29, 30, 31, 32, 33, 34, 35, 36, 37, 38, 39, 40, 41, 42, 43, 44, 45, 46, 113, 114, 115, 100, 101, 102, 103, 104, 105, 106, 107, 108, 109, 110, 111, 112] (by decide +kernel) (by decide +kernel)
set_option maxRecDepth 20000 in
theorem gX3_feedSome_X1_save : GoodIn wsX3_feedSome (wsV RX3 45 RX1 yX1_save wsX1_save) := goodIn_app (goodIn_of _ (by decide +kernel)) ggX3_feedSome_X1_save
set_option maxRecDepth 20000 in
theorem ggX3_feedSome_X2_putCoinsByChance : GoodIn wsX3_feedSome wsX2_putCoinsByChance := goodIn_r _ [50, 51, 52, 53, 54, 30, 55, 56, 57, 58, 59, 28, 60, 38, 39, 42, 43, 45, 61, 62, 63, 64, 40, 65, 66, 67, 68, 69, 22, 23, 24, 70, 71, 72, 73, 31, 74, 75, 76, 77, 78, 79, 80, 81, 82, 83, 84, 85, 86, 87, 88, 89, 90, 91, 92, 44, 93, 94, 95, 96, 41, 100, 101, 102, 103, 104, 105, 106, 107, 108, 109, 110, 111, 112] (by decide +kernel) (by decide +kernel)
set_option maxRecDepth 20000 in
theorem gX3_feedSome_X2_putCoinsByChance : GoodIn wsX3_feedSome (wsV RX3 83 RX2 yX2_putCoinsByChance wsX2_putCoinsByChance) := goodIn_app (goodIn_of _ (by decide +kernel)) ggX3_feedSome_X2_putCoinsByChance
theorem dX3_feedSome_0 : decode cX3_feedSome 0 = .ok (.iload_n 1, 1) := by decide +kernel
theorem dX3_feedSome_1 : decode cX3_feedSome 1 = .ok (.iconst 0, 1) := by decide +kernel
theorem dX3_feedSome_2 : decode cX3_feedSome 2 = .ok (.sipush 200, 3) := by decide +kernel
theorem dX3_feedSome_5 : decode cX3_feedSome 5 = .ok (.invokestatic 30, 3) := by decide +kernel
theorem dX3_feedSome_8 : decode cX3_feedSome 8 = .ok (.iload_n 2, 1) := by decide +kernel
theorem dX3_feedSome_9 : decode cX3_feedSome 9 = .ok (.iconst 0, 1) := by decide +kernel
theorem dX3_feedSome_10 : decode cX3_feedSome 10 = .ok (.ldc 80, 2) := by decide +kernel
theorem dX3_feedSome_12 : decode cX3_feedSome 12 = .ok (.invokestatic 30, 3) := by decide +kernel
theorem dX3_feedSome_15 : decode cX3_feedSome 15 = .ok (.aload_n 0, 1) := by decide +kernel
theorem dX3_feedSome_16 : decode cX3_feedSome 16 = .ok (.getfield 12, 3) := by decide +kernel
theorem dX3_feedSome_19 : decode cX3_feedSome 19 = .ok (.getfield 34, 3) := by decide +kernel
theorem dX3_feedSome_22 : decode cX3_feedSome 22 = .ok (.ifCond .ne 13, 3) := by decide +kernel
theorem dX3_feedSome_25 : decode cX3_feedSome 25 = .ok (.new 38, 3) := by decide +kernel
theorem dX3_feedSome_28 : decode cX3_feedSome 28 = .ok (.dup, 1) := by decide +kernel
theorem dX3_feedSome_29 : decode cX3_feedSome 29 = .ok (.ldc 81, 2) := by decide +kernel
theorem dX3_feedSome_31 : decode cX3_feedSome 31 = .ok (.invokespecial 42, 3) := by decide +kernel
theorem dX3_feedSome_34 : decode cX3_feedSome 34 = .ok (.athrow, 1) := by decide +kernel
theorem dX3_feedSome_35 : decode cX3_feedSome 35 = .ok (.aload_n 0, 1) := by decide +kernel
theorem dX3_feedSome_36 : decode cX3_feedSome 36 = .ok (.getfield 19, 3) := by decide +kernel
theorem dX3_feedSome_39 : decode cX3_feedSome 39 = .ok (.aload_n 0, 1) := by decide +kernel
theorem dX3_feedSome_40 : decode cX3_feedSome 40 = .ok (.getfield 12, 3) := by decide +kernel
theorem dX3_feedSome_43 : decode cX3_feedSome 43 = .ok (.invokevirtual 45, 3) := by decide +kernel
theorem dX3_feedSome_46 : decode cX3_feedSome 46 = .ok (.aload_n 0, 1) := by decide +kernel
theorem dX3_feedSome_47 : decode cX3_feedSome 47 = .ok (.getfield 12, 3) := by decide +kernel
theorem dX3_feedSome_50 : decode cX3_feedSome 50 = .ok (.iload_n 1, 1) := by decide +kernel
theorem dX3_feedSome_51 : decode cX3_feedSome 51 = .ok (.iload_n 2, 1) := by decide +kernel
theorem dX3_feedSome_52 : decode cX3_feedSome 52 = .ok (.invokevirtual 83, 3) := by decide +kernel
theorem dX3_feedSome_55 : decode cX3_feedSome 55 = .ok (.ireturn, 1) := by decide +kernel
set_option maxRecDepth 20000 in
theorem ggX3_free_X3_checkRail : GoodIn wsX3_free wsX3_checkRail := goodIn_ca (goodIn_r _ [8, 9, 10, 11, 12, 7, 13] (by decide +kernel) (by decide +kernel)) (goodIn_sub (fun _ h => List.mem_cons_of_mem _ (List.mem_append_right _ h)) (by decide +kernel))
set_option maxRecDepth 20000 in
theorem gX3_free_X3_checkRail : GoodIn wsX3_free (va_wsS RX3 61 yX3_checkRail wsX3_checkRail) := goodIn_app (goodIn_of _ (by decide +kernel)) ggX3_free_X3_checkRail
set_option maxRecDepth 20000 in
theorem ggX3_free_X2_isStuck : GoodIn wsX3_free wsX2_isStuck := goodIn_r _ [18, 19, 67, 68, 69, 70, 71, 72, 73, 74, 75, 76, 77, 78, 79] (by decide +kernel) (by decide +kernel)
set_option maxRecDepth 20000 in
theorem gX3_free_X2_isStuck : GoodIn wsX3_free (wsV RX3 64 RX2 yX2_isStuck wsX2_isStuck) := goodIn_app (goodIn_of _ (by decide +kernel)) ggX3_free_X2_isStuck
set_option maxRecDepth 20000 in
theorem ggX3_free_X1_save : GoodIn wsX3_free wsX1_save := goodIn_r _ [24, 25, 26, 27, 28, 29, 30, 31, 32, 33, 34, 17, 35, 36, 37, 38, 39, 40, 41, 42, 43, 44, 45, 46, 47, 19, 48, 49, 50, 51, 80, 81, 82, 67, 68, 69, 70, 71, 72, 73, 74, 75, 76, 77, 78, 79] (by decide +kernel) (by decide +kernel)
set_option maxRecDepth 20000 in
theorem gX3_free_X1_save : GoodIn wsX3_free (wsV RX3 45 RX1 yX1_save wsX1_save) := goodIn_app (goodIn_of _ (by decide +kernel)) ggX3_free_X1_save
set_option maxRecDepth 20000 in
theorem ggX3_free_X2_loosen : GoodIn wsX3_free wsX2_loosen := goodIn_r _ [55, 19, 45, 50, 48, 56, 57, 58, 17, 59, 60, 61, 62, 63, 67, 68, 69, 70, 71, 72, 73, 74, 75, 76, 77, 78, 79] (by decide +kernel) (by decide +kernel)
set_option maxRecDepth 20000 in
theorem gX3_free_X2_loosen : GoodIn wsX3_free (wsV RX3 88 RX2 yX2_loosen wsX2_loosen) := goodIn_app (goodIn_of _ (by decide +kernel)) ggX3_free_X2_loosen
theorem dX3_free_0 : decode cX3_free 0 = .ok (.iload_n 1, 1) := by decide +kernel
theorem dX3_free_1 : decode cX3_free 1 = .ok (.invokestatic 61, 3) := by decide +kernel
theorem dX3_free_4 : decode cX3_free 4 = .ok (.aload_n 0, 1) := by decide +kernel
theorem dX3_free_5 : decode cX3_free 5 = .ok (.getfield 12, 3) := by decide +kernel
theorem dX3_free_8 : decode cX3_free 8 = .ok (.iload_n 1, 1) := by decide +kernel
theorem dX3_free_9 : decode cX3_free 9 = .ok (.invokevirtual 64, 3) := by decide +kernel
theorem dX3_free_12 : decode cX3_free 12 = .ok (.ifCond .ne 13, 3) := by decide +kernel
theorem dX3_free_15 : decode cX3_free 15 = .ok (.new 38, 3) := by decide +kernel
theorem dX3_free_18 : decode cX3_free 18 = .ok (.dup, 1) := by decide +kernel
theorem dX3_free_19 : decode cX3_free 19 = .ok (.ldc 86, 2) := by decide +kernel
theorem dX3_free_21 : decode cX3_free 21 = .ok (.invokespecial 42, 3) := by decide +kernel
theorem dX3_free_24 : decode cX3_free 24 = .ok (.athrow, 1) := by decide +kernel
theorem dX3_free_25 : decode cX3_free 25 = .ok (.aload_n 0, 1) := by decide +kernel
theorem dX3_free_26 : decode cX3_free 26 = .ok (.getfield 19, 3) := by decide +kernel
theorem dX3_free_29 : decode cX3_free 29 = .ok (.aload_n 0, 1) := by decide +kernel
theorem dX3_free_30 : decode cX3_free 30 = .ok (.getfield 12, 3) := by decide +kernel
theorem dX3_free_33 : decode cX3_free 33 = .ok (.invokevirtual 45, 3) := by decide +kernel
theorem dX3_free_36 : decode cX3_free 36 = .ok (.aload_n 0, 1) := by decide +kernel
theorem dX3_free_37 : decode cX3_free 37 = .ok (.getfield 12, 3) := by decide +kernel
theorem dX3_free_40 : decode cX3_free 40 = .ok (.iload_n 1, 1) := by decide +kernel
theorem dX3_free_41 : decode cX3_free 41 = .ok (.invokevirtual 88, 3) := by decide +kernel
theorem dX3_free_44 : decode cX3_free 44 = .ok (.ireturn, 1) := by decide +kernel
set_option maxRecDepth 20000 in
theorem ggX3_takeBag_X3_checkRail : GoodIn wsX3_takeBag wsX3_checkRail := goodIn_ca (goodIn_r _ [6, 7, 8, 9, 10, 5, 11] (by decide +kernel) (by decide +kernel)) (goodIn_sub (fun _ h => List.mem_cons_of_mem _ (List.mem_append_right _ h)) (by decide +kernel))
set_option maxRecDepth 20000 in
theorem gX3_takeBag_X3_checkRail : GoodIn wsX3_takeBag (va_wsS RX3 61 yX3_checkRail wsX3_checkRail) := goodIn_app (goodIn_of _ (by decide +kernel)) ggX3_takeBag_X3_checkRail
set_option maxRecDepth 20000 in
theorem ggX3_takeBag_X1_save : GoodIn wsX3_takeBag wsX1_save := goodIn_r _ [16, 17, 18, 19, 20, 21, 22, 23, 24, 25, 26, 27, 28, 29, 30, 31, 32, 33, 34, 35, 36, 37, 38, 39, 40, 41, 42, 43, 44, 45, 57, 58, 59, 60, 61, 62, 63, 64, 65, 66, 67, 68, 69, 70, 71, 72] (by decide +kernel) (by decide +kernel)
set_option maxRecDepth 20000 in
theorem gX3_takeBag_X1_save : GoodIn wsX3_takeBag (wsV RX3 45 RX1 yX1_save wsX1_save) := goodIn_app (goodIn_of _ (by decide +kernel)) ggX3_takeBag_X1_save
set_option maxRecDepth 20000 in
theorem ggX3_takeBag_X2_emptyBag : GoodIn wsX3_takeBag wsX2_emptyBag := goodIn_r _ [49, 44, 45, 50, 51, 52, 27, 53, 60, 61, 62, 63, 64, 65, 66, 67, 68, 69, 70, 71, 72] (by decide +kernel) (by decide +kernel)
set_option maxRecDepth 20000 in
theorem gX3_takeBag_X2_emptyBag : GoodIn wsX3_takeBag (wsV RX3 92 RX2 yX2_emptyBag wsX2_emptyBag) := goodIn_app (goodIn_of _ (by decide +kernel)) ggX3_takeBag_X2_emptyBag
theorem dX3_takeBag_0 : decode cX3_takeBag 0 = .ok (.iload_n 1, 1) := by decide +kernel
theorem dX3_takeBag_1 : decode cX3_takeBag 1 = .ok (.invokestatic 61, 3) := by decide +kernel
theorem dX3_takeBag_4 : decode cX3_takeBag 4 = .ok (.aload_n 0, 1) := by decide +kernel
theorem dX3_takeBag_5 : decode cX3_takeBag 5 = .ok (.getfield 19, 3) := by decide +kernel
theorem dX3_takeBag_8 : decode cX3_takeBag 8 = .ok (.aload_n 0, 1) := by decide +kernel
theorem dX3_takeBag_9 : decode cX3_takeBag 9 = .ok (.getfield 12, 3) := by decide +kernel
theorem dX3_takeBag_12 : decode cX3_takeBag 12 = .ok (.invokevirtual 45, 3) := by decide +kernel
theorem dX3_takeBag_15 : decode cX3_takeBag 15 = .ok (.aload_n 0, 1) := by decide +kernel
theorem dX3_takeBag_16 : decode cX3_takeBag 16 = .ok (.getfield 12, 3) := by decide +kernel
theorem dX3_takeBag_19 : decode cX3_takeBag 19 = .ok (.iload_n 1, 1) := by decide +kernel
theorem dX3_takeBag_20 : decode cX3_takeBag 20 = .ok (.invokevirtual 92, 3) := by decide +kernel
theorem dX3_takeBag_23 : decode cX3_takeBag 23 = .ok (.ireturn, 1) := by decide +kernel
set_option maxRecDepth 20000 in
theorem ggX3_takeRejects_X1_save : GoodIn wsX3_takeRejects wsX1_save := goodIn_r _ [7, 8, 9, 10, 11, 12, 13, 14, 15, 16, 17, 18, 19, 20, 21, 22, 23, 24, 25, 26, 27, 28, 29, 30, 31, 32, 33, 34, 35, 36, 47, 48, 49, 50, 51, 52, 53, 54, 55, 56, 57, 58, 59, 60, 61, 62] (by decide +kernel) (by decide +kernel)
set_option maxRecDepth 20000 in
theorem gX3_takeRejects_X1_save : GoodIn wsX3_takeRejects (wsV RX3 45 RX1 yX1_save wsX1_save) := goodIn_app (goodIn_of _ (by decide +kernel)) ggX3_takeRejects_X1_save
set_option maxRecDepth 20000 in
theorem ggX3_takeRejects_X2_removeRejects : GoodIn wsX3_takeRejects wsX2_removeRejects := goodIn_r _ [40, 29, 36, 41, 42, 18, 43, 50, 51, 52, 53, 54, 55, 56, 57, 58, 59, 60, 61, 62] (by decide +kernel) (by decide +kernel)
set_option maxRecDepth 20000 in
theorem gX3_takeRejects_X2_removeRejects : GoodIn wsX3_takeRejects (wsV RX3 95 RX2 yX2_removeRejects wsX2_removeRejects) := goodIn_app (goodIn_of _ (by decide +kernel)) ggX3_takeRejects_X2_removeRejects
theorem dX3_takeRejects_0 : decode cX3_takeRejects 0 = .ok (.aload_n 0, 1) := by decide +kernel
theorem dX3_takeRejects_1 : decode cX3_takeRejects 1 = .ok (.getfield 19, 3) := by decide +kernel
theorem dX3_takeRejects_4 : decode cX3_takeRejects 4 = .ok (.aload_n 0, 1) := by decide +kernel
theorem dX3_takeRejects_5 : decode cX3_takeRejects 5 = .ok (.getfield 12, 3) := by decide +kernel
theorem dX3_takeRejects_8 : decode cX3_takeRejects 8 = .ok (.invokevirtual 45, 3) := by decide +kernel
theorem dX3_takeRejects_11 : decode cX3_takeRejects 11 = .ok (.aload_n 0, 1) := by decide +kernel
theorem dX3_takeRejects_12 : decode cX3_takeRejects 12 = .ok (.getfield 12, 3) := by decide +kernel
theorem dX3_takeRejects_15 : decode cX3_takeRejects 15 = .ok (.invokevirtual 95, 3) := by decide +kernel
theorem dX3_takeRejects_18 : decode cX3_takeRejects 18 = .ok (.ireturn, 1) := by decide +kernel
set_option maxRecDepth 20000 in
theorem ggX3_kind_X3_checkKind : GoodIn wsX3_kind wsX3_checkKind := goodIn_ca (goodIn_r _ [6, 7, 8, 1, 9, 39, 40, 41, 42, 43, 44, 45, 46, 47, 48, 49, 50, 51, 52, 53, 54] (by decide +kernel) (by decide +kernel)) (goodIn_sub (fun _ h => List.mem_cons_of_mem _ (List.mem_append_left _ (List.mem_append_right _ h))) (by decide +kernel))
set_option maxRecDepth 20000 in
theorem gX3_kind_X3_checkKind : GoodIn wsX3_kind (wsV RX3 53 RX3 yX3_checkKind wsX3_checkKind) := goodIn_app (goodIn_of _ (by decide +kernel)) ggX3_kind_X3_checkKind
set_option maxRecDepth 20000 in
theorem ggX3_kind_X3_checkArgument : GoodIn wsX3_kind wsX3_checkArgument := goodIn_ca (goodIn_r _ [12, 13, 14] (by decide +kernel) (by decide +kernel)) (goodIn_sub (fun _ h => List.mem_cons_of_mem _ (List.mem_append_right _ h)) (by decide +kernel))
set_option maxRecDepth 20000 in
theorem gX3_kind_X3_checkArgument : GoodIn wsX3_kind (va_wsS RX3 30 yX3_checkArgument wsX3_checkArgument) := goodIn_app (goodIn_of _ (by decide +kernel)) ggX3_kind_X3_checkArgument
set_option maxRecDepth 20000 in
theorem ggX3_kind_X2_aboutKind : GoodIn wsX3_kind wsX2_aboutKind := goodIn_r _ [19, 20, 21, 22, 23, 24, 25, 26, 27, 18, 28, 29, 30, 31, 32, 33, 34, 35, 36, 37, 38, 42, 43, 44, 45, 46, 47, 48, 49, 50, 51, 52, 53, 54] (by decide +kernel) (by decide +kernel)
set_option maxRecDepth 20000 in
theorem gX3_kind_X2_aboutKind : GoodIn wsX3_kind (wsV RX3 99 RX2 yX2_aboutKind wsX2_aboutKind) := goodIn_app (goodIn_of _ (by decide +kernel)) ggX3_kind_X2_aboutKind
theorem dX3_kind_0 : decode cX3_kind 0 = .ok (.aload_n 0, 1) := by decide +kernel
theorem dX3_kind_1 : decode cX3_kind 1 = .ok (.iload_n 1, 1) := by decide +kernel
theorem dX3_kind_2 : decode cX3_kind 2 = .ok (.invokevirtual 53, 3) := by decide +kernel
theorem dX3_kind_5 : decode cX3_kind 5 = .ok (.iload_n 2, 1) := by decide +kernel
theorem dX3_kind_6 : decode cX3_kind 6 = .ok (.iconst 0, 1) := by decide +kernel
theorem dX3_kind_7 : decode cX3_kind 7 = .ok (.bipush 6, 2) := by decide +kernel
theorem dX3_kind_9 : decode cX3_kind 9 = .ok (.invokestatic 30, 3) := by decide +kernel
theorem dX3_kind_12 : decode cX3_kind 12 = .ok (.aload_n 0, 1) := by decide +kernel
theorem dX3_kind_13 : decode cX3_kind 13 = .ok (.getfield 12, 3) := by decide +kernel
theorem dX3_kind_16 : decode cX3_kind 16 = .ok (.iload_n 1, 1) := by decide +kernel
theorem dX3_kind_17 : decode cX3_kind 17 = .ok (.iload_n 2, 1) := by decide +kernel
theorem dX3_kind_18 : decode cX3_kind 18 = .ok (.invokevirtual 99, 3) := by decide +kernel
theorem dX3_kind_21 : decode cX3_kind 21 = .ok (.ireturn, 1) := by decide +kernel
set_option maxRecDepth 20000 in
theorem ggX3_rail_X3_checkRail : GoodIn wsX3_rail wsX3_checkRail := goodIn_ca (goodIn_r _ [5, 6, 7, 8, 9, 4, 10] (by decide +kernel) (by decide +kernel)) (goodIn_sub (fun _ h => List.mem_cons_of_mem _ (List.mem_append_left _ (List.mem_append_right _ h))) (by decide +kernel))
set_option maxRecDepth 20000 in
theorem gX3_rail_X3_checkRail : GoodIn wsX3_rail (va_wsS RX3 61 yX3_checkRail wsX3_checkRail) := goodIn_app (goodIn_of _ (by decide +kernel)) ggX3_rail_X3_checkRail
set_option maxRecDepth 20000 in
theorem ggX3_rail_X3_checkArgument : GoodIn wsX3_rail wsX3_checkArgument := goodIn_ca (goodIn_r _ [13, 14, 15] (by decide +kernel) (by decide +kernel)) (goodIn_sub (fun _ h => List.mem_cons_of_mem _ (List.mem_append_right _ h)) (by decide +kernel))
set_option maxRecDepth 20000 in
theorem gX3_rail_X3_checkArgument : GoodIn wsX3_rail (va_wsS RX3 30 yX3_checkArgument wsX3_checkArgument) := goodIn_app (goodIn_of _ (by decide +kernel)) ggX3_rail_X3_checkArgument
set_option maxRecDepth 20000 in
theorem ggX3_rail_X2_aboutRail : GoodIn wsX3_rail wsX2_aboutRail := goodIn_r _ [20, 21, 22, 23, 24, 25, 26, 27, 28, 19, 29, 30, 31, 32, 33, 34, 35, 36, 37, 38, 39, 40, 41, 42, 43, 44, 45, 46, 47, 48, 49, 50, 51, 52, 53, 57, 58, 59, 60, 61, 62, 63, 64, 65, 66, 67, 68, 69] (by decide +kernel) (by decide +kernel)
set_option maxRecDepth 20000 in
theorem gX3_rail_X2_aboutRail : GoodIn wsX3_rail (wsV RX3 102 RX2 yX2_aboutRail wsX2_aboutRail) := goodIn_app (goodIn_of _ (by decide +kernel)) ggX3_rail_X2_aboutRail
theorem dX3_rail_0 : decode cX3_rail 0 = .ok (.iload_n 1, 1) := by decide +kernel
theorem dX3_rail_1 : decode cX3_rail 1 = .ok (.invokestatic 61, 3) := by decide +kernel
theorem dX3_rail_4 : decode cX3_rail 4 = .ok (.iload_n 2, 1) := by decide +kernel
theorem dX3_rail_5 : decode cX3_rail 5 = .ok (.iconst 0, 1) := by decide +kernel
theorem dX3_rail_6 : decode cX3_rail 6 = .ok (.bipush 9, 2) := by decide +kernel
theorem dX3_rail_8 : decode cX3_rail 8 = .ok (.invokestatic 30, 3) := by decide +kernel
theorem dX3_rail_11 : decode cX3_rail 11 = .ok (.aload_n 0, 1) := by decide +kernel
theorem dX3_rail_12 : decode cX3_rail 12 = .ok (.getfield 12, 3) := by decide +kernel
theorem dX3_rail_15 : decode cX3_rail 15 = .ok (.iload_n 1, 1) := by decide +kernel
theorem dX3_rail_16 : decode cX3_rail 16 = .ok (.iload_n 2, 1) := by decide +kernel
theorem dX3_rail_17 : decode cX3_rail 17 = .ok (.invokevirtual 102, 3) := by decide +kernel
theorem dX3_rail_20 : decode cX3_rail 20 = .ok (.ireturn, 1) := by decide +kernel
set_option maxRecDepth 20000 in
theorem ggX3_count_X3_checkRail : GoodIn wsX3_count wsX3_checkRail := goodIn_ca (goodIn_r _ [5, 6, 7, 8, 9, 4, 10] (by decide +kernel) (by decide +kernel)) (goodIn_sub (fun _ h => List.mem_cons_of_mem _ (List.mem_append_right _ h)) (by decide +kernel))
set_option maxRecDepth 20000 in
theorem gX3_count_X3_checkRail : GoodIn wsX3_count (va_wsS RX3 61 yX3_checkRail wsX3_checkRail) := goodIn_app (goodIn_of _ (by decide +kernel)) ggX3_count_X3_checkRail
set_option maxRecDepth 20000 in
theorem ggX3_count_X3_checkKind : GoodIn wsX3_count wsX3_checkKind := goodIn_ca (goodIn_r _ [14, 6, 7, 1, 15, 22, 23, 24, 25, 26, 27, 28, 29, 30, 31, 32, 33, 34, 35, 36, 37] (by decide +kernel) (by decide +kernel)) (goodIn_sub (fun _ h => List.mem_cons_of_mem _ (List.mem_append_right _ h)) (by decide +kernel))
set_option maxRecDepth 20000 in
theorem gX3_count_X3_checkKind : GoodIn wsX3_count (wsV RX3 53 RX3 yX3_checkKind wsX3_checkKind) := goodIn_app (goodIn_of _ (by decide +kernel)) ggX3_count_X3_checkKind
set_option maxRecDepth 20000 in
theorem ggX3_count_X2_coinsOfKind : GoodIn wsX3_count wsX2_coinsOfKind := goodIn_r _ [20, 21, 25, 26, 27, 28, 29, 30, 31, 32, 33, 34, 35, 36, 37] (by decide +kernel) (by decide +kernel)
set_option maxRecDepth 20000 in
theorem gX3_count_X2_coinsOfKind : GoodIn wsX3_count (wsV RX3 105 RX2 yX2_coinsOfKind wsX2_coinsOfKind) := goodIn_app (goodIn_of _ (by decide +kernel)) ggX3_count_X2_coinsOfKind
theorem dX3_count_0 : decode cX3_count 0 = .ok (.iload_n 1, 1) := by decide +kernel
theorem dX3_count_1 : decode cX3_count 1 = .ok (.invokestatic 61, 3) := by decide +kernel
theorem dX3_count_4 : decode cX3_count 4 = .ok (.aload_n 0, 1) := by decide +kernel
theorem dX3_count_5 : decode cX3_count 5 = .ok (.iload_n 2, 1) := by decide +kernel
theorem dX3_count_6 : decode cX3_count 6 = .ok (.invokevirtual 53, 3) := by decide +kernel
theorem dX3_count_9 : decode cX3_count 9 = .ok (.aload_n 0, 1) := by decide +kernel
theorem dX3_count_10 : decode cX3_count 10 = .ok (.getfield 12, 3) := by decide +kernel
theorem dX3_count_13 : decode cX3_count 13 = .ok (.iload_n 1, 1) := by decide +kernel
theorem dX3_count_14 : decode cX3_count 14 = .ok (.iload_n 2, 1) := by decide +kernel
theorem dX3_count_15 : decode cX3_count 15 = .ok (.invokevirtual 105, 3) := by decide +kernel
theorem dX3_count_18 : decode cX3_count 18 = .ok (.ireturn, 1) := by decide +kernel
set_option maxRecDepth 20000 in
theorem ggX3_value_X3_checkArgument : GoodIn wsX3_value wsX3_checkArgument := goodIn_ca (goodIn_r _ [5, 6, 7] (by decide +kernel) (by decide +kernel)) (goodIn_sub (fun _ h => List.mem_cons_of_mem _ (List.mem_append_right _ h)) (by decide +kernel))
set_option maxRecDepth 20000 in
theorem gX3_value_X3_checkArgument : GoodIn wsX3_value (va_wsS RX3 30 yX3_checkArgument wsX3_checkArgument) := goodIn_app (goodIn_of _ (by decide +kernel)) ggX3_value_X3_checkArgument
set_option maxRecDepth 20000 in
theorem ggX3_value_X2_aboutAll : GoodIn wsX3_value wsX2_aboutAll := goodIn_r _ [12, 13, 14, 15, 16, 17, 18, 11, 19, 20, 21, 22, 23, 24, 25, 26, 27, 28, 29, 30, 31, 32, 33, 34, 35, 36, 37, 38, 39, 40, 41, 42, 43, 44, 45, 46, 47, 48, 49, 50, 51, 52, 53, 54, 55, 56, 57, 58, 59, 60, 61, 62, 63, 64, 65, 66, 67, 68, 69, 70, 71, 72, 73, 74, 75, 76, 77, 78, 79, 83, 84, 85, 86, 87, 88, 89, 90, 91, 92, 93, 94, 95] (by decide +kernel) (by decide +kernel)
set_option maxRecDepth 20000 in
theorem gX3_value_X2_aboutAll : GoodIn wsX3_value (wsV RX3 108 RX2 yX2_aboutAll wsX2_aboutAll) := goodIn_app (goodIn_of _ (by decide +kernel)) ggX3_value_X2_aboutAll
theorem dX3_value_0 : decode cX3_value 0 = .ok (.iload_n 1, 1) := by decide +kernel
theorem dX3_value_1 : decode cX3_value 1 = .ok (.iconst 0, 1) := by decide +kernel
theorem dX3_value_2 : decode cX3_value 2 = .ok (.bipush 9, 2) := by decide +kernel
theorem dX3_value_4 : decode cX3_value 4 = .ok (.invokestatic 30, 3) := by decide +kernel
theorem dX3_value_7 : decode cX3_value 7 = .ok (.aload_n 0, 1) := by decide +kernel
theorem dX3_value_8 : decode cX3_value 8 = .ok (.getfield 12, 3) := by decide +kernel
theorem dX3_value_11 : decode cX3_value 11 = .ok (.iload_n 1, 1) := by decide +kernel
theorem dX3_value_12 : decode cX3_value 12 = .ok (.invokevirtual 108, 3) := by decide +kernel
theorem dX3_value_15 : decode cX3_value 15 = .ok (.ireturn, 1) := by decide +kernel
set_option maxRecDepth 20000 in
theorem ggX3_where_X3_checkKind : GoodIn wsX3_where wsX3_checkKind := goodIn_ca (goodIn_r _ [6, 7, 8, 1, 9, 51, 52, 53, 54, 55, 56, 57, 58, 59, 60, 61, 62, 63, 64, 65, 66] (by decide +kernel) (by decide +kernel)) (goodIn_sub (fun _ h => List.mem_cons_of_mem _ (List.mem_append_left _ (List.mem_append_right _ h))) (by decide +kernel))
set_option maxRecDepth 20000 in
theorem gX3_where_X3_checkKind : GoodIn wsX3_where (wsV RX3 53 RX3 yX3_checkKind wsX3_checkKind) := goodIn_app (goodIn_of _ (by decide +kernel)) ggX3_where_X3_checkKind
set_option maxRecDepth 20000 in
theorem ggX3_where_X3_checkArgument : GoodIn wsX3_where wsX3_checkArgument := goodIn_ca (goodIn_r _ [12, 13, 14] (by decide +kernel) (by decide +kernel)) (goodIn_sub (fun _ h => List.mem_cons_of_mem _ (List.mem_append_right _ h)) (by decide +kernel))
set_option maxRecDepth 20000 in
theorem gX3_where_X3_checkArgument : GoodIn wsX3_where (va_wsS RX3 30 yX3_checkArgument wsX3_checkArgument) := goodIn_app (goodIn_of _ (by decide +kernel)) ggX3_where_X3_checkArgument
set_option maxRecDepth 20000 in
theorem ggX3_where_X2_placeFor : GoodIn wsX3_where wsX2_placeFor := goodIn_r _ [19, 20, 21, 22, 23, 18, 24, 25, 26, 27, 28, 29, 30, 31, 32, 33, 34, 35, 36, 37, 38, 39, 40, 41, 42, 43, 44, 45, 46, 47, 48, 49, 50, 54, 55, 56, 57, 58, 59, 60, 61, 62, 63, 64, 65, 66] (by decide +kernel) (by decide +kernel)
set_option maxRecDepth 20000 in
theorem gX3_where_X2_placeFor : GoodIn wsX3_where (wsV RX3 111 RX2 yX2_placeFor wsX2_placeFor) := goodIn_app (goodIn_of _ (by decide +kernel)) ggX3_where_X2_placeFor
theorem dX3_where_0 : decode cX3_where 0 = .ok (.aload_n 0, 1) := by decide +kernel
theorem dX3_where_1 : decode cX3_where 1 = .ok (.iload_n 1, 1) := by decide +kernel
theorem dX3_where_2 : decode cX3_where 2 = .ok (.invokevirtual 53, 3) := by decide +kernel
theorem dX3_where_5 : decode cX3_where 5 = .ok (.iload_n 2, 1) := by decide +kernel
theorem dX3_where_6 : decode cX3_where 6 = .ok (.iconst 0, 1) := by decide +kernel
theorem dX3_where_7 : decode cX3_where 7 = .ok (.sipush 999, 3) := by decide +kernel
theorem dX3_where_10 : decode cX3_where 10 = .ok (.invokestatic 30, 3) := by decide +kernel
theorem dX3_where_13 : decode cX3_where 13 = .ok (.aload_n 0, 1) := by decide +kernel
theorem dX3_where_14 : decode cX3_where 14 = .ok (.getfield 12, 3) := by decide +kernel
theorem dX3_where_17 : decode cX3_where 17 = .ok (.iload_n 1, 1) := by decide +kernel
theorem dX3_where_18 : decode cX3_where 18 = .ok (.iload_n 2, 1) := by decide +kernel
theorem dX3_where_19 : decode cX3_where 19 = .ok (.invokevirtual 111, 3) := by decide +kernel
theorem dX3_where_22 : decode cX3_where 22 = .ok (.ireturn, 1) := by decide +kernel
set_option maxRecDepth 20000 in
theorem ggX3_mostWear_X3_checkKind : GoodIn wsX3_mostWear wsX3_checkKind := goodIn_ca (goodIn_r _ [6, 7, 8, 1, 9, 55, 56, 57, 58, 59, 60, 61, 62, 63, 64, 65, 66, 67, 68, 69, 70] (by decide +kernel) (by decide +kernel)) (goodIn_sub (fun _ h => List.mem_cons_of_mem _ (List.mem_append_right _ h)) (by decide +kernel))
set_option maxRecDepth 20000 in
theorem gX3_mostWear_X3_checkKind : GoodIn wsX3_mostWear (wsV RX3 53 RX3 yX3_checkKind wsX3_checkKind) := goodIn_app (goodIn_of _ (by decide +kernel)) ggX3_mostWear_X3_checkKind
set_option maxRecDepth 20000 in
theorem ggX3_mostWear_X2_mostFittingWear : GoodIn wsX3_mostWear wsX2_mostFittingWear := goodIn_r _ [14, 15, 16, 17, 13, 18, 19, 20, 21, 22, 23, 24, 25, 26, 27, 28, 29, 30, 31, 32, 33, 34, 35, 36, 37, 38, 39, 40, 41, 42, 43, 44, 45, 46, 47, 48, 49, 50, 51, 52, 53, 54, 58, 59, 60, 61, 62, 63, 64, 65, 66, 67, 68, 69, 70] (by decide +kernel) (by decide +kernel)
set_option maxRecDepth 20000 in
theorem gX3_mostWear_X2_mostFittingWear : GoodIn wsX3_mostWear (wsV RX3 114 RX2 yX2_mostFittingWear wsX2_mostFittingWear) := goodIn_app (goodIn_of _ (by decide +kernel)) ggX3_mostWear_X2_mostFittingWear
theorem dX3_mostWear_0 : decode cX3_mostWear 0 = .ok (.aload_n 0, 1) := by decide +kernel
theorem dX3_mostWear_1 : decode cX3_mostWear 1 = .ok (.iload_n 1, 1) := by decide +kernel
theorem dX3_mostWear_2 : decode cX3_mostWear 2 = .ok (.invokevirtual 53, 3) := by decide +kernel
theorem dX3_mostWear_5 : decode cX3_mostWear 5 = .ok (.aload_n 0, 1) := by decide +kernel
theorem dX3_mostWear_6 : decode cX3_mostWear 6 = .ok (.getfield 12, 3) := by decide +kernel
theorem dX3_mostWear_9 : decode cX3_mostWear 9 = .ok (.iload_n 1, 1) := by decide +kernel
theorem dX3_mostWear_10 : decode cX3_mostWear 10 = .ok (.invokevirtual 114, 3) := by decide +kernel
theorem dX3_mostWear_13 : decode cX3_mostWear 13 = .ok (.ireturn, 1) := by decide +kernel
set_option maxRecDepth 20000 in
theorem ggX3_bestGap_X3_checkRail : GoodIn wsX3_bestGap wsX3_checkRail := goodIn_ca (goodIn_r _ [5, 6, 7, 8, 9, 4, 10] (by decide +kernel) (by decide +kernel)) (goodIn_sub (fun _ h => List.mem_cons_of_mem _ (List.mem_append_right _ h)) (by decide +kernel))
set_option maxRecDepth 20000 in
theorem gX3_bestGap_X3_checkRail : GoodIn wsX3_bestGap (va_wsS RX3 61 yX3_checkRail wsX3_checkRail) := goodIn_app (goodIn_of _ (by decide +kernel)) ggX3_bestGap_X3_checkRail
set_option maxRecDepth 20000 in
theorem ggX3_bestGap_X2_leastSortingGap : GoodIn wsX3_bestGap wsX2_leastSortingGap := goodIn_r _ [15, 16, 17, 18, 19, 20, 21, 22, 23, 24, 25, 29, 30, 31, 32, 33, 34, 35, 36, 37, 38, 39, 40, 41] (by decide +kernel) (by decide +kernel)
set_option maxRecDepth 20000 in
theorem gX3_bestGap_X2_leastSortingGap : GoodIn wsX3_bestGap (wsV RX3 117 RX2 yX2_leastSortingGap wsX2_leastSortingGap) := goodIn_app (goodIn_of _ (by decide +kernel)) ggX3_bestGap_X2_leastSortingGap
theorem dX3_bestGap_0 : decode cX3_bestGap 0 = .ok (.iload_n 1, 1) := by decide +kernel
theorem dX3_bestGap_1 : decode cX3_bestGap 1 = .ok (.invokestatic 61, 3) := by decide +kernel
theorem dX3_bestGap_4 : decode cX3_bestGap 4 = .ok (.aload_n 0, 1) := by decide +kernel
theorem dX3_bestGap_5 : decode cX3_bestGap 5 = .ok (.getfield 12, 3) := by decide +kernel
theorem dX3_bestGap_8 : decode cX3_bestGap 8 = .ok (.iload_n 1, 1) := by decide +kernel
theorem dX3_bestGap_9 : decode cX3_bestGap 9 = .ok (.invokevirtual 117, 3) := by decide +kernel
theorem dX3_bestGap_12 : decode cX3_bestGap 12 = .ok (.ireturn, 1) := by decide +kernel
set_option maxRecDepth 20000 in
theorem ggX3_supply_X3_checkKind : GoodIn wsX3_supply wsX3_checkKind := goodIn_ca (goodIn_r _ [6, 7, 8, 1, 9, 55, 56, 57, 58, 59, 60, 61, 62, 63, 64, 65, 66, 67, 68, 69, 70] (by decide +kernel) (by decide +kernel)) (goodIn_sub (fun _ h => List.mem_cons_of_mem _ (List.mem_append_right _ h)) (by decide +kernel))
set_option maxRecDepth 20000 in
theorem gX3_supply_X3_checkKind : GoodIn wsX3_supply (wsV RX3 53 RX3 yX3_checkKind wsX3_checkKind) := goodIn_app (goodIn_of _ (by decide +kernel)) ggX3_supply_X3_checkKind
set_option maxRecDepth 20000 in
theorem ggX3_supply_X2_coinsUntilAstray : GoodIn wsX3_supply wsX2_coinsUntilAstray := goodIn_r _ [14, 15, 16, 17, 18, 13, 19, 20, 21, 22, 23, 24, 25, 26, 27, 28, 29, 30, 31, 32, 33, 34, 35, 36, 37, 38, 39, 40, 41, 42, 43, 44, 45, 46, 47, 48, 49, 50, 51, 52, 53, 54, 58, 59, 60, 61, 62, 63, 64, 65, 66, 67, 68, 69, 70] (by decide +kernel) (by decide +kernel)
set_option maxRecDepth 20000 in
theorem gX3_supply_X2_coinsUntilAstray : GoodIn wsX3_supply (wsV RX3 120 RX2 yX2_coinsUntilAstray wsX2_coinsUntilAstray) := goodIn_app (goodIn_of _ (by decide +kernel)) ggX3_supply_X2_coinsUntilAstray
theorem dX3_supply_0 : decode cX3_supply 0 = .ok (.aload_n 0, 1) := by decide +kernel
theorem dX3_supply_1 : decode cX3_supply 1 = .ok (.iload_n 1, 1) := by decide +kernel
theorem dX3_supply_2 : decode cX3_supply 2 = .ok (.invokevirtual 53, 3) := by decide +kernel
theorem dX3_supply_5 : decode cX3_supply 5 = .ok (.aload_n 0, 1) := by decide +kernel
theorem dX3_supply_6 : decode cX3_supply 6 = .ok (.getfield 12, 3) := by decide +kernel
theorem dX3_supply_9 : decode cX3_supply 9 = .ok (.iload_n 1, 1) := by decide +kernel
theorem dX3_supply_10 : decode cX3_supply 10 = .ok (.invokevirtual 120, 3) := by decide +kernel
theorem dX3_supply_13 : decode cX3_supply 13 = .ok (.ireturn, 1) := by decide +kernel
set_option maxRecDepth 20000 in
theorem ggX3_right_X2_coinsInBags : GoodIn wsX3_right wsX2_coinsInBags := goodIn_r _ [6, 7, 8, 9, 5, 10, 28, 29, 30, 31, 32, 33, 34, 35, 36, 37, 38, 39, 40] (by decide +kernel) (by decide +kernel)
set_option maxRecDepth 20000 in
theorem gX3_right_X2_coinsInBags : GoodIn wsX3_right (wsV RX3 126 RX2 yX2_coinsInBags wsX2_coinsInBags) := goodIn_app (goodIn_of _ (by decide +kernel)) ggX3_right_X2_coinsInBags
set_option maxRecDepth 20000 in
theorem ggX3_right_X2_misfits : GoodIn wsX3_right wsX2_misfits := goodIn_r _ [14, 15, 16, 17, 5, 18, 19, 20, 21, 22, 23, 24, 7, 28, 29, 30, 31, 32, 33, 34, 35, 36, 37, 38, 39, 40] (by decide +kernel) (by decide +kernel)
set_option maxRecDepth 20000 in
theorem gX3_right_X2_misfits : GoodIn wsX3_right (wsV RX3 129 RX2 yX2_misfits wsX2_misfits) := goodIn_app (goodIn_of _ (by decide +kernel)) ggX3_right_X2_misfits
theorem dX3_right_0 : decode cX3_right 0 = .ok (.aload_n 0, 1) := by decide +kernel
theorem dX3_right_1 : decode cX3_right 1 = .ok (.getfield 12, 3) := by decide +kernel
theorem dX3_right_4 : decode cX3_right 4 = .ok (.invokevirtual 126, 3) := by decide +kernel
theorem dX3_right_7 : decode cX3_right 7 = .ok (.istore_n 1, 1) := by decide +kernel
theorem dX3_right_8 : decode cX3_right 8 = .ok (.iload_n 1, 1) := by decide +kernel
theorem dX3_right_9 : decode cX3_right 9 = .ok (.ifCond .ne 5, 3) := by decide +kernel
theorem dX3_right_12 : decode cX3_right 12 = .ok (.dconst 1, 1) := by decide +kernel
theorem dX3_right_13 : decode cX3_right 13 = .ok (.dreturn, 1) := by decide +kernel
theorem dX3_right_14 : decode cX3_right 14 = .ok (.iload_n 1, 1) := by decide +kernel
theorem dX3_right_15 : decode cX3_right 15 = .ok (.aload_n 0, 1) := by decide +kernel
theorem dX3_right_16 : decode cX3_right 16 = .ok (.getfield 12, 3) := by decide +kernel
theorem dX3_right_19 : decode cX3_right 19 = .ok (.invokevirtual 129, 3) := by decide +kernel
theorem dX3_right_22 : decode cX3_right 22 = .ok (.isub, 1) := by decide +kernel
theorem dX3_right_23 : decode cX3_right 23 = .ok (.i2d, 1) := by decide +kernel
theorem dX3_right_24 : decode cX3_right 24 = .ok (.iload_n 1, 1) := by decide +kernel
theorem dX3_right_25 : decode cX3_right 25 = .ok (.i2d, 1) := by decide +kernel
theorem dX3_right_26 : decode cX3_right 26 = .ok (.ddiv, 1) := by decide +kernel
theorem dX3_right_27 : decode cX3_right 27 = .ok (.dreturn, 1) := by decide +kernel
set_option maxRecDepth 20000 in
theorem ggX3_undo_X1_restore : GoodIn wsX3_undo wsX1_restore := goodIn_r _ [10, 11, 12, 13, 14, 15, 16, 17, 18, 19, 20, 21, 22, 23, 24, 25, 26, 27, 28, 29, 30, 31, 32, 33, 34, 35, 39, 40, 41, 42, 43, 44, 45, 46, 47, 48, 49, 50, 51, 52, 53, 54] (by decide +kernel) (by decide +kernel)
set_option maxRecDepth 20000 in
theorem gX3_undo_X1_restore : GoodIn wsX3_undo (wsV RX3 160 RX1 yX1_restore wsX1_restore) := goodIn_app (goodIn_of _ (by decide +kernel)) ggX3_undo_X1_restore
theorem dX3_undo_0 : decode cX3_undo 0 = .ok (.aload_n 0, 1) := by decide +kernel
theorem dX3_undo_1 : decode cX3_undo 1 = .ok (.getfield 19, 3) := by decide +kernel
theorem dX3_undo_4 : decode cX3_undo 4 = .ok (.getfield 155, 3) := by decide +kernel
theorem dX3_undo_7 : decode cX3_undo 7 = .ok (.ifCond .ne 13, 3) := by decide +kernel
theorem dX3_undo_10 : decode cX3_undo 10 = .ok (.new 38, 3) := by decide +kernel
theorem dX3_undo_13 : decode cX3_undo 13 = .ok (.dup, 1) := by decide +kernel
theorem dX3_undo_14 : decode cX3_undo 14 = .ok (.ldc 158, 2) := by decide +kernel
theorem dX3_undo_16 : decode cX3_undo 16 = .ok (.invokespecial 42, 3) := by decide +kernel
theorem dX3_undo_19 : decode cX3_undo 19 = .ok (.athrow, 1) := by decide +kernel
theorem dX3_undo_20 : decode cX3_undo 20 = .ok (.aload_n 0, 1) := by decide +kernel
theorem dX3_undo_21 : decode cX3_undo 21 = .ok (.getfield 19, 3) := by decide +kernel
theorem dX3_undo_24 : decode cX3_undo 24 = .ok (.aload_n 0, 1) := by decide +kernel
theorem dX3_undo_25 : decode cX3_undo 25 = .ok (.getfield 12, 3) := by decide +kernel
theorem dX3_undo_28 : decode cX3_undo 28 = .ok (.invokevirtual 160, 3) := by decide +kernel
theorem dX3_undo_31 : decode cX3_undo 31 = .ok (.ireturn, 1) := by decide +kernel
theorem dX3_checkKind_0 : decode cX3_checkKind 0 = .ok (.iload_n 1, 1) := by decide +kernel
theorem dX3_checkKind_1 : decode cX3_checkKind 1 = .ok (.ifCond .lt 14, 3) := by decide +kernel
theorem dX3_checkKind_4 : decode cX3_checkKind 4 = .ok (.iload_n 1, 1) := by decide +kernel
theorem dX3_checkKind_5 : decode cX3_checkKind 5 = .ok (.aload_n 0, 1) := by decide +kernel
theorem dX3_checkKind_6 : decode cX3_checkKind 6 = .ok (.getfield 12, 3) := by decide +kernel
theorem dX3_checkKind_9 : decode cX3_checkKind 9 = .ok (.getfield 34, 3) := by decide +kernel
theorem dX3_checkKind_12 : decode cX3_checkKind 12 = .ok (.if_icmp .lt 13, 3) := by decide +kernel
theorem dX3_checkKind_15 : decode cX3_checkKind 15 = .ok (.new 175, 3) := by decide +kernel
theorem dX3_checkKind_18 : decode cX3_checkKind 18 = .ok (.dup, 1) := by decide +kernel
theorem dX3_checkKind_19 : decode cX3_checkKind 19 = .ok (.ldc 177, 2) := by decide +kernel
theorem dX3_checkKind_21 : decode cX3_checkKind 21 = .ok (.invokespecial 179, 3) := by decide +kernel
theorem dX3_checkKind_24 : decode cX3_checkKind 24 = .ok (.athrow, 1) := by decide +kernel
theorem dX3_checkKind_25 : decode cX3_checkKind 25 = .ok (.return_, 1) := by decide +kernel
set_option maxRecDepth 20000 in
theorem ggX3_checkRail_X3_isRail : GoodIn wsX3_checkRail wsX3_isRail := goodIn_r _ [6] (by decide +kernel) (by decide +kernel)
set_option maxRecDepth 20000 in
theorem gX3_checkRail_X3_isRail : GoodIn wsX3_checkRail (va_wsS RX3 152 yX3_isRail wsX3_isRail) := goodIn_app (goodIn_of _ (by decide +kernel)) ggX3_checkRail_X3_isRail
theorem dX3_checkRail_0 : decode cX3_checkRail 0 = .ok (.iload_n 0, 1) := by decide +kernel
theorem dX3_checkRail_1 : decode cX3_checkRail 1 = .ok (.invokestatic 152, 3) := by decide +kernel
theorem dX3_checkRail_4 : decode cX3_checkRail 4 = .ok (.ifCond .ne 13, 3) := by decide +kernel
theorem dX3_checkRail_7 : decode cX3_checkRail 7 = .ok (.new 175, 3) := by decide +kernel
theorem dX3_checkRail_10 : decode cX3_checkRail 10 = .ok (.dup, 1) := by decide +kernel
theorem dX3_checkRail_11 : decode cX3_checkRail 11 = .ok (.ldc 180, 2) := by decide +kernel
theorem dX3_checkRail_13 : decode cX3_checkRail 13 = .ok (.invokespecial 179, 3) := by decide +kernel
theorem dX3_checkRail_16 : decode cX3_checkRail 16 = .ok (.athrow, 1) := by decide +kernel
theorem dX3_checkRail_17 : decode cX3_checkRail 17 = .ok (.return_, 1) := by decide +kernel
theorem dX3_checkArgument_0 : decode cX3_checkArgument 0 = .ok (.iload_n 0, 1) := by decide +kernel
theorem dX3_checkArgument_1 : decode cX3_checkArgument 1 = .ok (.iload_n 1, 1) := by decide +kernel
theorem dX3_checkArgument_2 : decode cX3_checkArgument 2 = .ok (.if_icmp .lt 8, 3) := by decide +kernel
theorem dX3_checkArgument_5 : decode cX3_checkArgument 5 = .ok (.iload_n 0, 1) := by decide +kernel
theorem dX3_checkArgument_6 : decode cX3_checkArgument 6 = .ok (.iload_n 2, 1) := by decide +kernel
theorem dX3_checkArgument_7 : decode cX3_checkArgument 7 = .ok (.if_icmp .le 13, 3) := by decide +kernel
theorem dX3_checkArgument_10 : decode cX3_checkArgument 10 = .ok (.new 182, 3) := by decide +kernel
theorem dX3_checkArgument_13 : decode cX3_checkArgument 13 = .ok (.dup, 1) := by decide +kernel
theorem dX3_checkArgument_14 : decode cX3_checkArgument 14 = .ok (.ldc 184, 2) := by decide +kernel
theorem dX3_checkArgument_16 : decode cX3_checkArgument 16 = .ok (.invokespecial 186, 3) := by decide +kernel
theorem dX3_checkArgument_19 : decode cX3_checkArgument 19 = .ok (.athrow, 1) := by decide +kernel
theorem dX3_checkArgument_20 : decode cX3_checkArgument 20 = .ok (.return_, 1) := by decide +kernel
theorem dX3_isRail_0 : decode cX3_isRail 0 = .ok (.iload_n 0, 1) := by decide +kernel
theorem dX3_isRail_1 : decode cX3_isRail 1 = .ok (.ifCond .lt 13, 3) := by decide +kernel
theorem dX3_isRail_4 : decode cX3_isRail 4 = .ok (.iload_n 0, 1) := by decide +kernel
theorem dX3_isRail_5 : decode cX3_isRail 5 = .ok (.bipush 6, 2) := by decide +kernel
theorem dX3_isRail_7 : decode cX3_isRail 7 = .ok (.if_icmp .ge 7, 3) := by decide +kernel
theorem dX3_isRail_10 : decode cX3_isRail 10 = .ok (.iconst 1, 1) := by decide +kernel
theorem dX3_isRail_11 : decode cX3_isRail 11 = .ok (.goto 4, 3) := by decide +kernel
theorem dX3_isRail_14 : decode cX3_isRail 14 = .ok (.iconst 0, 1) := by decide +kernel
theorem dX3_isRail_15 : decode cX3_isRail 15 = .ok (.ireturn, 1) := by decide +kernel
theorem dJ9_max_7cf53_0 : decode cJ9_max_7cf53 0 = .ok (.iload_n 0, 1) := by decide +kernel
theorem dJ9_max_7cf53_1 : decode cJ9_max_7cf53 1 = .ok (.iload_n 1, 1) := by decide +kernel
theorem dJ9_max_7cf53_2 : decode cJ9_max_7cf53 2 = .ok (.if_icmp .lt 7, 3) := by decide +kernel
theorem dJ9_max_7cf53_5 : decode cJ9_max_7cf53 5 = .ok (.iload_n 0, 1) := by decide +kernel
theorem dJ9_max_7cf53_6 : decode cJ9_max_7cf53 6 = .ok (.goto 4, 3) := by decide +kernel
theorem dJ9_max_7cf53_9 : decode cJ9_max_7cf53 9 = .ok (.iload_n 1, 1) := by decide +kernel
theorem dJ9_max_7cf53_10 : decode cJ9_max_7cf53 10 = .ok (.ireturn, 1) := by decide +kernel
theorem dJ9_min_7cf53_0 : decode cJ9_min_7cf53 0 = .ok (.iload_n 0, 1) := by decide +kernel
theorem dJ9_min_7cf53_1 : decode cJ9_min_7cf53 1 = .ok (.iload_n 1, 1) := by decide +kernel
theorem dJ9_min_7cf53_2 : decode cJ9_min_7cf53 2 = .ok (.if_icmp .gt 7, 3) := by decide +kernel
theorem dJ9_min_7cf53_5 : decode cJ9_min_7cf53 5 = .ok (.iload_n 0, 1) := by decide +kernel
theorem dJ9_min_7cf53_6 : decode cJ9_min_7cf53 6 = .ok (.goto 4, 3) := by decide +kernel
theorem dJ9_min_7cf53_9 : decode cJ9_min_7cf53 9 = .ok (.iload_n 1, 1) := by decide +kernel
theorem dJ9_min_7cf53_10 : decode cJ9_min_7cf53 10 = .ok (.ireturn, 1) := by decide +kernel
theorem dL_cell_0 : decode cL_cell 0 = .ok (.iload_n 1, 1) := by decide +kernel
theorem dL_cell_1 : decode cL_cell 1 = .ok (.aload_n 0, 1) := by decide +kernel
theorem dL_cell_2 : decode cL_cell 2 = .ok (.arraylength, 1) := by decide +kernel
theorem dL_cell_3 : decode cL_cell 3 = .ok (.if_icmp .ge 9, 3) := by decide +kernel
theorem dL_cell_6 : decode cL_cell 6 = .ok (.aload_n 0, 1) := by decide +kernel
theorem dL_cell_7 : decode cL_cell 7 = .ok (.iload_n 1, 1) := by decide +kernel
theorem dL_cell_8 : decode cL_cell 8 = .ok (.iaload, 1) := by decide +kernel
theorem dL_cell_9 : decode cL_cell 9 = .ok (.goto 11, 3) := by decide +kernel
theorem dL_cell_12 : decode cL_cell 12 = .ok (.ldc 7, 2) := by decide +kernel
theorem dL_cell_14 : decode cL_cell 14 = .ok (.iload_n 1, 1) := by decide +kernel
theorem dL_cell_15 : decode cL_cell 15 = .ok (.sipush 631, 3) := by decide +kernel
theorem dL_cell_18 : decode cL_cell 18 = .ok (.iadd, 1) := by decide +kernel
theorem dL_cell_19 : decode cL_cell 19 = .ok (.imul, 1) := by decide +kernel
theorem dL_cell_20 : decode cL_cell 20 = .ok (.ireturn, 1) := by decide +kernel
theorem dL_up_0 : decode cL_up 0 = .ok (.iload_n 0, 1) := by decide +kernel
theorem dL_up_1 : decode cL_up 1 = .ok (.ldc 8, 2) := by decide +kernel
theorem dL_up_3 : decode cL_up 3 = .ok (.iand, 1) := by decide +kernel
theorem dL_up_4 : decode cL_up 4 = .ok (.iload_n 1, 1) := by decide +kernel
theorem dL_up_5 : decode cL_up 5 = .ok (.irem, 1) := by decide +kernel
theorem dL_up_6 : decode cL_up 6 = .ok (.ireturn, 1) := by decide +kernel
set_option maxRecDepth 20000 in
theorem ggL_kinds_L_cell : GoodIn wsL_kinds wsL_cell := goodIn_r _ [4, 5] (by decide +kernel) (by decide +kernel)
set_option maxRecDepth 20000 in
theorem gL_kinds_L_cell : GoodIn wsL_kinds (va_wsS RL 9 yL_cell wsL_cell) := goodIn_app (goodIn_of _ (by decide +kernel)) ggL_kinds_L_cell
set_option maxRecDepth 20000 in
theorem ggL_kinds_L_up : GoodIn wsL_kinds wsL_up := goodIn_r _ [8, 9] (by decide +kernel) (by decide +kernel)
set_option maxRecDepth 20000 in
theorem gL_kinds_L_up : GoodIn wsL_kinds (va_wsS RL 15 yL_up wsL_up) := goodIn_app (goodIn_of _ (by decide +kernel)) ggL_kinds_L_up
set_option maxRecDepth 20000 in
theorem ggL_kinds_X3_addKind : GoodIn wsL_kinds wsX3_addKind := goodIn_ca (goodIn_ca (goodIn_r _ [14, 15, 16, 17, 18, 19, 20, 21, 13, 22, 23, 24, 25, 26, 27, 28, 29, 30, 31, 32, 33, 34, 35, 36, 37, 38, 39, 40, 41, 42, 43, 44, 45, 46, 47, 48, 49, 50, 51, 52, 53, 54, 55, 56, 57, 58, 59, 60, 61, 62, 63, 64, 65, 66, 67, 68, 69, 70, 71, 72, 73, 74, 75, 76, 77, 78, 79, 80, 81] (by decide +kernel) (by decide +kernel)) (goodIn_sub (fun _ h => List.mem_cons_of_mem _ (List.mem_append_left _ (List.mem_append_right _ h))) (by decide +kernel))) (goodIn_sub (fun _ h => List.mem_cons_of_mem _ (List.mem_append_right _ h)) (by decide +kernel))
set_option maxRecDepth 20000 in
theorem gL_kinds_X3_addKind : GoodIn wsL_kinds (wsV RL 19 RX3 yX3_addKind wsX3_addKind) := goodIn_app (goodIn_of _ (by decide +kernel)) ggL_kinds_X3_addKind
theorem dL_kinds_0 : decode cL_kinds 0 = .ok (.iconst 1, 1) := by decide +kernel
theorem dL_kinds_1 : decode cL_kinds 1 = .ok (.istore_n 3, 1) := by decide +kernel
theorem dL_kinds_2 : decode cL_kinds 2 = .ok (.iconst 0, 1) := by decide +kernel
theorem dL_kinds_3 : decode cL_kinds 3 = .ok (.istore 4, 2) := by decide +kernel
theorem dL_kinds_5 : decode cL_kinds 5 = .ok (.iload 4, 2) := by decide +kernel
theorem dL_kinds_7 : decode cL_kinds 7 = .ok (.iconst 4, 1) := by decide +kernel
theorem dL_kinds_8 : decode cL_kinds 8 = .ok (.if_icmp .ge 109, 3) := by decide +kernel
theorem dL_kinds_11 : decode cL_kinds 11 = .ok (.aload_n 2, 1) := by decide +kernel
theorem dL_kinds_12 : decode cL_kinds 12 = .ok (.iload 4, 2) := by decide +kernel
theorem dL_kinds_14 : decode cL_kinds 14 = .ok (.invokestatic 9, 3) := by decide +kernel
theorem dL_kinds_17 : decode cL_kinds 17 = .ok (.istore 5, 2) := by decide +kernel
theorem dL_kinds_19 : decode cL_kinds 19 = .ok (.aload_n 2, 1) := by decide +kernel
theorem dL_kinds_20 : decode cL_kinds 20 = .ok (.iconst 3, 1) := by decide +kernel
theorem dL_kinds_21 : decode cL_kinds 21 = .ok (.iload 4, 2) := by decide +kernel
theorem dL_kinds_23 : decode cL_kinds 23 = .ok (.isub, 1) := by decide +kernel
theorem dL_kinds_24 : decode cL_kinds 24 = .ok (.invokestatic 9, 3) := by decide +kernel
theorem dL_kinds_27 : decode cL_kinds 27 = .ok (.istore 6, 2) := by decide +kernel
theorem dL_kinds_29 : decode cL_kinds 29 = .ok (.iload_n 3, 1) := by decide +kernel
theorem dL_kinds_30 : decode cL_kinds 30 = .ok (.ifCond .eq 79, 3) := by decide +kernel
theorem dL_kinds_33 : decode cL_kinds 33 = .ok (.aload_n 0, 1) := by decide +kernel
theorem dL_kinds_34 : decode cL_kinds 34 = .ok (.sipush 1200, 3) := by decide +kernel
theorem dL_kinds_37 : decode cL_kinds 37 = .ok (.iload 5, 2) := by decide +kernel
theorem dL_kinds_39 : decode cL_kinds 39 = .ok (.sipush 2800, 3) := by decide +kernel
theorem dL_kinds_42 : decode cL_kinds 42 = .ok (.invokestatic 15, 3) := by decide +kernel
theorem dL_kinds_45 : decode cL_kinds 45 = .ok (.iadd, 1) := by decide +kernel
theorem dL_kinds_46 : decode cL_kinds 46 = .ok (.iconst 1, 1) := by decide +kernel
theorem dL_kinds_47 : decode cL_kinds 47 = .ok (.iload 5, 2) := by decide +kernel
theorem dL_kinds_49 : decode cL_kinds 49 = .ok (.iconst 4, 1) := by decide +kernel
theorem dL_kinds_50 : decode cL_kinds 50 = .ok (.ishr, 1) := by decide +kernel
theorem dL_kinds_51 : decode cL_kinds 51 = .ok (.sipush 500, 3) := by decide +kernel
theorem dL_kinds_54 : decode cL_kinds 54 = .ok (.invokestatic 15, 3) := by decide +kernel
theorem dL_kinds_57 : decode cL_kinds 57 = .ok (.iadd, 1) := by decide +kernel
theorem dL_kinds_58 : decode cL_kinds 58 = .ok (.iload 4, 2) := by decide +kernel
theorem dL_kinds_60 : decode cL_kinds 60 = .ok (.invokevirtual 19, 3) := by decide +kernel
theorem dL_kinds_63 : decode cL_kinds 63 = .ok (.iload 4, 2) := by decide +kernel
theorem dL_kinds_65 : decode cL_kinds 65 = .ok (.if_icmp .ne 44, 3) := by decide +kernel
theorem dL_kinds_68 : decode cL_kinds 68 = .ok (.aload_n 1, 1) := by decide +kernel
theorem dL_kinds_69 : decode cL_kinds 69 = .ok (.sipush 1200, 3) := by decide +kernel
theorem dL_kinds_72 : decode cL_kinds 72 = .ok (.iload 6, 2) := by decide +kernel
theorem dL_kinds_74 : decode cL_kinds 74 = .ok (.sipush 2800, 3) := by decide +kernel
theorem dL_kinds_77 : decode cL_kinds 77 = .ok (.invokestatic 15, 3) := by decide +kernel
theorem dL_kinds_80 : decode cL_kinds 80 = .ok (.iadd, 1) := by decide +kernel
theorem dL_kinds_81 : decode cL_kinds 81 = .ok (.iconst 1, 1) := by decide +kernel
theorem dL_kinds_82 : decode cL_kinds 82 = .ok (.iload 6, 2) := by decide +kernel
theorem dL_kinds_84 : decode cL_kinds 84 = .ok (.iconst 4, 1) := by decide +kernel
theorem dL_kinds_85 : decode cL_kinds 85 = .ok (.ishr, 1) := by decide +kernel
theorem dL_kinds_86 : decode cL_kinds 86 = .ok (.sipush 500, 3) := by decide +kernel
theorem dL_kinds_89 : decode cL_kinds 89 = .ok (.invokestatic 15, 3) := by decide +kernel
theorem dL_kinds_92 : decode cL_kinds 92 = .ok (.iadd, 1) := by decide +kernel
theorem dL_kinds_93 : decode cL_kinds 93 = .ok (.iconst 3, 1) := by decide +kernel
theorem dL_kinds_94 : decode cL_kinds 94 = .ok (.iload 4, 2) := by decide +kernel
theorem dL_kinds_96 : decode cL_kinds 96 = .ok (.isub, 1) := by decide +kernel
theorem dL_kinds_97 : decode cL_kinds 97 = .ok (.invokevirtual 19, 3) := by decide +kernel
theorem dL_kinds_100 : decode cL_kinds 100 = .ok (.iload 4, 2) := by decide +kernel
theorem dL_kinds_102 : decode cL_kinds 102 = .ok (.if_icmp .ne 7, 3) := by decide +kernel
theorem dL_kinds_105 : decode cL_kinds 105 = .ok (.iconst 1, 1) := by decide +kernel
theorem dL_kinds_106 : decode cL_kinds 106 = .ok (.goto 4, 3) := by decide +kernel
theorem dL_kinds_109 : decode cL_kinds 109 = .ok (.iconst 0, 1) := by decide +kernel
theorem dL_kinds_110 : decode cL_kinds 110 = .ok (.istore_n 3, 1) := by decide +kernel
theorem dL_kinds_111 : decode cL_kinds 111 = .ok (.iinc 4 1, 3) := by decide +kernel
theorem dL_kinds_114 : decode cL_kinds 114 = .ok (.goto (-109), 3) := by decide +kernel
theorem dL_kinds_117 : decode cL_kinds 117 = .ok (.iload_n 3, 1) := by decide +kernel
theorem dL_kinds_118 : decode cL_kinds 118 = .ok (.ireturn, 1) := by decide +kernel
set_option maxRecDepth 20000 in
theorem ggL_isStep_L_up : GoodIn wsL_isStep wsL_up := goodIn_r _ [4, 5] (by decide +kernel) (by decide +kernel)
set_option maxRecDepth 20000 in
theorem gL_isStep_L_up : GoodIn wsL_isStep (va_wsS RL 15 yL_up wsL_up) := goodIn_app (goodIn_of _ (by decide +kernel)) ggL_isStep_L_up
set_option maxRecDepth 20000 in
theorem ggL_isStep_X3_kind : GoodIn wsL_isStep wsX3_kind := goodIn_ca (goodIn_ca (goodIn_r _ [10, 11, 12, 13, 14, 9, 15, 16, 17, 18, 19, 20, 21, 22, 23, 24, 25, 26, 27, 28, 29, 30, 31, 32, 33, 34, 35, 36, 37, 38, 39, 40, 41, 42, 43, 44, 45, 46, 47, 190, 191, 192, 193, 194, 195, 196, 197, 198, 199, 200, 201, 202, 203, 204, 205] (by decide +kernel) (by decide +kernel)) (goodIn_sub (fun _ h => List.mem_cons_of_mem _ (List.mem_append_left _ (List.mem_append_left _ (List.mem_append_right _ h)))) (by decide +kernel))) (goodIn_sub (fun _ h => List.mem_cons_of_mem _ (List.mem_append_left _ (List.mem_append_right _ h))) (by decide +kernel))
set_option maxRecDepth 20000 in
theorem gL_isStep_X3_kind : GoodIn wsL_isStep (wsV RL 25 RX3 yX3_kind wsX3_kind) := goodIn_app (goodIn_of _ (by decide +kernel)) ggL_isStep_X3_kind
set_option maxRecDepth 20000 in
theorem ggL_isStep_X3_rail : GoodIn wsL_isStep wsX3_rail := goodIn_ca (goodIn_ca (goodIn_r _ [51, 11, 52, 53, 9, 54, 16, 17, 55, 56, 57, 19, 20, 21, 22, 23, 58, 59, 60, 27, 61, 62, 63, 47, 64, 65, 66, 67, 68, 69, 42, 70, 71, 72, 73, 30, 74, 75, 76, 77, 78, 31, 79, 80, 81, 82, 38, 39, 40, 41, 83, 84, 85, 86, 190, 191, 192, 193, 194, 195, 196, 197, 198, 199, 200, 201, 202, 203, 204, 205] (by decide +kernel) (by decide +kernel)) (goodIn_sub (fun _ h => List.mem_cons_of_mem _ (List.mem_append_left _ (List.mem_append_left _ (List.mem_append_right _ h)))) (by decide +kernel))) (goodIn_sub (fun _ h => List.mem_cons_of_mem _ (List.mem_append_left _ (List.mem_append_right _ h))) (by decide +kernel))
set_option maxRecDepth 20000 in
theorem gL_isStep_X3_rail : GoodIn wsL_isStep (wsV RL 28 RX3 yX3_rail wsX3_rail) := goodIn_app (goodIn_of _ (by decide +kernel)) ggL_isStep_X3_rail
set_option maxRecDepth 20000 in
theorem ggL_isStep_X3_setGap : GoodIn wsL_isStep wsX3_setGap := goodIn_ca (goodIn_ca (goodIn_ca (goodIn_r _ [90, 91, 92, 11, 93, 94, 95, 52, 53, 9, 54, 16, 17, 55, 56, 57, 19, 20, 21, 22, 23, 96, 97, 98, 27, 99, 47, 100, 101, 102, 103, 104, 105, 106, 107, 108, 109, 110, 111, 112, 113, 114, 115, 78, 29, 116, 117, 118, 119, 30, 31, 33, 32, 62, 63, 64, 65, 42, 120, 190, 191, 192, 193, 194, 195, 196, 197, 198, 199, 200, 201, 202, 203, 204, 205, 206, 207, 208] (by decide +kernel) (by decide +kernel)) (goodIn_sub (fun _ h => List.mem_cons_of_mem _ (List.mem_append_right _ h)) (by decide +kernel))) (goodIn_sub (fun _ h => List.mem_cons_of_mem _ (List.mem_append_left _ (List.mem_append_left _ (List.mem_append_right _ h)))) (by decide +kernel))) (goodIn_sub (fun _ h => List.mem_cons_of_mem _ (List.mem_append_left _ (List.mem_append_right _ h))) (by decide +kernel))
set_option maxRecDepth 20000 in
theorem gL_isStep_X3_setGap : GoodIn wsL_isStep (wsV RL 31 RX3 yX3_setGap wsX3_setGap) := goodIn_app (goodIn_of _ (by decide +kernel)) ggL_isStep_X3_setGap
set_option maxRecDepth 20000 in
theorem ggL_isStep_X3_free : GoodIn wsL_isStep wsX3_free := goodIn_ca (goodIn_ca (goodIn_r _ [124, 91, 92, 11, 93, 52, 53, 9, 54, 16, 17, 55, 56, 57, 96, 97, 98, 27, 99, 47, 100, 101, 102, 103, 104, 105, 106, 107, 108, 109, 110, 111, 112, 113, 114, 115, 78, 29, 116, 117, 118, 119, 30, 31, 33, 32, 62, 63, 64, 65, 42, 120, 125, 126, 127, 128, 129, 130, 131, 132, 66, 67, 68, 69, 190, 191, 192, 193, 194, 195, 196, 197, 198, 199, 200, 201, 202, 203, 204, 205, 206, 207, 208] (by decide +kernel) (by decide +kernel)) (goodIn_sub (fun _ h => List.mem_cons_of_mem _ (List.mem_append_right _ h)) (by decide +kernel))) (goodIn_sub (fun _ h => List.mem_cons_of_mem _ (List.mem_append_left _ (List.mem_append_left _ (List.mem_append_right _ h)))) (by decide +kernel))
set_option maxRecDepth 20000 in
theorem gL_isStep_X3_free : GoodIn wsL_isStep (wsV RL 34 RX3 yX3_free wsX3_free) := goodIn_app (goodIn_of _ (by decide +kernel)) ggL_isStep_X3_free
set_option maxRecDepth 20000 in
theorem ggL_isStep_X3_takeBag : GoodIn wsL_isStep wsX3_takeBag := goodIn_ca (goodIn_r _ [136, 93, 11, 52, 53, 9, 54, 16, 17, 55, 56, 57, 100, 101, 102, 103, 104, 105, 106, 107, 108, 109, 110, 111, 112, 113, 114, 27, 115, 78, 29, 116, 117, 118, 119, 30, 31, 33, 32, 62, 63, 47, 64, 65, 42, 120, 137, 138, 139, 140, 66, 67, 68, 69, 190, 191, 192, 206, 207, 208, 193, 194, 195, 196, 197, 198, 199, 200, 201, 202, 203, 204, 205] (by decide +kernel) (by decide +kernel)) (goodIn_sub (fun _ h => List.mem_cons_of_mem _ (List.mem_append_left _ (List.mem_append_left _ (List.mem_append_right _ h)))) (by decide +kernel))
set_option maxRecDepth 20000 in
theorem gL_isStep_X3_takeBag : GoodIn wsL_isStep (wsV RL 38 RX3 yX3_takeBag wsX3_takeBag) := goodIn_app (goodIn_of _ (by decide +kernel)) ggL_isStep_X3_takeBag
set_option maxRecDepth 20000 in
theorem ggL_isStep_X3_takeRejects : GoodIn wsL_isStep wsX3_takeRejects := goodIn_r _ [144, 93, 11, 100, 101, 102, 103, 104, 105, 106, 107, 108, 109, 110, 111, 112, 113, 114, 27, 115, 78, 29, 116, 117, 118, 119, 30, 31, 33, 32, 62, 63, 47, 64, 65, 42, 120, 145, 146, 147, 148, 149, 150, 151, 190, 191, 192, 206, 207, 208, 193, 194, 195, 196, 197, 198, 199, 200, 201, 202, 203, 204, 205] (by decide +kernel) (by decide +kernel)
set_option maxRecDepth 20000 in
theorem gL_isStep_X3_takeRejects : GoodIn wsL_isStep (wsV RL 41 RX3 yX3_takeRejects wsX3_takeRejects) := goodIn_app (goodIn_of _ (by decide +kernel)) ggL_isStep_X3_takeRejects
set_option maxRecDepth 20000 in
theorem ggL_isStep_X3_where : GoodIn wsL_isStep wsX3_where := goodIn_ca (goodIn_ca (goodIn_r _ [155, 11, 12, 13, 14, 9, 15, 16, 17, 18, 19, 20, 21, 22, 23, 156, 157, 158, 27, 159, 62, 160, 161, 162, 163, 164, 109, 110, 111, 165, 166, 167, 168, 29, 169, 170, 171, 172, 97, 98, 99, 47, 129, 130, 131, 132, 66, 67, 68, 69, 42, 190, 191, 192, 193, 194, 195, 196, 197, 198, 199, 200, 201, 202, 203, 204, 205] (by decide +kernel) (by decide +kernel)) (goodIn_sub (fun _ h => List.mem_cons_of_mem _ (List.mem_append_left _ (List.mem_append_left _ (List.mem_append_right _ h)))) (by decide +kernel))) (goodIn_sub (fun _ h => List.mem_cons_of_mem _ (List.mem_append_left _ (List.mem_append_right _ h))) (by decide +kernel))
set_option maxRecDepth 20000 in
theorem gL_isStep_X3_where : GoodIn wsL_isStep (wsV RL 45 RX3 yX3_where wsX3_where) := goodIn_app (goodIn_of _ (by decide +kernel)) ggL_isStep_X3_where
set_option maxRecDepth 20000 in
theorem ggL_isStep_X3_feed : GoodIn wsL_isStep wsX3_feed := goodIn_ca (goodIn_ca (goodIn_r _ [176, 93, 11, 12, 13, 14, 9, 15, 16, 17, 18, 19, 20, 21, 22, 23, 100, 101, 102, 103, 104, 105, 106, 107, 108, 109, 110, 111, 112, 113, 114, 27, 115, 78, 29, 116, 117, 118, 119, 30, 31, 33, 32, 62, 63, 47, 64, 65, 42, 120, 177, 178, 179, 180, 181, 157, 158, 159, 160, 161, 162, 163, 164, 165, 166, 167, 168, 169, 170, 171, 172, 97, 98, 99, 129, 130, 131, 132, 66, 67, 68, 69, 182, 183, 184, 185, 186, 187, 188, 189, 190, 191, 192, 193, 194, 195, 196, 197, 198, 199, 200, 201, 202, 203, 204, 205, 206, 207, 208] (by decide +kernel) (by decide +kernel)) (goodIn_sub (fun _ h => List.mem_cons_of_mem _ (List.mem_append_left _ (List.mem_append_left _ (List.mem_append_right _ h)))) (by decide +kernel))) (goodIn_sub (fun _ h => List.mem_cons_of_mem _ (List.mem_append_left _ (List.mem_append_right _ h))) (by decide +kernel))
set_option maxRecDepth 20000 in
theorem gL_isStep_X3_feed : GoodIn wsL_isStep (wsV RL 48 RX3 yX3_feed wsX3_feed) := goodIn_app (goodIn_of _ (by decide +kernel)) ggL_isStep_X3_feed
theorem dL_isStep_0 : decode cL_isStep 0 = .ok (.iload_n 2, 1) := by decide +kernel
theorem dL_isStep_1 : decode cL_isStep 1 = .ok (.iconst 4, 1) := by decide +kernel
theorem dL_isStep_2 : decode cL_isStep 2 = .ok (.ishr, 1) := by decide +kernel
theorem dL_isStep_3 : decode cL_isStep 3 = .ok (.istore_n 3, 1) := by decide +kernel
theorem dL_isStep_4 : decode cL_isStep 4 = .ok (.iload_n 3, 1) := by decide +kernel
theorem dL_isStep_5 : decode cL_isStep 5 = .ok (.bipush 6, 2) := by decide +kernel
theorem dL_isStep_7 : decode cL_isStep 7 = .ok (.invokestatic 15, 3) := by decide +kernel
theorem dL_isStep_10 : decode cL_isStep 10 = .ok (.istore 4, 2) := by decide +kernel
theorem dL_isStep_12 : decode cL_isStep 12 = .ok (.iload_n 3, 1) := by decide +kernel
theorem dL_isStep_13 : decode cL_isStep 13 = .ok (.iconst 3, 1) := by decide +kernel
theorem dL_isStep_14 : decode cL_isStep 14 = .ok (.ishr, 1) := by decide +kernel
