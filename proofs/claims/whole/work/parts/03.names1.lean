theorem dX0_init_0 : decode cX0_init 0 = .ok (.aload_n 0, 1) := by decide +kernel
theorem dX0_init_1 : decode cX0_init 1 = .ok (.invokespecial 3, 3) := by decide +kernel
theorem dX0_init_4 : decode cX0_init 4 = .ok (.aload_n 0, 1) := by decide +kernel
theorem dX0_init_5 : decode cX0_init 5 = .ok (.bipush 90, 2) := by decide +kernel
theorem dX0_init_7 : decode cX0_init 7 = .ok (.newarray .int, 2) := by decide +kernel
theorem dX0_init_9 : decode cX0_init 9 = .ok (.putfield 9, 3) := by decide +kernel
theorem dX0_init_12 : decode cX0_init 12 = .ok (.aload_n 0, 1) := by decide +kernel
theorem dX0_init_13 : decode cX0_init 13 = .ok (.bipush 45, 2) := by decide +kernel
theorem dX0_init_15 : decode cX0_init 15 = .ok (.newarray .int, 2) := by decide +kernel
theorem dX0_init_17 : decode cX0_init 17 = .ok (.putfield 15, 3) := by decide +kernel
theorem dX0_init_20 : decode cX0_init 20 = .ok (.aload_n 0, 1) := by decide +kernel
theorem dX0_init_21 : decode cX0_init 21 = .ok (.bipush 45, 2) := by decide +kernel
theorem dX0_init_23 : decode cX0_init 23 = .ok (.newarray .int, 2) := by decide +kernel
theorem dX0_init_25 : decode cX0_init 25 = .ok (.putfield 18, 3) := by decide +kernel
theorem dX0_init_28 : decode cX0_init 28 = .ok (.return_, 1) := by decide +kernel
theorem dX0_addByte_0 : decode cX0_addByte 0 = .ok (.aload_n 0, 1) := by decide +kernel
theorem dX0_addByte_1 : decode cX0_addByte 1 = .ok (.getfield 9, 3) := by decide +kernel
theorem dX0_addByte_4 : decode cX0_addByte 4 = .ok (.aload_n 0, 1) := by decide +kernel
theorem dX0_addByte_5 : decode cX0_addByte 5 = .ok (.getfield 21, 3) := by decide +kernel
theorem dX0_addByte_8 : decode cX0_addByte 8 = .ok (.iload_n 1, 1) := by decide +kernel
theorem dX0_addByte_9 : decode cX0_addByte 9 = .ok (.iastore, 1) := by decide +kernel
theorem dX0_addByte_10 : decode cX0_addByte 10 = .ok (.aload_n 0, 1) := by decide +kernel
theorem dX0_addByte_11 : decode cX0_addByte 11 = .ok (.dup, 1) := by decide +kernel
theorem dX0_addByte_12 : decode cX0_addByte 12 = .ok (.getfield 21, 3) := by decide +kernel
theorem dX0_addByte_15 : decode cX0_addByte 15 = .ok (.iconst 1, 1) := by decide +kernel
theorem dX0_addByte_16 : decode cX0_addByte 16 = .ok (.iadd, 1) := by decide +kernel
theorem dX0_addByte_17 : decode cX0_addByte 17 = .ok (.putfield 21, 3) := by decide +kernel
theorem dX0_addByte_20 : decode cX0_addByte 20 = .ok (.aload_n 0, 1) := by decide +kernel
theorem dX0_addByte_21 : decode cX0_addByte 21 = .ok (.getfield 21, 3) := by decide +kernel
theorem dX0_addByte_24 : decode cX0_addByte 24 = .ok (.ireturn, 1) := by decide +kernel
set_option maxRecDepth 20000 in
theorem ggX0_readCoins_X0_isDigit : GoodIn wsX0_readCoins wsX0_isDigit := goodIn_r _ [9, 2, 10, 27, 28, 29, 30, 31] (by decide +kernel) (by decide +kernel)
set_option maxRecDepth 20000 in
theorem gX0_readCoins_X0_isDigit : GoodIn wsX0_readCoins (wsV RX0 28 RX0 yX0_isDigit wsX0_isDigit) := goodIn_app (goodIn_of _ (by decide +kernel)) ggX0_readCoins_X0_isDigit
set_option maxRecDepth 20000 in
theorem ggX0_readCoins_X0_digit : GoodIn wsX0_readCoins wsX0_digit := goodIn_r _ [14, 10, 27, 28, 29, 30, 31] (by decide +kernel) (by decide +kernel)
set_option maxRecDepth 20000 in
theorem gX0_readCoins_X0_digit : GoodIn wsX0_readCoins (wsV RX0 32 RX0 yX0_digit wsX0_digit) := goodIn_app (goodIn_of _ (by decide +kernel)) ggX0_readCoins_X0_digit
set_option maxRecDepth 20000 in
theorem ggX0_readCoins_X0_endOfWear : GoodIn wsX0_readCoins wsX0_endOfWear := goodIn_r _ [18, 19, 20, 21, 8, 22, 2, 10, 5, 6, 7, 9, 27, 28, 29, 30, 31] (by decide +kernel) (by decide +kernel)
set_option maxRecDepth 20000 in
theorem gX0_readCoins_X0_endOfWear : GoodIn wsX0_readCoins (wsV RX0 36 RX0 yX0_endOfWear wsX0_endOfWear) := goodIn_app (goodIn_of _ (by decide +kernel)) ggX0_readCoins_X0_endOfWear
set_option maxRecDepth 20000 in
theorem ggX0_readCoins_X0_isByte : GoodIn wsX0_readCoins wsX0_isByte := goodIn_r _ [22, 2, 10, 27, 28, 29, 30, 31] (by decide +kernel) (by decide +kernel)
set_option maxRecDepth 20000 in
theorem gX0_readCoins_X0_isByte : GoodIn wsX0_readCoins (wsV RX0 39 RX0 yX0_isByte wsX0_isByte) := goodIn_app (goodIn_of _ (by decide +kernel)) ggX0_readCoins_X0_isByte
set_option maxRecDepth 20000 in
theorem ggX0_readCoins_X0_number : GoodIn wsX0_readCoins wsX0_number := goodIn_r _ [26, 11, 12, 13, 8, 14, 10, 27, 28, 29, 30, 31] (by decide +kernel) (by decide +kernel)
set_option maxRecDepth 20000 in
theorem gX0_readCoins_X0_number : GoodIn wsX0_readCoins (wsV RX0 43 RX0 yX0_number wsX0_number) := goodIn_app (goodIn_of _ (by decide +kernel)) ggX0_readCoins_X0_number
theorem dX0_readCoins_0 : decode cX0_readCoins 0 = .ok (.aload_n 0, 1) := by decide +kernel
theorem dX0_readCoins_1 : decode cX0_readCoins 1 = .ok (.iconst 0, 1) := by decide +kernel
theorem dX0_readCoins_2 : decode cX0_readCoins 2 = .ok (.putfield 25, 3) := by decide +kernel
theorem dX0_readCoins_5 : decode cX0_readCoins 5 = .ok (.iconst 0, 1) := by decide +kernel
theorem dX0_readCoins_6 : decode cX0_readCoins 6 = .ok (.istore_n 2, 1) := by decide +kernel
theorem dX0_readCoins_7 : decode cX0_readCoins 7 = .ok (.iload_n 2, 1) := by decide +kernel
theorem dX0_readCoins_8 : decode cX0_readCoins 8 = .ok (.aload_n 0, 1) := by decide +kernel
theorem dX0_readCoins_9 : decode cX0_readCoins 9 = .ok (.getfield 21, 3) := by decide +kernel
theorem dX0_readCoins_12 : decode cX0_readCoins 12 = .ok (.if_icmp .ge 115, 3) := by decide +kernel
theorem dX0_readCoins_15 : decode cX0_readCoins 15 = .ok (.aload_n 0, 1) := by decide +kernel
theorem dX0_readCoins_16 : decode cX0_readCoins 16 = .ok (.getfield 25, 3) := by decide +kernel
theorem dX0_readCoins_19 : decode cX0_readCoins 19 = .ok (.bipush 45, 2) := by decide +kernel
theorem dX0_readCoins_21 : decode cX0_readCoins 21 = .ok (.if_icmp .ge 106, 3) := by decide +kernel
theorem dX0_readCoins_24 : decode cX0_readCoins 24 = .ok (.aload_n 0, 1) := by decide +kernel
theorem dX0_readCoins_25 : decode cX0_readCoins 25 = .ok (.iload_n 2, 1) := by decide +kernel
theorem dX0_readCoins_26 : decode cX0_readCoins 26 = .ok (.invokevirtual 28, 3) := by decide +kernel
theorem dX0_readCoins_29 : decode cX0_readCoins 29 = .ok (.ifCond .eq 12, 3) := by decide +kernel
theorem dX0_readCoins_32 : decode cX0_readCoins 32 = .ok (.aload_n 0, 1) := by decide +kernel
theorem dX0_readCoins_33 : decode cX0_readCoins 33 = .ok (.iload_n 2, 1) := by decide +kernel
theorem dX0_readCoins_34 : decode cX0_readCoins 34 = .ok (.invokevirtual 32, 3) := by decide +kernel
theorem dX0_readCoins_37 : decode cX0_readCoins 37 = .ok (.iload_n 1, 1) := by decide +kernel
theorem dX0_readCoins_38 : decode cX0_readCoins 38 = .ok (.if_icmp .lt 5, 3) := by decide +kernel
theorem dX0_readCoins_41 : decode cX0_readCoins 41 = .ok (.iload_n 2, 1) := by decide +kernel
theorem dX0_readCoins_42 : decode cX0_readCoins 42 = .ok (.ireturn, 1) := by decide +kernel
theorem dX0_readCoins_43 : decode cX0_readCoins 43 = .ok (.aload_n 0, 1) := by decide +kernel
theorem dX0_readCoins_44 : decode cX0_readCoins 44 = .ok (.iload_n 2, 1) := by decide +kernel
theorem dX0_readCoins_45 : decode cX0_readCoins 45 = .ok (.iconst 1, 1) := by decide +kernel
theorem dX0_readCoins_46 : decode cX0_readCoins 46 = .ok (.iadd, 1) := by decide +kernel
theorem dX0_readCoins_47 : decode cX0_readCoins 47 = .ok (.invokevirtual 36, 3) := by decide +kernel
theorem dX0_readCoins_50 : decode cX0_readCoins 50 = .ok (.istore_n 3, 1) := by decide +kernel
theorem dX0_readCoins_51 : decode cX0_readCoins 51 = .ok (.aload_n 0, 1) := by decide +kernel
theorem dX0_readCoins_52 : decode cX0_readCoins 52 = .ok (.iload_n 3, 1) := by decide +kernel
theorem dX0_readCoins_53 : decode cX0_readCoins 53 = .ok (.iconst 1, 1) := by decide +kernel
theorem dX0_readCoins_54 : decode cX0_readCoins 54 = .ok (.isub, 1) := by decide +kernel
theorem dX0_readCoins_55 : decode cX0_readCoins 55 = .ok (.bipush 119, 2) := by decide +kernel
theorem dX0_readCoins_57 : decode cX0_readCoins 57 = .ok (.invokevirtual 39, 3) := by decide +kernel
theorem dX0_readCoins_60 : decode cX0_readCoins 60 = .ok (.istore 4, 2) := by decide +kernel
theorem dX0_readCoins_62 : decode cX0_readCoins 62 = .ok (.iload 4, 2) := by decide +kernel
theorem dX0_readCoins_64 : decode cX0_readCoins 64 = .ok (.ifCond .ne 13, 3) := by decide +kernel
theorem dX0_readCoins_67 : decode cX0_readCoins 67 = .ok (.aload_n 0, 1) := by decide +kernel
theorem dX0_readCoins_68 : decode cX0_readCoins 68 = .ok (.iload_n 3, 1) := by decide +kernel
theorem dX0_readCoins_69 : decode cX0_readCoins 69 = .ok (.bipush 59, 2) := by decide +kernel
theorem dX0_readCoins_71 : decode cX0_readCoins 71 = .ok (.invokevirtual 39, 3) := by decide +kernel
theorem dX0_readCoins_74 : decode cX0_readCoins 74 = .ok (.ifCond .ne 5, 3) := by decide +kernel
theorem dX0_readCoins_77 : decode cX0_readCoins 77 = .ok (.iload_n 3, 1) := by decide +kernel
theorem dX0_readCoins_78 : decode cX0_readCoins 78 = .ok (.ireturn, 1) := by decide +kernel
theorem dX0_readCoins_79 : decode cX0_readCoins 79 = .ok (.aload_n 0, 1) := by decide +kernel
theorem dX0_readCoins_80 : decode cX0_readCoins 80 = .ok (.getfield 15, 3) := by decide +kernel
theorem dX0_readCoins_83 : decode cX0_readCoins 83 = .ok (.aload_n 0, 1) := by decide +kernel
theorem dX0_readCoins_84 : decode cX0_readCoins 84 = .ok (.getfield 25, 3) := by decide +kernel
theorem dX0_readCoins_87 : decode cX0_readCoins 87 = .ok (.aload_n 0, 1) := by decide +kernel
theorem dX0_readCoins_88 : decode cX0_readCoins 88 = .ok (.iload_n 2, 1) := by decide +kernel
theorem dX0_readCoins_89 : decode cX0_readCoins 89 = .ok (.invokevirtual 32, 3) := by decide +kernel
theorem dX0_readCoins_92 : decode cX0_readCoins 92 = .ok (.iastore, 1) := by decide +kernel
theorem dX0_readCoins_93 : decode cX0_readCoins 93 = .ok (.aload_n 0, 1) := by decide +kernel
theorem dX0_readCoins_94 : decode cX0_readCoins 94 = .ok (.getfield 18, 3) := by decide +kernel
theorem dX0_readCoins_97 : decode cX0_readCoins 97 = .ok (.aload_n 0, 1) := by decide +kernel
theorem dX0_readCoins_98 : decode cX0_readCoins 98 = .ok (.getfield 25, 3) := by decide +kernel
theorem dX0_readCoins_101 : decode cX0_readCoins 101 = .ok (.aload_n 0, 1) := by decide +kernel
theorem dX0_readCoins_102 : decode cX0_readCoins 102 = .ok (.iload_n 2, 1) := by decide +kernel
theorem dX0_readCoins_103 : decode cX0_readCoins 103 = .ok (.iconst 2, 1) := by decide +kernel
theorem dX0_readCoins_104 : decode cX0_readCoins 104 = .ok (.iadd, 1) := by decide +kernel
theorem dX0_readCoins_105 : decode cX0_readCoins 105 = .ok (.iload_n 3, 1) := by decide +kernel
theorem dX0_readCoins_106 : decode cX0_readCoins 106 = .ok (.invokevirtual 43, 3) := by decide +kernel
theorem dX0_readCoins_109 : decode cX0_readCoins 109 = .ok (.iastore, 1) := by decide +kernel
theorem dX0_readCoins_110 : decode cX0_readCoins 110 = .ok (.aload_n 0, 1) := by decide +kernel
theorem dX0_readCoins_111 : decode cX0_readCoins 111 = .ok (.dup, 1) := by decide +kernel
theorem dX0_readCoins_112 : decode cX0_readCoins 112 = .ok (.getfield 25, 3) := by decide +kernel
theorem dX0_readCoins_115 : decode cX0_readCoins 115 = .ok (.iconst 1, 1) := by decide +kernel
theorem dX0_readCoins_116 : decode cX0_readCoins 116 = .ok (.iadd, 1) := by decide +kernel
theorem dX0_readCoins_117 : decode cX0_readCoins 117 = .ok (.putfield 25, 3) := by decide +kernel
theorem dX0_readCoins_120 : decode cX0_readCoins 120 = .ok (.iload_n 3, 1) := by decide +kernel
theorem dX0_readCoins_121 : decode cX0_readCoins 121 = .ok (.iconst 1, 1) := by decide +kernel
theorem dX0_readCoins_122 : decode cX0_readCoins 122 = .ok (.iadd, 1) := by decide +kernel
theorem dX0_readCoins_123 : decode cX0_readCoins 123 = .ok (.istore_n 2, 1) := by decide +kernel
theorem dX0_readCoins_124 : decode cX0_readCoins 124 = .ok (.goto (-117), 3) := by decide +kernel
theorem dX0_readCoins_127 : decode cX0_readCoins 127 = .ok (.iconst (-1), 1) := by decide +kernel
theorem dX0_readCoins_128 : decode cX0_readCoins 128 = .ok (.ireturn, 1) := by decide +kernel
set_option maxRecDepth 20000 in
theorem ggX0_endOfWear_X0_isByte : GoodIn wsX0_endOfWear wsX0_isByte := goodIn_r _ [5, 6, 7, 12, 13, 14, 15, 16] (by decide +kernel) (by decide +kernel)
set_option maxRecDepth 20000 in
theorem gX0_endOfWear_X0_isByte : GoodIn wsX0_endOfWear (wsV RX0 39 RX0 yX0_isByte wsX0_isByte) := goodIn_app (goodIn_of _ (by decide +kernel)) ggX0_endOfWear_X0_isByte
set_option maxRecDepth 20000 in
theorem ggX0_endOfWear_X0_isDigit : GoodIn wsX0_endOfWear wsX0_isDigit := goodIn_r _ [11, 6, 7, 12, 13, 14, 15, 16] (by decide +kernel) (by decide +kernel)
set_option maxRecDepth 20000 in
theorem gX0_endOfWear_X0_isDigit : GoodIn wsX0_endOfWear (wsV RX0 28 RX0 yX0_isDigit wsX0_isDigit) := goodIn_app (goodIn_of _ (by decide +kernel)) ggX0_endOfWear_X0_isDigit
theorem dX0_endOfWear_0 : decode cX0_endOfWear 0 = .ok (.aload_n 0, 1) := by decide +kernel
theorem dX0_endOfWear_1 : decode cX0_endOfWear 1 = .ok (.iload_n 1, 1) := by decide +kernel
theorem dX0_endOfWear_2 : decode cX0_endOfWear 2 = .ok (.bipush 119, 2) := by decide +kernel
theorem dX0_endOfWear_4 : decode cX0_endOfWear 4 = .ok (.invokevirtual 39, 3) := by decide +kernel
theorem dX0_endOfWear_7 : decode cX0_endOfWear 7 = .ok (.ifCond .ne 5, 3) := by decide +kernel
theorem dX0_endOfWear_10 : decode cX0_endOfWear 10 = .ok (.iload_n 1, 1) := by decide +kernel
theorem dX0_endOfWear_11 : decode cX0_endOfWear 11 = .ok (.ireturn, 1) := by decide +kernel
theorem dX0_endOfWear_12 : decode cX0_endOfWear 12 = .ok (.iload_n 1, 1) := by decide +kernel
theorem dX0_endOfWear_13 : decode cX0_endOfWear 13 = .ok (.iconst 1, 1) := by decide +kernel
theorem dX0_endOfWear_14 : decode cX0_endOfWear 14 = .ok (.iadd, 1) := by decide +kernel
theorem dX0_endOfWear_15 : decode cX0_endOfWear 15 = .ok (.istore_n 2, 1) := by decide +kernel
theorem dX0_endOfWear_16 : decode cX0_endOfWear 16 = .ok (.iload_n 2, 1) := by decide +kernel
theorem dX0_endOfWear_17 : decode cX0_endOfWear 17 = .ok (.iload_n 1, 1) := by decide +kernel
theorem dX0_endOfWear_18 : decode cX0_endOfWear 18 = .ok (.iconst 3, 1) := by decide +kernel
theorem dX0_endOfWear_19 : decode cX0_endOfWear 19 = .ok (.iadd, 1) := by decide +kernel
theorem dX0_endOfWear_20 : decode cX0_endOfWear 20 = .ok (.if_icmp .gt 17, 3) := by decide +kernel
theorem dX0_endOfWear_23 : decode cX0_endOfWear 23 = .ok (.aload_n 0, 1) := by decide +kernel
theorem dX0_endOfWear_24 : decode cX0_endOfWear 24 = .ok (.iload_n 2, 1) := by decide +kernel
theorem dX0_endOfWear_25 : decode cX0_endOfWear 25 = .ok (.invokevirtual 28, 3) := by decide +kernel
theorem dX0_endOfWear_28 : decode cX0_endOfWear 28 = .ok (.ifCond .eq 9, 3) := by decide +kernel
theorem dX0_endOfWear_31 : decode cX0_endOfWear 31 = .ok (.iinc 2 1, 3) := by decide +kernel
theorem dX0_endOfWear_34 : decode cX0_endOfWear 34 = .ok (.goto (-18), 3) := by decide +kernel
theorem dX0_endOfWear_37 : decode cX0_endOfWear 37 = .ok (.iload_n 2, 1) := by decide +kernel
theorem dX0_endOfWear_38 : decode cX0_endOfWear 38 = .ok (.ireturn, 1) := by decide +kernel
set_option maxRecDepth 20000 in
theorem ggX0_number_X0_digit : GoodIn wsX0_number wsX0_digit := goodIn_r _ [5, 6, 7, 8, 9, 10, 11] (by decide +kernel) (by decide +kernel)
set_option maxRecDepth 20000 in
theorem gX0_number_X0_digit : GoodIn wsX0_number (wsV RX0 32 RX0 yX0_digit wsX0_digit) := goodIn_app (goodIn_of _ (by decide +kernel)) ggX0_number_X0_digit
theorem dX0_number_0 : decode cX0_number 0 = .ok (.iconst 0, 1) := by decide +kernel
theorem dX0_number_1 : decode cX0_number 1 = .ok (.istore_n 3, 1) := by decide +kernel
theorem dX0_number_2 : decode cX0_number 2 = .ok (.iload_n 1, 1) := by decide +kernel
theorem dX0_number_3 : decode cX0_number 3 = .ok (.istore 4, 2) := by decide +kernel
theorem dX0_number_5 : decode cX0_number 5 = .ok (.iload 4, 2) := by decide +kernel
theorem dX0_number_7 : decode cX0_number 7 = .ok (.iload_n 2, 1) := by decide +kernel
theorem dX0_number_8 : decode cX0_number 8 = .ok (.if_icmp .ge 21, 3) := by decide +kernel
theorem dX0_number_11 : decode cX0_number 11 = .ok (.bipush 10, 2) := by decide +kernel
theorem dX0_number_13 : decode cX0_number 13 = .ok (.iload_n 3, 1) := by decide +kernel
theorem dX0_number_14 : decode cX0_number 14 = .ok (.imul, 1) := by decide +kernel
theorem dX0_number_15 : decode cX0_number 15 = .ok (.aload_n 0, 1) := by decide +kernel
theorem dX0_number_16 : decode cX0_number 16 = .ok (.iload 4, 2) := by decide +kernel
theorem dX0_number_18 : decode cX0_number 18 = .ok (.invokevirtual 32, 3) := by decide +kernel
theorem dX0_number_21 : decode cX0_number 21 = .ok (.iadd, 1) := by decide +kernel
theorem dX0_number_22 : decode cX0_number 22 = .ok (.istore_n 3, 1) := by decide +kernel
theorem dX0_number_23 : decode cX0_number 23 = .ok (.iinc 4 1, 3) := by decide +kernel
theorem dX0_number_26 : decode cX0_number 26 = .ok (.goto (-21), 3) := by decide +kernel
theorem dX0_number_29 : decode cX0_number 29 = .ok (.iload_n 3, 1) := by decide +kernel
theorem dX0_number_30 : decode cX0_number 30 = .ok (.ireturn, 1) := by decide +kernel
theorem dX0_isByte_0 : decode cX0_isByte 0 = .ok (.iload_n 1, 1) := by decide +kernel
theorem dX0_isByte_1 : decode cX0_isByte 1 = .ok (.ifCond .lt 25, 3) := by decide +kernel
theorem dX0_isByte_4 : decode cX0_isByte 4 = .ok (.iload_n 1, 1) := by decide +kernel
theorem dX0_isByte_5 : decode cX0_isByte 5 = .ok (.aload_n 0, 1) := by decide +kernel
theorem dX0_isByte_6 : decode cX0_isByte 6 = .ok (.getfield 21, 3) := by decide +kernel
theorem dX0_isByte_9 : decode cX0_isByte 9 = .ok (.if_icmp .ge 17, 3) := by decide +kernel
theorem dX0_isByte_12 : decode cX0_isByte 12 = .ok (.aload_n 0, 1) := by decide +kernel
theorem dX0_isByte_13 : decode cX0_isByte 13 = .ok (.getfield 9, 3) := by decide +kernel
theorem dX0_isByte_16 : decode cX0_isByte 16 = .ok (.iload_n 1, 1) := by decide +kernel
theorem dX0_isByte_17 : decode cX0_isByte 17 = .ok (.iaload, 1) := by decide +kernel
theorem dX0_isByte_18 : decode cX0_isByte 18 = .ok (.iload_n 2, 1) := by decide +kernel
theorem dX0_isByte_19 : decode cX0_isByte 19 = .ok (.if_icmp .ne 7, 3) := by decide +kernel
theorem dX0_isByte_22 : decode cX0_isByte 22 = .ok (.iconst 1, 1) := by decide +kernel
theorem dX0_isByte_23 : decode cX0_isByte 23 = .ok (.goto 4, 3) := by decide +kernel
theorem dX0_isByte_26 : decode cX0_isByte 26 = .ok (.iconst 0, 1) := by decide +kernel
theorem dX0_isByte_27 : decode cX0_isByte 27 = .ok (.ireturn, 1) := by decide +kernel
theorem dX0_isDigit_0 : decode cX0_isDigit 0 = .ok (.iload_n 1, 1) := by decide +kernel
theorem dX0_isDigit_1 : decode cX0_isDigit 1 = .ok (.ifCond .lt 37, 3) := by decide +kernel
theorem dX0_isDigit_4 : decode cX0_isDigit 4 = .ok (.iload_n 1, 1) := by decide +kernel
theorem dX0_isDigit_5 : decode cX0_isDigit 5 = .ok (.aload_n 0, 1) := by decide +kernel
theorem dX0_isDigit_6 : decode cX0_isDigit 6 = .ok (.getfield 21, 3) := by decide +kernel
theorem dX0_isDigit_9 : decode cX0_isDigit 9 = .ok (.if_icmp .ge 29, 3) := by decide +kernel
theorem dX0_isDigit_12 : decode cX0_isDigit 12 = .ok (.aload_n 0, 1) := by decide +kernel
theorem dX0_isDigit_13 : decode cX0_isDigit 13 = .ok (.getfield 9, 3) := by decide +kernel
theorem dX0_isDigit_16 : decode cX0_isDigit 16 = .ok (.iload_n 1, 1) := by decide +kernel
theorem dX0_isDigit_17 : decode cX0_isDigit 17 = .ok (.iaload, 1) := by decide +kernel
theorem dX0_isDigit_18 : decode cX0_isDigit 18 = .ok (.bipush 48, 2) := by decide +kernel
theorem dX0_isDigit_20 : decode cX0_isDigit 20 = .ok (.if_icmp .lt 18, 3) := by decide +kernel
theorem dX0_isDigit_23 : decode cX0_isDigit 23 = .ok (.aload_n 0, 1) := by decide +kernel
theorem dX0_isDigit_24 : decode cX0_isDigit 24 = .ok (.getfield 9, 3) := by decide +kernel
theorem dX0_isDigit_27 : decode cX0_isDigit 27 = .ok (.iload_n 1, 1) := by decide +kernel
theorem dX0_isDigit_28 : decode cX0_isDigit 28 = .ok (.iaload, 1) := by decide +kernel
theorem dX0_isDigit_29 : decode cX0_isDigit 29 = .ok (.bipush 57, 2) := by decide +kernel
theorem dX0_isDigit_31 : decode cX0_isDigit 31 = .ok (.if_icmp .gt 7, 3) := by decide +kernel
theorem dX0_isDigit_34 : decode cX0_isDigit 34 = .ok (.iconst 1, 1) := by decide +kernel
theorem dX0_isDigit_35 : decode cX0_isDigit 35 = .ok (.goto 4, 3) := by decide +kernel
theorem dX0_isDigit_38 : decode cX0_isDigit 38 = .ok (.iconst 0, 1) := by decide +kernel
theorem dX0_isDigit_39 : decode cX0_isDigit 39 = .ok (.ireturn, 1) := by decide +kernel
theorem dX0_digit_0 : decode cX0_digit 0 = .ok (.aload_n 0, 1) := by decide +kernel
theorem dX0_digit_1 : decode cX0_digit 1 = .ok (.getfield 9, 3) := by decide +kernel
theorem dX0_digit_4 : decode cX0_digit 4 = .ok (.iload_n 1, 1) := by decide +kernel
theorem dX0_digit_5 : decode cX0_digit 5 = .ok (.iaload, 1) := by decide +kernel
theorem dX0_digit_6 : decode cX0_digit 6 = .ok (.bipush 48, 2) := by decide +kernel
theorem dX0_digit_8 : decode cX0_digit 8 = .ok (.isub, 1) := by decide +kernel
theorem dX0_digit_9 : decode cX0_digit 9 = .ok (.ireturn, 1) := by decide +kernel
set_option maxRecDepth 20000 in
theorem ggX1_init_X2_init : GoodIn wsX1_init wsX2_init := goodIn_r _ [10, 11, 2, 3, 12, 13, 14, 15, 16, 17, 18, 19, 20, 21, 22, 23, 27, 28, 29, 30, 31, 32, 33, 34, 35, 36, 37, 38, 39] (by decide +kernel) (by decide +kernel)
set_option maxRecDepth 20000 in
theorem gX1_init_X2_init : GoodIn wsX1_init (wsX2_init) := ggX1_init_X2_init
theorem dX1_init_0 : decode cX1_init 0 = .ok (.aload_n 0, 1) := by decide +kernel
theorem dX1_init_1 : decode cX1_init 1 = .ok (.invokespecial 3, 3) := by decide +kernel
theorem dX1_init_4 : decode cX1_init 4 = .ok (.aload_n 0, 1) := by decide +kernel
theorem dX1_init_5 : decode cX1_init 5 = .ok (.iconst 4, 1) := by decide +kernel
theorem dX1_init_6 : decode cX1_init 6 = .ok (.anewarray 9, 3) := by decide +kernel
theorem dX1_init_9 : decode cX1_init 9 = .ok (.putfield 11, 3) := by decide +kernel
theorem dX1_init_12 : decode cX1_init 12 = .ok (.iconst 0, 1) := by decide +kernel
theorem dX1_init_13 : decode cX1_init 13 = .ok (.istore_n 1, 1) := by decide +kernel
theorem dX1_init_14 : decode cX1_init 14 = .ok (.iload_n 1, 1) := by decide +kernel
theorem dX1_init_15 : decode cX1_init 15 = .ok (.iconst 4, 1) := by decide +kernel
theorem dX1_init_16 : decode cX1_init 16 = .ok (.if_icmp .ge 22, 3) := by decide +kernel
theorem dX1_init_19 : decode cX1_init 19 = .ok (.aload_n 0, 1) := by decide +kernel
theorem dX1_init_20 : decode cX1_init 20 = .ok (.getfield 11, 3) := by decide +kernel
theorem dX1_init_23 : decode cX1_init 23 = .ok (.iload_n 1, 1) := by decide +kernel
theorem dX1_init_24 : decode cX1_init 24 = .ok (.new 9, 3) := by decide +kernel
theorem dX1_init_27 : decode cX1_init 27 = .ok (.dup, 1) := by decide +kernel
theorem dX1_init_28 : decode cX1_init 28 = .ok (.invokespecial 17, 3) := by decide +kernel
theorem dX1_init_31 : decode cX1_init 31 = .ok (.aastore, 1) := by decide +kernel
theorem dX1_init_32 : decode cX1_init 32 = .ok (.iinc 1 1, 3) := by decide +kernel
theorem dX1_init_35 : decode cX1_init 35 = .ok (.goto (-21), 3) := by decide +kernel
theorem dX1_init_38 : decode cX1_init 38 = .ok (.return_, 1) := by decide +kernel
set_option maxRecDepth 20000 in
theorem ggX1_save_X2_copyFrom : GoodIn wsX1_save wsX2_copyFrom := goodIn_r _ [12, 13, 14, 15, 16, 17, 18, 19, 20, 21, 22, 23, 24, 25, 26, 27, 28, 29, 33, 34, 35, 36, 37, 38, 39, 40, 41, 42, 43, 44, 45] (by decide +kernel) (by decide +kernel)
set_option maxRecDepth 20000 in
theorem gX1_save_X2_copyFrom : GoodIn wsX1_save (wsV RX1 22 RX2 yX2_copyFrom wsX2_copyFrom) := goodIn_app (goodIn_of _ (by decide +kernel)) ggX1_save_X2_copyFrom
theorem dX1_save_0 : decode cX1_save 0 = .ok (.aload_n 0, 1) := by decide +kernel
theorem dX1_save_1 : decode cX1_save 1 = .ok (.getfield 11, 3) := by decide +kernel
theorem dX1_save_4 : decode cX1_save 4 = .ok (.aload_n 0, 1) := by decide +kernel
theorem dX1_save_5 : decode cX1_save 5 = .ok (.getfield 18, 3) := by decide +kernel
theorem dX1_save_8 : decode cX1_save 8 = .ok (.aaload, 1) := by decide +kernel
theorem dX1_save_9 : decode cX1_save 9 = .ok (.aload_n 1, 1) := by decide +kernel
theorem dX1_save_10 : decode cX1_save 10 = .ok (.invokevirtual 22, 3) := by decide +kernel
theorem dX1_save_13 : decode cX1_save 13 = .ok (.aload_n 0, 1) := by decide +kernel
theorem dX1_save_14 : decode cX1_save 14 = .ok (.aload_n 0, 1) := by decide +kernel
theorem dX1_save_15 : decode cX1_save 15 = .ok (.getfield 18, 3) := by decide +kernel
theorem dX1_save_18 : decode cX1_save 18 = .ok (.iconst 1, 1) := by decide +kernel
theorem dX1_save_19 : decode cX1_save 19 = .ok (.iadd, 1) := by decide +kernel
theorem dX1_save_20 : decode cX1_save 20 = .ok (.iconst 4, 1) := by decide +kernel
theorem dX1_save_21 : decode cX1_save 21 = .ok (.irem, 1) := by decide +kernel
theorem dX1_save_22 : decode cX1_save 22 = .ok (.putfield 18, 3) := by decide +kernel
theorem dX1_save_25 : decode cX1_save 25 = .ok (.aload_n 0, 1) := by decide +kernel
theorem dX1_save_26 : decode cX1_save 26 = .ok (.iconst 4, 1) := by decide +kernel
theorem dX1_save_27 : decode cX1_save 27 = .ok (.aload_n 0, 1) := by decide +kernel
theorem dX1_save_28 : decode cX1_save 28 = .ok (.getfield 26, 3) := by decide +kernel
theorem dX1_save_31 : decode cX1_save 31 = .ok (.iconst 1, 1) := by decide +kernel
theorem dX1_save_32 : decode cX1_save 32 = .ok (.iadd, 1) := by decide +kernel
theorem dX1_save_33 : decode cX1_save 33 = .ok (.invokestatic 29, 3) := by decide +kernel
theorem dX1_save_36 : decode cX1_save 36 = .ok (.putfield 26, 3) := by decide +kernel
theorem dX1_save_39 : decode cX1_save 39 = .ok (.return_, 1) := by decide +kernel
set_option maxRecDepth 20000 in
theorem ggX1_restore_X2_copyFrom : GoodIn wsX1_restore wsX2_copyFrom := goodIn_r _ [8, 9, 10, 11, 12, 13, 14, 15, 16, 17, 18, 19, 20, 21, 22, 23, 24, 25, 29, 30, 31, 32, 33, 34, 35, 36, 37, 38, 39, 40, 41] (by decide +kernel) (by decide +kernel)
set_option maxRecDepth 20000 in
theorem gX1_restore_X2_copyFrom : GoodIn wsX1_restore (wsV RX1 22 RX2 yX2_copyFrom wsX2_copyFrom) := goodIn_app (goodIn_of _ (by decide +kernel)) ggX1_restore_X2_copyFrom
theorem dX1_restore_0 : decode cX1_restore 0 = .ok (.aload_n 0, 1) := by decide +kernel
theorem dX1_restore_1 : decode cX1_restore 1 = .ok (.aload_n 0, 1) := by decide +kernel
theorem dX1_restore_2 : decode cX1_restore 2 = .ok (.getfield 18, 3) := by decide +kernel
theorem dX1_restore_5 : decode cX1_restore 5 = .ok (.iconst 4, 1) := by decide +kernel
theorem dX1_restore_6 : decode cX1_restore 6 = .ok (.iadd, 1) := by decide +kernel
theorem dX1_restore_7 : decode cX1_restore 7 = .ok (.iconst 1, 1) := by decide +kernel
theorem dX1_restore_8 : decode cX1_restore 8 = .ok (.isub, 1) := by decide +kernel
theorem dX1_restore_9 : decode cX1_restore 9 = .ok (.iconst 4, 1) := by decide +kernel
theorem dX1_restore_10 : decode cX1_restore 10 = .ok (.irem, 1) := by decide +kernel
theorem dX1_restore_11 : decode cX1_restore 11 = .ok (.putfield 18, 3) := by decide +kernel
theorem dX1_restore_14 : decode cX1_restore 14 = .ok (.aload_n 0, 1) := by decide +kernel
theorem dX1_restore_15 : decode cX1_restore 15 = .ok (.dup, 1) := by decide +kernel
theorem dX1_restore_16 : decode cX1_restore 16 = .ok (.getfield 26, 3) := by decide +kernel
theorem dX1_restore_19 : decode cX1_restore 19 = .ok (.iconst 1, 1) := by decide +kernel
theorem dX1_restore_20 : decode cX1_restore 20 = .ok (.isub, 1) := by decide +kernel
theorem dX1_restore_21 : decode cX1_restore 21 = .ok (.putfield 26, 3) := by decide +kernel
theorem dX1_restore_24 : decode cX1_restore 24 = .ok (.aload_n 1, 1) := by decide +kernel
theorem dX1_restore_25 : decode cX1_restore 25 = .ok (.aload_n 0, 1) := by decide +kernel
theorem dX1_restore_26 : decode cX1_restore 26 = .ok (.getfield 11, 3) := by decide +kernel
theorem dX1_restore_29 : decode cX1_restore 29 = .ok (.aload_n 0, 1) := by decide +kernel
theorem dX1_restore_30 : decode cX1_restore 30 = .ok (.getfield 18, 3) := by decide +kernel
theorem dX1_restore_33 : decode cX1_restore 33 = .ok (.aaload, 1) := by decide +kernel
theorem dX1_restore_34 : decode cX1_restore 34 = .ok (.invokevirtual 22, 3) := by decide +kernel
theorem dX1_restore_37 : decode cX1_restore 37 = .ok (.aload_n 0, 1) := by decide +kernel
theorem dX1_restore_38 : decode cX1_restore 38 = .ok (.getfield 26, 3) := by decide +kernel
theorem dX1_restore_41 : decode cX1_restore 41 = .ok (.ireturn, 1) := by decide +kernel
theorem dX2_init_0 : decode cX2_init 0 = .ok (.aload_n 0, 1) := by decide +kernel
theorem dX2_init_1 : decode cX2_init 1 = .ok (.invokespecial 3, 3) := by decide +kernel
theorem dX2_init_4 : decode cX2_init 4 = .ok (.aload_n 0, 1) := by decide +kernel
theorem dX2_init_5 : decode cX2_init 5 = .ok (.bipush 6, 2) := by decide +kernel
theorem dX2_init_7 : decode cX2_init 7 = .ok (.newarray .int, 2) := by decide +kernel
theorem dX2_init_9 : decode cX2_init 9 = .ok (.putfield 9, 3) := by decide +kernel
theorem dX2_init_12 : decode cX2_init 12 = .ok (.aload_n 0, 1) := by decide +kernel
theorem dX2_init_13 : decode cX2_init 13 = .ok (.bipush 6, 2) := by decide +kernel
theorem dX2_init_15 : decode cX2_init 15 = .ok (.newarray .int, 2) := by decide +kernel
theorem dX2_init_17 : decode cX2_init 17 = .ok (.putfield 15, 3) := by decide +kernel
theorem dX2_init_20 : decode cX2_init 20 = .ok (.aload_n 0, 1) := by decide +kernel
theorem dX2_init_21 : decode cX2_init 21 = .ok (.bipush 6, 2) := by decide +kernel
theorem dX2_init_23 : decode cX2_init 23 = .ok (.newarray .int, 2) := by decide +kernel
theorem dX2_init_25 : decode cX2_init 25 = .ok (.putfield 18, 3) := by decide +kernel
theorem dX2_init_28 : decode cX2_init 28 = .ok (.aload_n 0, 1) := by decide +kernel
theorem dX2_init_29 : decode cX2_init 29 = .ok (.bipush 6, 2) := by decide +kernel
theorem dX2_init_31 : decode cX2_init 31 = .ok (.newarray .int, 2) := by decide +kernel
theorem dX2_init_33 : decode cX2_init 33 = .ok (.putfield 21, 3) := by decide +kernel
theorem dX2_init_36 : decode cX2_init 36 = .ok (.aload_n 0, 1) := by decide +kernel
theorem dX2_init_37 : decode cX2_init 37 = .ok (.bipush 6, 2) := by decide +kernel
theorem dX2_init_39 : decode cX2_init 39 = .ok (.newarray .int, 2) := by decide +kernel
theorem dX2_init_41 : decode cX2_init 41 = .ok (.putfield 24, 3) := by decide +kernel
theorem dX2_init_44 : decode cX2_init 44 = .ok (.aload_n 0, 1) := by decide +kernel
theorem dX2_init_45 : decode cX2_init 45 = .ok (.bipush 6, 2) := by decide +kernel
theorem dX2_init_47 : decode cX2_init 47 = .ok (.newarray .int, 2) := by decide +kernel
theorem dX2_init_49 : decode cX2_init 49 = .ok (.putfield 27, 3) := by decide +kernel
theorem dX2_init_52 : decode cX2_init 52 = .ok (.aload_n 0, 1) := by decide +kernel
theorem dX2_init_53 : decode cX2_init 53 = .ok (.bipush 6, 2) := by decide +kernel
theorem dX2_init_55 : decode cX2_init 55 = .ok (.newarray .int, 2) := by decide +kernel
theorem dX2_init_57 : decode cX2_init 57 = .ok (.putfield 30, 3) := by decide +kernel
theorem dX2_init_60 : decode cX2_init 60 = .ok (.aload_n 0, 1) := by decide +kernel
theorem dX2_init_61 : decode cX2_init 61 = .ok (.bipush 6, 2) := by decide +kernel
theorem dX2_init_63 : decode cX2_init 63 = .ok (.newarray .int, 2) := by decide +kernel
theorem dX2_init_65 : decode cX2_init 65 = .ok (.putfield 33, 3) := by decide +kernel
theorem dX2_init_68 : decode cX2_init 68 = .ok (.aload_n 0, 1) := by decide +kernel
theorem dX2_init_69 : decode cX2_init 69 = .ok (.bipush 6, 2) := by decide +kernel
theorem dX2_init_71 : decode cX2_init 71 = .ok (.newarray .int, 2) := by decide +kernel
theorem dX2_init_73 : decode cX2_init 73 = .ok (.putfield 36, 3) := by decide +kernel
theorem dX2_init_76 : decode cX2_init 76 = .ok (.aload_n 0, 1) := by decide +kernel
theorem dX2_init_77 : decode cX2_init 77 = .ok (.bipush 6, 2) := by decide +kernel
theorem dX2_init_79 : decode cX2_init 79 = .ok (.newarray .int, 2) := by decide +kernel
theorem dX2_init_81 : decode cX2_init 81 = .ok (.putfield 39, 3) := by decide +kernel
theorem dX2_init_84 : decode cX2_init 84 = .ok (.aload_n 0, 1) := by decide +kernel
theorem dX2_init_85 : decode cX2_init 85 = .ok (.bipush 36, 2) := by decide +kernel
theorem dX2_init_87 : decode cX2_init 87 = .ok (.newarray .int, 2) := by decide +kernel
theorem dX2_init_89 : decode cX2_init 89 = .ok (.putfield 42, 3) := by decide +kernel
theorem dX2_init_92 : decode cX2_init 92 = .ok (.iconst 0, 1) := by decide +kernel
theorem dX2_init_93 : decode cX2_init 93 = .ok (.istore_n 1, 1) := by decide +kernel
theorem dX2_init_94 : decode cX2_init 94 = .ok (.iload_n 1, 1) := by decide +kernel
theorem dX2_init_95 : decode cX2_init 95 = .ok (.bipush 6, 2) := by decide +kernel
theorem dX2_init_97 : decode cX2_init 97 = .ok (.if_icmp .ge 38, 3) := by decide +kernel
theorem dX2_init_100 : decode cX2_init 100 = .ok (.aload_n 0, 1) := by decide +kernel
theorem dX2_init_101 : decode cX2_init 101 = .ok (.getfield 27, 3) := by decide +kernel
theorem dX2_init_104 : decode cX2_init 104 = .ok (.iload_n 1, 1) := by decide +kernel
theorem dX2_init_105 : decode cX2_init 105 = .ok (.sipush 1500, 3) := by decide +kernel
theorem dX2_init_108 : decode cX2_init 108 = .ok (.sipush 400, 3) := by decide +kernel
theorem dX2_init_111 : decode cX2_init 111 = .ok (.iload_n 1, 1) := by decide +kernel
theorem dX2_init_112 : decode cX2_init 112 = .ok (.imul, 1) := by decide +kernel
theorem dX2_init_113 : decode cX2_init 113 = .ok (.iadd, 1) := by decide +kernel
theorem dX2_init_114 : decode cX2_init 114 = .ok (.iastore, 1) := by decide +kernel
theorem dX2_init_115 : decode cX2_init 115 = .ok (.aload_n 0, 1) := by decide +kernel
theorem dX2_init_116 : decode cX2_init 116 = .ok (.getfield 33, 3) := by decide +kernel
theorem dX2_init_119 : decode cX2_init 119 = .ok (.iload_n 1, 1) := by decide +kernel
theorem dX2_init_120 : decode cX2_init 120 = .ok (.iconst (-1), 1) := by decide +kernel
theorem dX2_init_121 : decode cX2_init 121 = .ok (.iastore, 1) := by decide +kernel
theorem dX2_init_122 : decode cX2_init 122 = .ok (.aload_n 0, 1) := by decide +kernel
theorem dX2_init_123 : decode cX2_init 123 = .ok (.getfield 36, 3) := by decide +kernel
theorem dX2_init_126 : decode cX2_init 126 = .ok (.iload_n 1, 1) := by decide +kernel
theorem dX2_init_127 : decode cX2_init 127 = .ok (.iconst (-1), 1) := by decide +kernel
theorem dX2_init_128 : decode cX2_init 128 = .ok (.iastore, 1) := by decide +kernel
theorem dX2_init_129 : decode cX2_init 129 = .ok (.iinc 1 1, 3) := by decide +kernel
theorem dX2_init_132 : decode cX2_init 132 = .ok (.goto (-38), 3) := by decide +kernel
theorem dX2_init_135 : decode cX2_init 135 = .ok (.return_, 1) := by decide +kernel
theorem dX2_copyFrom_0 : decode cX2_copyFrom 0 = .ok (.aload_n 0, 1) := by decide +kernel
theorem dX2_copyFrom_1 : decode cX2_copyFrom 1 = .ok (.aload_n 1, 1) := by decide +kernel
theorem dX2_copyFrom_2 : decode cX2_copyFrom 2 = .ok (.getfield 45, 3) := by decide +kernel
theorem dX2_copyFrom_5 : decode cX2_copyFrom 5 = .ok (.putfield 45, 3) := by decide +kernel
theorem dX2_copyFrom_8 : decode cX2_copyFrom 8 = .ok (.aload_n 1, 1) := by decide +kernel
theorem dX2_copyFrom_9 : decode cX2_copyFrom 9 = .ok (.getfield 9, 3) := by decide +kernel
theorem dX2_copyFrom_12 : decode cX2_copyFrom 12 = .ok (.iconst 0, 1) := by decide +kernel
theorem dX2_copyFrom_13 : decode cX2_copyFrom 13 = .ok (.aload_n 0, 1) := by decide +kernel
theorem dX2_copyFrom_14 : decode cX2_copyFrom 14 = .ok (.getfield 9, 3) := by decide +kernel
theorem dX2_copyFrom_17 : decode cX2_copyFrom 17 = .ok (.iconst 0, 1) := by decide +kernel
theorem dX2_copyFrom_18 : decode cX2_copyFrom 18 = .ok (.bipush 6, 2) := by decide +kernel
theorem dX2_copyFrom_20 : decode cX2_copyFrom 20 = .ok (.invokestatic 49, 3) := by decide +kernel
theorem dX2_copyFrom_23 : decode cX2_copyFrom 23 = .ok (.aload_n 1, 1) := by decide +kernel
theorem dX2_copyFrom_24 : decode cX2_copyFrom 24 = .ok (.getfield 15, 3) := by decide +kernel
theorem dX2_copyFrom_27 : decode cX2_copyFrom 27 = .ok (.iconst 0, 1) := by decide +kernel
theorem dX2_copyFrom_28 : decode cX2_copyFrom 28 = .ok (.aload_n 0, 1) := by decide +kernel
theorem dX2_copyFrom_29 : decode cX2_copyFrom 29 = .ok (.getfield 15, 3) := by decide +kernel
theorem dX2_copyFrom_32 : decode cX2_copyFrom 32 = .ok (.iconst 0, 1) := by decide +kernel
theorem dX2_copyFrom_33 : decode cX2_copyFrom 33 = .ok (.bipush 6, 2) := by decide +kernel
theorem dX2_copyFrom_35 : decode cX2_copyFrom 35 = .ok (.invokestatic 49, 3) := by decide +kernel
theorem dX2_copyFrom_38 : decode cX2_copyFrom 38 = .ok (.aload_n 1, 1) := by decide +kernel
theorem dX2_copyFrom_39 : decode cX2_copyFrom 39 = .ok (.getfield 18, 3) := by decide +kernel
theorem dX2_copyFrom_42 : decode cX2_copyFrom 42 = .ok (.iconst 0, 1) := by decide +kernel
theorem dX2_copyFrom_43 : decode cX2_copyFrom 43 = .ok (.aload_n 0, 1) := by decide +kernel
theorem dX2_copyFrom_44 : decode cX2_copyFrom 44 = .ok (.getfield 18, 3) := by decide +kernel
theorem dX2_copyFrom_47 : decode cX2_copyFrom 47 = .ok (.iconst 0, 1) := by decide +kernel
theorem dX2_copyFrom_48 : decode cX2_copyFrom 48 = .ok (.bipush 6, 2) := by decide +kernel
theorem dX2_copyFrom_50 : decode cX2_copyFrom 50 = .ok (.invokestatic 49, 3) := by decide +kernel
theorem dX2_copyFrom_53 : decode cX2_copyFrom 53 = .ok (.aload_n 1, 1) := by decide +kernel
theorem dX2_copyFrom_54 : decode cX2_copyFrom 54 = .ok (.getfield 21, 3) := by decide +kernel
theorem dX2_copyFrom_57 : decode cX2_copyFrom 57 = .ok (.iconst 0, 1) := by decide +kernel
theorem dX2_copyFrom_58 : decode cX2_copyFrom 58 = .ok (.aload_n 0, 1) := by decide +kernel
theorem dX2_copyFrom_59 : decode cX2_copyFrom 59 = .ok (.getfield 21, 3) := by decide +kernel
theorem dX2_copyFrom_62 : decode cX2_copyFrom 62 = .ok (.iconst 0, 1) := by decide +kernel
theorem dX2_copyFrom_63 : decode cX2_copyFrom 63 = .ok (.bipush 6, 2) := by decide +kernel
theorem dX2_copyFrom_65 : decode cX2_copyFrom 65 = .ok (.invokestatic 49, 3) := by decide +kernel
theorem dX2_copyFrom_68 : decode cX2_copyFrom 68 = .ok (.aload_n 1, 1) := by decide +kernel
theorem dX2_copyFrom_69 : decode cX2_copyFrom 69 = .ok (.getfield 24, 3) := by decide +kernel
theorem dX2_copyFrom_72 : decode cX2_copyFrom 72 = .ok (.iconst 0, 1) := by decide +kernel
theorem dX2_copyFrom_73 : decode cX2_copyFrom 73 = .ok (.aload_n 0, 1) := by decide +kernel
theorem dX2_copyFrom_74 : decode cX2_copyFrom 74 = .ok (.getfield 24, 3) := by decide +kernel
theorem dX2_copyFrom_77 : decode cX2_copyFrom 77 = .ok (.iconst 0, 1) := by decide +kernel
theorem dX2_copyFrom_78 : decode cX2_copyFrom 78 = .ok (.bipush 6, 2) := by decide +kernel
theorem dX2_copyFrom_80 : decode cX2_copyFrom 80 = .ok (.invokestatic 49, 3) := by decide +kernel
theorem dX2_copyFrom_83 : decode cX2_copyFrom 83 = .ok (.aload_n 1, 1) := by decide +kernel
theorem dX2_copyFrom_84 : decode cX2_copyFrom 84 = .ok (.getfield 27, 3) := by decide +kernel
theorem dX2_copyFrom_87 : decode cX2_copyFrom 87 = .ok (.iconst 0, 1) := by decide +kernel
theorem dX2_copyFrom_88 : decode cX2_copyFrom 88 = .ok (.aload_n 0, 1) := by decide +kernel
theorem dX2_copyFrom_89 : decode cX2_copyFrom 89 = .ok (.getfield 27, 3) := by decide +kernel
theorem dX2_copyFrom_92 : decode cX2_copyFrom 92 = .ok (.iconst 0, 1) := by decide +kernel
theorem dX2_copyFrom_93 : decode cX2_copyFrom 93 = .ok (.bipush 6, 2) := by decide +kernel
theorem dX2_copyFrom_95 : decode cX2_copyFrom 95 = .ok (.invokestatic 49, 3) := by decide +kernel
theorem dX2_copyFrom_98 : decode cX2_copyFrom 98 = .ok (.aload_n 1, 1) := by decide +kernel
theorem dX2_copyFrom_99 : decode cX2_copyFrom 99 = .ok (.getfield 30, 3) := by decide +kernel
theorem dX2_copyFrom_102 : decode cX2_copyFrom 102 = .ok (.iconst 0, 1) := by decide +kernel
theorem dX2_copyFrom_103 : decode cX2_copyFrom 103 = .ok (.aload_n 0, 1) := by decide +kernel
theorem dX2_copyFrom_104 : decode cX2_copyFrom 104 = .ok (.getfield 30, 3) := by decide +kernel
theorem dX2_copyFrom_107 : decode cX2_copyFrom 107 = .ok (.iconst 0, 1) := by decide +kernel
theorem dX2_copyFrom_108 : decode cX2_copyFrom 108 = .ok (.bipush 6, 2) := by decide +kernel
theorem dX2_copyFrom_110 : decode cX2_copyFrom 110 = .ok (.invokestatic 49, 3) := by decide +kernel
theorem dX2_copyFrom_113 : decode cX2_copyFrom 113 = .ok (.aload_n 1, 1) := by decide +kernel
theorem dX2_copyFrom_114 : decode cX2_copyFrom 114 = .ok (.getfield 33, 3) := by decide +kernel
theorem dX2_copyFrom_117 : decode cX2_copyFrom 117 = .ok (.iconst 0, 1) := by decide +kernel
theorem dX2_copyFrom_118 : decode cX2_copyFrom 118 = .ok (.aload_n 0, 1) := by decide +kernel
theorem dX2_copyFrom_119 : decode cX2_copyFrom 119 = .ok (.getfield 33, 3) := by decide +kernel
theorem dX2_copyFrom_122 : decode cX2_copyFrom 122 = .ok (.iconst 0, 1) := by decide +kernel
theorem dX2_copyFrom_123 : decode cX2_copyFrom 123 = .ok (.bipush 6, 2) := by decide +kernel
theorem dX2_copyFrom_125 : decode cX2_copyFrom 125 = .ok (.invokestatic 49, 3) := by decide +kernel
theorem dX2_copyFrom_128 : decode cX2_copyFrom 128 = .ok (.aload_n 1, 1) := by decide +kernel
theorem dX2_copyFrom_129 : decode cX2_copyFrom 129 = .ok (.getfield 36, 3) := by decide +kernel
theorem dX2_copyFrom_132 : decode cX2_copyFrom 132 = .ok (.iconst 0, 1) := by decide +kernel
theorem dX2_copyFrom_133 : decode cX2_copyFrom 133 = .ok (.aload_n 0, 1) := by decide +kernel
theorem dX2_copyFrom_134 : decode cX2_copyFrom 134 = .ok (.getfield 36, 3) := by decide +kernel
theorem dX2_copyFrom_137 : decode cX2_copyFrom 137 = .ok (.iconst 0, 1) := by decide +kernel
theorem dX2_copyFrom_138 : decode cX2_copyFrom 138 = .ok (.bipush 6, 2) := by decide +kernel
theorem dX2_copyFrom_140 : decode cX2_copyFrom 140 = .ok (.invokestatic 49, 3) := by decide +kernel
theorem dX2_copyFrom_143 : decode cX2_copyFrom 143 = .ok (.aload_n 1, 1) := by decide +kernel
theorem dX2_copyFrom_144 : decode cX2_copyFrom 144 = .ok (.getfield 39, 3) := by decide +kernel
theorem dX2_copyFrom_147 : decode cX2_copyFrom 147 = .ok (.iconst 0, 1) := by decide +kernel
theorem dX2_copyFrom_148 : decode cX2_copyFrom 148 = .ok (.aload_n 0, 1) := by decide +kernel
theorem dX2_copyFrom_149 : decode cX2_copyFrom 149 = .ok (.getfield 39, 3) := by decide +kernel
theorem dX2_copyFrom_152 : decode cX2_copyFrom 152 = .ok (.iconst 0, 1) := by decide +kernel
theorem dX2_copyFrom_153 : decode cX2_copyFrom 153 = .ok (.bipush 6, 2) := by decide +kernel
theorem dX2_copyFrom_155 : decode cX2_copyFrom 155 = .ok (.invokestatic 49, 3) := by decide +kernel
theorem dX2_copyFrom_158 : decode cX2_copyFrom 158 = .ok (.aload_n 1, 1) := by decide +kernel
theorem dX2_copyFrom_159 : decode cX2_copyFrom 159 = .ok (.getfield 42, 3) := by decide +kernel
theorem dX2_copyFrom_162 : decode cX2_copyFrom 162 = .ok (.iconst 0, 1) := by decide +kernel
theorem dX2_copyFrom_163 : decode cX2_copyFrom 163 = .ok (.aload_n 0, 1) := by decide +kernel
theorem dX2_copyFrom_164 : decode cX2_copyFrom 164 = .ok (.getfield 42, 3) := by decide +kernel
theorem dX2_copyFrom_167 : decode cX2_copyFrom 167 = .ok (.iconst 0, 1) := by decide +kernel
theorem dX2_copyFrom_168 : decode cX2_copyFrom 168 = .ok (.bipush 36, 2) := by decide +kernel
theorem dX2_copyFrom_170 : decode cX2_copyFrom 170 = .ok (.invokestatic 49, 3) := by decide +kernel
theorem dX2_copyFrom_173 : decode cX2_copyFrom 173 = .ok (.aload_n 0, 1) := by decide +kernel
theorem dX2_copyFrom_174 : decode cX2_copyFrom 174 = .ok (.aload_n 1, 1) := by decide +kernel
theorem dX2_copyFrom_175 : decode cX2_copyFrom 175 = .ok (.getfield 55, 3) := by decide +kernel
theorem dX2_copyFrom_178 : decode cX2_copyFrom 178 = .ok (.putfield 55, 3) := by decide +kernel
theorem dX2_copyFrom_181 : decode cX2_copyFrom 181 = .ok (.return_, 1) := by decide +kernel
theorem dX2_putKind_0 : decode cX2_putKind 0 = .ok (.aload_n 0, 1) := by decide +kernel
theorem dX2_putKind_1 : decode cX2_putKind 1 = .ok (.getfield 45, 3) := by decide +kernel
theorem dX2_putKind_4 : decode cX2_putKind 4 = .ok (.istore 4, 2) := by decide +kernel
theorem dX2_putKind_6 : decode cX2_putKind 6 = .ok (.aload_n 0, 1) := by decide +kernel
theorem dX2_putKind_7 : decode cX2_putKind 7 = .ok (.getfield 9, 3) := by decide +kernel
theorem dX2_putKind_10 : decode cX2_putKind 10 = .ok (.iload 4, 2) := by decide +kernel
theorem dX2_putKind_12 : decode cX2_putKind 12 = .ok (.iload_n 1, 1) := by decide +kernel
theorem dX2_putKind_13 : decode cX2_putKind 13 = .ok (.iastore, 1) := by decide +kernel
theorem dX2_putKind_14 : decode cX2_putKind 14 = .ok (.aload_n 0, 1) := by decide +kernel
theorem dX2_putKind_15 : decode cX2_putKind 15 = .ok (.getfield 15, 3) := by decide +kernel
theorem dX2_putKind_18 : decode cX2_putKind 18 = .ok (.iload 4, 2) := by decide +kernel
theorem dX2_putKind_20 : decode cX2_putKind 20 = .ok (.iload_n 2, 1) := by decide +kernel
theorem dX2_putKind_21 : decode cX2_putKind 21 = .ok (.iastore, 1) := by decide +kernel
theorem dX2_putKind_22 : decode cX2_putKind 22 = .ok (.aload_n 0, 1) := by decide +kernel
theorem dX2_putKind_23 : decode cX2_putKind 23 = .ok (.getfield 18, 3) := by decide +kernel
theorem dX2_putKind_26 : decode cX2_putKind 26 = .ok (.iload 4, 2) := by decide +kernel
theorem dX2_putKind_28 : decode cX2_putKind 28 = .ok (.iload_n 3, 1) := by decide +kernel
theorem dX2_putKind_29 : decode cX2_putKind 29 = .ok (.iastore, 1) := by decide +kernel
theorem dX2_putKind_30 : decode cX2_putKind 30 = .ok (.aload_n 0, 1) := by decide +kernel
theorem dX2_putKind_31 : decode cX2_putKind 31 = .ok (.dup, 1) := by decide +kernel
theorem dX2_putKind_32 : decode cX2_putKind 32 = .ok (.getfield 45, 3) := by decide +kernel
theorem dX2_putKind_35 : decode cX2_putKind 35 = .ok (.iconst 1, 1) := by decide +kernel
theorem dX2_putKind_36 : decode cX2_putKind 36 = .ok (.iadd, 1) := by decide +kernel
theorem dX2_putKind_37 : decode cX2_putKind 37 = .ok (.putfield 45, 3) := by decide +kernel
theorem dX2_putKind_40 : decode cX2_putKind 40 = .ok (.iload 4, 2) := by decide +kernel
theorem dX2_putKind_42 : decode cX2_putKind 42 = .ok (.ireturn, 1) := by decide +kernel
theorem dX2_isStuck_0 : decode cX2_isStuck 0 = .ok (.aload_n 0, 1) := by decide +kernel
theorem dX2_isStuck_1 : decode cX2_isStuck 1 = .ok (.getfield 33, 3) := by decide +kernel
theorem dX2_isStuck_4 : decode cX2_isStuck 4 = .ok (.iload_n 1, 1) := by decide +kernel
theorem dX2_isStuck_5 : decode cX2_isStuck 5 = .ok (.iaload, 1) := by decide +kernel
theorem dX2_isStuck_6 : decode cX2_isStuck 6 = .ok (.iconst (-1), 1) := by decide +kernel
theorem dX2_isStuck_7 : decode cX2_isStuck 7 = .ok (.if_icmp .eq 7, 3) := by decide +kernel
theorem dX2_isStuck_10 : decode cX2_isStuck 10 = .ok (.iconst 1, 1) := by decide +kernel
theorem dX2_isStuck_11 : decode cX2_isStuck 11 = .ok (.goto 4, 3) := by decide +kernel
theorem dX2_isStuck_14 : decode cX2_isStuck 14 = .ok (.iconst 0, 1) := by decide +kernel
theorem dX2_isStuck_15 : decode cX2_isStuck 15 = .ok (.ireturn, 1) := by decide +kernel
set_option maxRecDepth 20000 in
theorem ggX2_isFull_X2_coinsIn : GoodIn wsX2_isFull wsX2_coinsIn := goodIn_r _ [5, 6, 7, 8, 9, 10, 11, 12, 13, 14, 15, 16, 17, 18, 19] (by decide +kernel) (by decide +kernel)
set_option maxRecDepth 20000 in
theorem gX2_isFull_X2_coinsIn : GoodIn wsX2_isFull (wsV RX2 58 RX2 yX2_coinsIn wsX2_coinsIn) := goodIn_app (goodIn_of _ (by decide +kernel)) ggX2_isFull_X2_coinsIn
theorem dX2_isFull_0 : decode cX2_isFull 0 = .ok (.aload_n 0, 1) := by decide +kernel
theorem dX2_isFull_1 : decode cX2_isFull 1 = .ok (.iload_n 1, 1) := by decide +kernel
theorem dX2_isFull_2 : decode cX2_isFull 2 = .ok (.invokevirtual 58, 3) := by decide +kernel
theorem dX2_isFull_5 : decode cX2_isFull 5 = .ok (.bipush 40, 2) := by decide +kernel
theorem dX2_isFull_7 : decode cX2_isFull 7 = .ok (.if_icmp .lt 7, 3) := by decide +kernel
theorem dX2_isFull_10 : decode cX2_isFull 10 = .ok (.iconst 1, 1) := by decide +kernel
theorem dX2_isFull_11 : decode cX2_isFull 11 = .ok (.goto 4, 3) := by decide +kernel
theorem dX2_isFull_14 : decode cX2_isFull 14 = .ok (.iconst 0, 1) := by decide +kernel
theorem dX2_isFull_15 : decode cX2_isFull 15 = .ok (.ireturn, 1) := by decide +kernel
set_option maxRecDepth 20000 in
theorem ggX2_placeFor_X2_wearAt : GoodIn wsX2_placeFor wsX2_wearAt := goodIn_r _ [6, 7, 8, 9, 10] (by decide +kernel) (by decide +kernel)
set_option maxRecDepth 20000 in
theorem gX2_placeFor_X2_wearAt : GoodIn wsX2_placeFor (wsV RX2 62 RX2 yX2_wearAt wsX2_wearAt) := goodIn_app (goodIn_of _ (by decide +kernel)) ggX2_placeFor_X2_wearAt
set_option maxRecDepth 20000 in
theorem ggX2_placeFor_X2_size : GoodIn wsX2_placeFor wsX2_size := goodIn_r _ [14, 15, 16, 17, 9, 18, 33, 34, 35, 36, 37, 38, 39, 40, 41, 42, 43, 44, 45] (by decide +kernel) (by decide +kernel)
set_option maxRecDepth 20000 in
theorem gX2_placeFor_X2_size : GoodIn wsX2_placeFor (wsV RX2 66 RX2 yX2_size wsX2_size) := goodIn_app (goodIn_of _ (by decide +kernel)) ggX2_placeFor_X2_size
set_option maxRecDepth 20000 in
theorem ggX2_placeFor_X2_isStuck : GoodIn wsX2_placeFor wsX2_isStuck := goodIn_r _ [22, 23, 33, 34, 35, 36, 37, 38, 39, 40, 41, 42, 43, 44, 45] (by decide +kernel) (by decide +kernel)
set_option maxRecDepth 20000 in
theorem gX2_placeFor_X2_isStuck : GoodIn wsX2_placeFor (wsV RX2 69 RX2 yX2_isStuck wsX2_isStuck) := goodIn_app (goodIn_of _ (by decide +kernel)) ggX2_placeFor_X2_isStuck
set_option maxRecDepth 20000 in
theorem ggX2_placeFor_X2_isFull : GoodIn wsX2_placeFor wsX2_isFull := goodIn_r _ [27, 28, 29, 30, 5, 31, 32, 33, 34, 35, 36, 37, 38, 39, 40, 41, 42, 43, 44, 45] (by decide +kernel) (by decide +kernel)
set_option maxRecDepth 20000 in
theorem gX2_placeFor_X2_isFull : GoodIn wsX2_placeFor (wsV RX2 73 RX2 yX2_isFull wsX2_isFull) := goodIn_app (goodIn_of _ (by decide +kernel)) ggX2_placeFor_X2_isFull
theorem dX2_placeFor_0 : decode cX2_placeFor 0 = .ok (.iconst 0, 1) := by decide +kernel
theorem dX2_placeFor_1 : decode cX2_placeFor 1 = .ok (.istore_n 3, 1) := by decide +kernel
theorem dX2_placeFor_2 : decode cX2_placeFor 2 = .ok (.iload_n 3, 1) := by decide +kernel
theorem dX2_placeFor_3 : decode cX2_placeFor 3 = .ok (.bipush 6, 2) := by decide +kernel
theorem dX2_placeFor_5 : decode cX2_placeFor 5 = .ok (.if_icmp .ge 77, 3) := by decide +kernel
theorem dX2_placeFor_8 : decode cX2_placeFor 8 = .ok (.aload_n 0, 1) := by decide +kernel
theorem dX2_placeFor_9 : decode cX2_placeFor 9 = .ok (.getfield 27, 3) := by decide +kernel
theorem dX2_placeFor_12 : decode cX2_placeFor 12 = .ok (.iload_n 3, 1) := by decide +kernel
theorem dX2_placeFor_13 : decode cX2_placeFor 13 = .ok (.iaload, 1) := by decide +kernel
theorem dX2_placeFor_14 : decode cX2_placeFor 14 = .ok (.aload_n 0, 1) := by decide +kernel
theorem dX2_placeFor_15 : decode cX2_placeFor 15 = .ok (.iload_n 1, 1) := by decide +kernel
theorem dX2_placeFor_16 : decode cX2_placeFor 16 = .ok (.aload_n 0, 1) := by decide +kernel
theorem dX2_placeFor_17 : decode cX2_placeFor 17 = .ok (.iload_n 3, 1) := by decide +kernel
theorem dX2_placeFor_18 : decode cX2_placeFor 18 = .ok (.iload_n 2, 1) := by decide +kernel
theorem dX2_placeFor_19 : decode cX2_placeFor 19 = .ok (.invokevirtual 62, 3) := by decide +kernel
theorem dX2_placeFor_22 : decode cX2_placeFor 22 = .ok (.invokevirtual 66, 3) := by decide +kernel
theorem dX2_placeFor_25 : decode cX2_placeFor 25 = .ok (.isub, 1) := by decide +kernel
theorem dX2_placeFor_26 : decode cX2_placeFor 26 = .ok (.istore 4, 2) := by decide +kernel
theorem dX2_placeFor_28 : decode cX2_placeFor 28 = .ok (.iload 4, 2) := by decide +kernel
theorem dX2_placeFor_30 : decode cX2_placeFor 30 = .ok (.ifCond .le 19, 3) := by decide +kernel
theorem dX2_placeFor_33 : decode cX2_placeFor 33 = .ok (.aload_n 0, 1) := by decide +kernel
theorem dX2_placeFor_34 : decode cX2_placeFor 34 = .ok (.iload_n 3, 1) := by decide +kernel
theorem dX2_placeFor_35 : decode cX2_placeFor 35 = .ok (.invokevirtual 69, 3) := by decide +kernel
theorem dX2_placeFor_38 : decode cX2_placeFor 38 = .ok (.ifCond .ne 11, 3) := by decide +kernel
theorem dX2_placeFor_41 : decode cX2_placeFor 41 = .ok (.aload_n 0, 1) := by decide +kernel
theorem dX2_placeFor_42 : decode cX2_placeFor 42 = .ok (.iload_n 3, 1) := by decide +kernel
theorem dX2_placeFor_43 : decode cX2_placeFor 43 = .ok (.invokevirtual 73, 3) := by decide +kernel
theorem dX2_placeFor_46 : decode cX2_placeFor 46 = .ok (.ifCond .eq 7, 3) := by decide +kernel
theorem dX2_placeFor_49 : decode cX2_placeFor 49 = .ok (.iconst 1, 1) := by decide +kernel
theorem dX2_placeFor_50 : decode cX2_placeFor 50 = .ok (.goto 4, 3) := by decide +kernel
theorem dX2_placeFor_53 : decode cX2_placeFor 53 = .ok (.iconst 0, 1) := by decide +kernel
theorem dX2_placeFor_54 : decode cX2_placeFor 54 = .ok (.istore 5, 2) := by decide +kernel
theorem dX2_placeFor_56 : decode cX2_placeFor 56 = .ok (.iload 5, 2) := by decide +kernel
theorem dX2_placeFor_58 : decode cX2_placeFor 58 = .ok (.ifCond .ne 18, 3) := by decide +kernel
theorem dX2_placeFor_61 : decode cX2_placeFor 61 = .ok (.iload 4, 2) := by decide +kernel
theorem dX2_placeFor_63 : decode cX2_placeFor 63 = .ok (.iconst 5, 1) := by decide +kernel
theorem dX2_placeFor_64 : decode cX2_placeFor 64 = .ok (.if_icmp .ge 10, 3) := by decide +kernel
theorem dX2_placeFor_67 : decode cX2_placeFor 67 = .ok (.bipush 10, 2) := by decide +kernel
theorem dX2_placeFor_69 : decode cX2_placeFor 69 = .ok (.iload_n 3, 1) := by decide +kernel
theorem dX2_placeFor_70 : decode cX2_placeFor 70 = .ok (.iadd, 1) := by decide +kernel
theorem dX2_placeFor_71 : decode cX2_placeFor 71 = .ok (.goto 4, 3) := by decide +kernel
theorem dX2_placeFor_74 : decode cX2_placeFor 74 = .ok (.iload_n 3, 1) := by decide +kernel
theorem dX2_placeFor_75 : decode cX2_placeFor 75 = .ok (.ireturn, 1) := by decide +kernel
theorem dX2_placeFor_76 : decode cX2_placeFor 76 = .ok (.iinc 3 1, 3) := by decide +kernel
theorem dX2_placeFor_79 : decode cX2_placeFor 79 = .ok (.goto (-77), 3) := by decide +kernel
theorem dX2_placeFor_82 : decode cX2_placeFor 82 = .ok (.iconst (-1), 1) := by decide +kernel
theorem dX2_placeFor_83 : decode cX2_placeFor 83 = .ok (.ireturn, 1) := by decide +kernel
theorem dX2_size_0 : decode cX2_size 0 = .ok (.iconst 1, 1) := by decide +kernel
theorem dX2_size_1 : decode cX2_size 1 = .ok (.aload_n 0, 1) := by decide +kernel
theorem dX2_size_2 : decode cX2_size 2 = .ok (.getfield 9, 3) := by decide +kernel
theorem dX2_size_5 : decode cX2_size 5 = .ok (.iload_n 1, 1) := by decide +kernel
theorem dX2_size_6 : decode cX2_size 6 = .ok (.iaload, 1) := by decide +kernel
theorem dX2_size_7 : decode cX2_size 7 = .ok (.iload_n 2, 1) := by decide +kernel
theorem dX2_size_8 : decode cX2_size 8 = .ok (.isub, 1) := by decide +kernel
theorem dX2_size_9 : decode cX2_size 9 = .ok (.invokestatic 76, 3) := by decide +kernel
theorem dX2_size_12 : decode cX2_size 12 = .ok (.ireturn, 1) := by decide +kernel
theorem dX2_wearAt_0 : decode cX2_wearAt 0 = .ok (.sipush 999, 3) := by decide +kernel
theorem dX2_wearAt_3 : decode cX2_wearAt 3 = .ok (.iload_n 2, 1) := by decide +kernel
theorem dX2_wearAt_4 : decode cX2_wearAt 4 = .ok (.iload_n 1, 1) := by decide +kernel
theorem dX2_wearAt_5 : decode cX2_wearAt 5 = .ok (.iadd, 1) := by decide +kernel
theorem dX2_wearAt_6 : decode cX2_wearAt 6 = .ok (.invokestatic 81, 3) := by decide +kernel
theorem dX2_wearAt_9 : decode cX2_wearAt 9 = .ok (.ireturn, 1) := by decide +kernel
set_option maxRecDepth 20000 in
theorem ggX2_putCoin_X2_placeFor : GoodIn wsX2_putCoin wsX2_placeFor := goodIn_r _ [10, 11, 12, 13, 14, 9, 15, 16, 17, 18, 19, 20, 21, 22, 23, 24, 25, 26, 27, 28, 29, 30, 31, 3, 32, 33, 34, 35, 36, 37, 38, 39, 5, 50, 51, 52, 53, 54, 55, 56, 57, 58, 59, 60, 61, 62] (by decide +kernel) (by decide +kernel)
set_option maxRecDepth 20000 in
theorem gX2_putCoin_X2_placeFor : GoodIn wsX2_putCoin (wsV RX2 84 RX2 yX2_placeFor wsX2_placeFor) := goodIn_app (goodIn_of _ (by decide +kernel)) ggX2_putCoin_X2_placeFor
set_option maxRecDepth 20000 in
theorem ggX2_putCoin_X2_rollOver : GoodIn wsX2_putCoin wsX2_rollOver := goodIn_r _ [43, 44, 50, 51, 52, 53, 54, 55, 56, 57, 58, 59, 60, 61, 62] (by decide +kernel) (by decide +kernel)
set_option maxRecDepth 20000 in
theorem gX2_putCoin_X2_rollOver : GoodIn wsX2_putCoin (wsV RX2 87 RX2 yX2_rollOver wsX2_rollOver) := goodIn_app (goodIn_of _ (by decide +kernel)) ggX2_putCoin_X2_rollOver
set_option maxRecDepth 20000 in
theorem ggX2_putCoin_X2_wearAt : GoodIn wsX2_putCoin wsX2_wearAt := goodIn_r _ [15, 16, 17, 18, 19] (by decide +kernel) (by decide +kernel)
set_option maxRecDepth 20000 in
theorem gX2_putCoin_X2_wearAt : GoodIn wsX2_putCoin (wsV RX2 62 RX2 yX2_wearAt wsX2_wearAt) := goodIn_app (goodIn_of _ (by decide +kernel)) ggX2_putCoin_X2_wearAt
set_option maxRecDepth 20000 in
theorem ggX2_putCoin_X2_useRail : GoodIn wsX2_putCoin wsX2_useRail := goodIn_r _ [48, 49, 11, 16, 17, 18, 19, 50, 51, 52, 53, 54, 55, 56, 57, 58, 59, 60, 61, 62] (by decide +kernel) (by decide +kernel)
set_option maxRecDepth 20000 in
theorem gX2_putCoin_X2_useRail : GoodIn wsX2_putCoin (wsV RX2 91 RX2 yX2_useRail wsX2_useRail) := goodIn_app (goodIn_of _ (by decide +kernel)) ggX2_putCoin_X2_useRail
theorem dX2_putCoin_0 : decode cX2_putCoin 0 = .ok (.aload_n 0, 1) := by decide +kernel
theorem dX2_putCoin_1 : decode cX2_putCoin 1 = .ok (.iload_n 1, 1) := by decide +kernel
theorem dX2_putCoin_2 : decode cX2_putCoin 2 = .ok (.iload_n 2, 1) := by decide +kernel
theorem dX2_putCoin_3 : decode cX2_putCoin 3 = .ok (.invokevirtual 84, 3) := by decide +kernel
theorem dX2_putCoin_6 : decode cX2_putCoin 6 = .ok (.istore_n 3, 1) := by decide +kernel
theorem dX2_putCoin_7 : decode cX2_putCoin 7 = .ok (.aload_n 0, 1) := by decide +kernel
theorem dX2_putCoin_8 : decode cX2_putCoin 8 = .ok (.getfield 21, 3) := by decide +kernel
theorem dX2_putCoin_11 : decode cX2_putCoin 11 = .ok (.iload_n 1, 1) := by decide +kernel
theorem dX2_putCoin_12 : decode cX2_putCoin 12 = .ok (.dup2, 1) := by decide +kernel
theorem dX2_putCoin_13 : decode cX2_putCoin 13 = .ok (.iaload, 1) := by decide +kernel
theorem dX2_putCoin_14 : decode cX2_putCoin 14 = .ok (.iconst 1, 1) := by decide +kernel
theorem dX2_putCoin_15 : decode cX2_putCoin 15 = .ok (.iadd, 1) := by decide +kernel
theorem dX2_putCoin_16 : decode cX2_putCoin 16 = .ok (.iastore, 1) := by decide +kernel
theorem dX2_putCoin_17 : decode cX2_putCoin 17 = .ok (.iload_n 3, 1) := by decide +kernel
theorem dX2_putCoin_18 : decode cX2_putCoin 18 = .ok (.iconst (-1), 1) := by decide +kernel
theorem dX2_putCoin_19 : decode cX2_putCoin 19 = .ok (.if_icmp .ne 22, 3) := by decide +kernel
theorem dX2_putCoin_22 : decode cX2_putCoin 22 = .ok (.aload_n 0, 1) := by decide +kernel
theorem dX2_putCoin_23 : decode cX2_putCoin 23 = .ok (.bipush 6, 2) := by decide +kernel
theorem dX2_putCoin_25 : decode cX2_putCoin 25 = .ok (.invokevirtual 87, 3) := by decide +kernel
theorem dX2_putCoin_28 : decode cX2_putCoin 28 = .ok (.aload_n 0, 1) := by decide +kernel
theorem dX2_putCoin_29 : decode cX2_putCoin 29 = .ok (.getfield 24, 3) := by decide +kernel
theorem dX2_putCoin_32 : decode cX2_putCoin 32 = .ok (.iload_n 1, 1) := by decide +kernel
theorem dX2_putCoin_33 : decode cX2_putCoin 33 = .ok (.dup2, 1) := by decide +kernel
theorem dX2_putCoin_34 : decode cX2_putCoin 34 = .ok (.iaload, 1) := by decide +kernel
theorem dX2_putCoin_35 : decode cX2_putCoin 35 = .ok (.iconst 1, 1) := by decide +kernel
theorem dX2_putCoin_36 : decode cX2_putCoin 36 = .ok (.iadd, 1) := by decide +kernel
theorem dX2_putCoin_37 : decode cX2_putCoin 37 = .ok (.iastore, 1) := by decide +kernel
theorem dX2_putCoin_38 : decode cX2_putCoin 38 = .ok (.goto 71, 3) := by decide +kernel
theorem dX2_putCoin_41 : decode cX2_putCoin 41 = .ok (.iload_n 3, 1) := by decide +kernel
theorem dX2_putCoin_42 : decode cX2_putCoin 42 = .ok (.bipush 10, 2) := by decide +kernel
theorem dX2_putCoin_44 : decode cX2_putCoin 44 = .ok (.if_icmp .lt 40, 3) := by decide +kernel
theorem dX2_putCoin_47 : decode cX2_putCoin 47 = .ok (.iload_n 3, 1) := by decide +kernel
theorem dX2_putCoin_48 : decode cX2_putCoin 48 = .ok (.bipush 10, 2) := by decide +kernel
theorem dX2_putCoin_50 : decode cX2_putCoin 50 = .ok (.isub, 1) := by decide +kernel
theorem dX2_putCoin_51 : decode cX2_putCoin 51 = .ok (.istore 4, 2) := by decide +kernel
theorem dX2_putCoin_53 : decode cX2_putCoin 53 = .ok (.aload_n 0, 1) := by decide +kernel
theorem dX2_putCoin_54 : decode cX2_putCoin 54 = .ok (.iload 4, 2) := by decide +kernel
theorem dX2_putCoin_56 : decode cX2_putCoin 56 = .ok (.invokevirtual 87, 3) := by decide +kernel
theorem dX2_putCoin_59 : decode cX2_putCoin 59 = .ok (.aload_n 0, 1) := by decide +kernel
theorem dX2_putCoin_60 : decode cX2_putCoin 60 = .ok (.getfield 33, 3) := by decide +kernel
theorem dX2_putCoin_63 : decode cX2_putCoin 63 = .ok (.iload 4, 2) := by decide +kernel
theorem dX2_putCoin_65 : decode cX2_putCoin 65 = .ok (.iload_n 1, 1) := by decide +kernel
theorem dX2_putCoin_66 : decode cX2_putCoin 66 = .ok (.iastore, 1) := by decide +kernel
theorem dX2_putCoin_67 : decode cX2_putCoin 67 = .ok (.aload_n 0, 1) := by decide +kernel
theorem dX2_putCoin_68 : decode cX2_putCoin 68 = .ok (.getfield 36, 3) := by decide +kernel
theorem dX2_putCoin_71 : decode cX2_putCoin 71 = .ok (.iload 4, 2) := by decide +kernel
theorem dX2_putCoin_73 : decode cX2_putCoin 73 = .ok (.aload_n 0, 1) := by decide +kernel
theorem dX2_putCoin_74 : decode cX2_putCoin 74 = .ok (.iload 4, 2) := by decide +kernel
theorem dX2_putCoin_76 : decode cX2_putCoin 76 = .ok (.iload_n 2, 1) := by decide +kernel
theorem dX2_putCoin_77 : decode cX2_putCoin 77 = .ok (.invokevirtual 62, 3) := by decide +kernel
theorem dX2_putCoin_80 : decode cX2_putCoin 80 = .ok (.iastore, 1) := by decide +kernel
theorem dX2_putCoin_81 : decode cX2_putCoin 81 = .ok (.goto 28, 3) := by decide +kernel
theorem dX2_putCoin_84 : decode cX2_putCoin 84 = .ok (.aload_n 0, 1) := by decide +kernel
theorem dX2_putCoin_85 : decode cX2_putCoin 85 = .ok (.iload_n 3, 1) := by decide +kernel
theorem dX2_putCoin_86 : decode cX2_putCoin 86 = .ok (.invokevirtual 87, 3) := by decide +kernel
theorem dX2_putCoin_89 : decode cX2_putCoin 89 = .ok (.aload_n 0, 1) := by decide +kernel
theorem dX2_putCoin_90 : decode cX2_putCoin 90 = .ok (.getfield 42, 3) := by decide +kernel
theorem dX2_putCoin_93 : decode cX2_putCoin 93 = .ok (.iload_n 3, 1) := by decide +kernel
theorem dX2_putCoin_94 : decode cX2_putCoin 94 = .ok (.bipush 6, 2) := by decide +kernel
theorem dX2_putCoin_96 : decode cX2_putCoin 96 = .ok (.imul, 1) := by decide +kernel
theorem dX2_putCoin_97 : decode cX2_putCoin 97 = .ok (.iload_n 1, 1) := by decide +kernel
theorem dX2_putCoin_98 : decode cX2_putCoin 98 = .ok (.iadd, 1) := by decide +kernel
theorem dX2_putCoin_99 : decode cX2_putCoin 99 = .ok (.dup2, 1) := by decide +kernel
theorem dX2_putCoin_100 : decode cX2_putCoin 100 = .ok (.iaload, 1) := by decide +kernel
theorem dX2_putCoin_101 : decode cX2_putCoin 101 = .ok (.iconst 1, 1) := by decide +kernel
theorem dX2_putCoin_102 : decode cX2_putCoin 102 = .ok (.iadd, 1) := by decide +kernel
theorem dX2_putCoin_103 : decode cX2_putCoin 103 = .ok (.iastore, 1) := by decide +kernel
theorem dX2_putCoin_104 : decode cX2_putCoin 104 = .ok (.aload_n 0, 1) := by decide +kernel
theorem dX2_putCoin_105 : decode cX2_putCoin 105 = .ok (.iload_n 3, 1) := by decide +kernel
theorem dX2_putCoin_106 : decode cX2_putCoin 106 = .ok (.invokevirtual 91, 3) := by decide +kernel
theorem dX2_putCoin_109 : decode cX2_putCoin 109 = .ok (.iload_n 3, 1) := by decide +kernel
theorem dX2_putCoin_110 : decode cX2_putCoin 110 = .ok (.ireturn, 1) := by decide +kernel
theorem dX2_rollOver_0 : decode cX2_rollOver 0 = .ok (.iconst 0, 1) := by decide +kernel
theorem dX2_rollOver_1 : decode cX2_rollOver 1 = .ok (.istore_n 2, 1) := by decide +kernel
theorem dX2_rollOver_2 : decode cX2_rollOver 2 = .ok (.iload_n 2, 1) := by decide +kernel
theorem dX2_rollOver_3 : decode cX2_rollOver 3 = .ok (.iload_n 1, 1) := by decide +kernel
theorem dX2_rollOver_4 : decode cX2_rollOver 4 = .ok (.if_icmp .ge 19, 3) := by decide +kernel
theorem dX2_rollOver_7 : decode cX2_rollOver 7 = .ok (.aload_n 0, 1) := by decide +kernel
theorem dX2_rollOver_8 : decode cX2_rollOver 8 = .ok (.getfield 39, 3) := by decide +kernel
theorem dX2_rollOver_11 : decode cX2_rollOver 11 = .ok (.iload_n 2, 1) := by decide +kernel
theorem dX2_rollOver_12 : decode cX2_rollOver 12 = .ok (.dup2, 1) := by decide +kernel
theorem dX2_rollOver_13 : decode cX2_rollOver 13 = .ok (.iaload, 1) := by decide +kernel
theorem dX2_rollOver_14 : decode cX2_rollOver 14 = .ok (.iconst 1, 1) := by decide +kernel
theorem dX2_rollOver_15 : decode cX2_rollOver 15 = .ok (.iadd, 1) := by decide +kernel
theorem dX2_rollOver_16 : decode cX2_rollOver 16 = .ok (.iastore, 1) := by decide +kernel
theorem dX2_rollOver_17 : decode cX2_rollOver 17 = .ok (.iinc 2 1, 3) := by decide +kernel
theorem dX2_rollOver_20 : decode cX2_rollOver 20 = .ok (.goto (-18), 3) := by decide +kernel
theorem dX2_rollOver_23 : decode cX2_rollOver 23 = .ok (.return_, 1) := by decide +kernel
theorem dX2_useRail_0 : decode cX2_useRail 0 = .ok (.aload_n 0, 1) := by decide +kernel
theorem dX2_useRail_1 : decode cX2_useRail 1 = .ok (.getfield 30, 3) := by decide +kernel
theorem dX2_useRail_4 : decode cX2_useRail 4 = .ok (.iload_n 1, 1) := by decide +kernel
theorem dX2_useRail_5 : decode cX2_useRail 5 = .ok (.dup2, 1) := by decide +kernel
theorem dX2_useRail_6 : decode cX2_useRail 6 = .ok (.iaload, 1) := by decide +kernel
theorem dX2_useRail_7 : decode cX2_useRail 7 = .ok (.iconst 1, 1) := by decide +kernel
theorem dX2_useRail_8 : decode cX2_useRail 8 = .ok (.iadd, 1) := by decide +kernel
theorem dX2_useRail_9 : decode cX2_useRail 9 = .ok (.iastore, 1) := by decide +kernel
theorem dX2_useRail_10 : decode cX2_useRail 10 = .ok (.aload_n 0, 1) := by decide +kernel
theorem dX2_useRail_11 : decode cX2_useRail 11 = .ok (.getfield 30, 3) := by decide +kernel
theorem dX2_useRail_14 : decode cX2_useRail 14 = .ok (.iload_n 1, 1) := by decide +kernel
theorem dX2_useRail_15 : decode cX2_useRail 15 = .ok (.iaload, 1) := by decide +kernel
theorem dX2_useRail_16 : decode cX2_useRail 16 = .ok (.bipush 20, 2) := by decide +kernel
theorem dX2_useRail_18 : decode cX2_useRail 18 = .ok (.if_icmp .lt 30, 3) := by decide +kernel
theorem dX2_useRail_21 : decode cX2_useRail 21 = .ok (.aload_n 0, 1) := by decide +kernel
theorem dX2_useRail_22 : decode cX2_useRail 22 = .ok (.getfield 30, 3) := by decide +kernel
theorem dX2_useRail_25 : decode cX2_useRail 25 = .ok (.iload_n 1, 1) := by decide +kernel
theorem dX2_useRail_26 : decode cX2_useRail 26 = .ok (.iconst 0, 1) := by decide +kernel
theorem dX2_useRail_27 : decode cX2_useRail 27 = .ok (.iastore, 1) := by decide +kernel
theorem dX2_useRail_28 : decode cX2_useRail 28 = .ok (.aload_n 0, 1) := by decide +kernel
theorem dX2_useRail_29 : decode cX2_useRail 29 = .ok (.getfield 27, 3) := by decide +kernel
theorem dX2_useRail_32 : decode cX2_useRail 32 = .ok (.iload_n 1, 1) := by decide +kernel
theorem dX2_useRail_33 : decode cX2_useRail 33 = .ok (.sipush 4100, 3) := by decide +kernel
theorem dX2_useRail_36 : decode cX2_useRail 36 = .ok (.aload_n 0, 1) := by decide +kernel
theorem dX2_useRail_37 : decode cX2_useRail 37 = .ok (.getfield 27, 3) := by decide +kernel
theorem dX2_useRail_40 : decode cX2_useRail 40 = .ok (.iload_n 1, 1) := by decide +kernel
theorem dX2_useRail_41 : decode cX2_useRail 41 = .ok (.iaload, 1) := by decide +kernel
theorem dX2_useRail_42 : decode cX2_useRail 42 = .ok (.iconst 1, 1) := by decide +kernel
theorem dX2_useRail_43 : decode cX2_useRail 43 = .ok (.iadd, 1) := by decide +kernel
theorem dX2_useRail_44 : decode cX2_useRail 44 = .ok (.invokestatic 81, 3) := by decide +kernel
theorem dX2_useRail_47 : decode cX2_useRail 47 = .ok (.iastore, 1) := by decide +kernel
theorem dX2_useRail_48 : decode cX2_useRail 48 = .ok (.return_, 1) := by decide +kernel
set_option maxRecDepth 20000 in
theorem ggX2_putCoinsByChance_X2_putCoin : GoodIn wsX2_putCoinsByChance wsX2_putCoin := goodIn_r _ [12, 13, 14, 15, 16, 17, 18, 19, 20, 11, 21, 22, 23, 24, 25, 26, 27, 28, 29, 30, 31, 32, 33, 34, 35, 36, 37, 38, 39, 40, 41, 42, 43, 44, 45, 46, 47, 48, 49, 50, 51, 52, 53, 54, 55, 56, 57, 58, 59, 60, 61, 62, 63, 64, 65, 66, 67, 68, 69, 70, 71, 72, 73] (by decide +kernel) (by decide +kernel)
set_option maxRecDepth 20000 in
theorem gX2_putCoinsByChance_X2_putCoin : GoodIn wsX2_putCoinsByChance (wsV RX2 106 RX2 yX2_putCoin wsX2_putCoin) := goodIn_app (goodIn_of _ (by decide +kernel)) ggX2_putCoinsByChance_X2_putCoin
theorem dX2_putCoinsByChance_0 : decode cX2_putCoinsByChance 0 = .ok (.iload_n 2, 1) := by decide +kernel
theorem dX2_putCoinsByChance_1 : decode cX2_putCoinsByChance 1 = .ok (.i2l, 1) := by decide +kernel
theorem dX2_putCoinsByChance_2 : decode cX2_putCoinsByChance 2 = .ok (.lstore_n 3, 1) := by decide +kernel
theorem dX2_putCoinsByChance_3 : decode cX2_putCoinsByChance 3 = .ok (.iconst 0, 1) := by decide +kernel
theorem dX2_putCoinsByChance_4 : decode cX2_putCoinsByChance 4 = .ok (.istore 5, 2) := by decide +kernel
theorem dX2_putCoinsByChance_6 : decode cX2_putCoinsByChance 6 = .ok (.iconst 0, 1) := by decide +kernel
theorem dX2_putCoinsByChance_7 : decode cX2_putCoinsByChance 7 = .ok (.istore 6, 2) := by decide +kernel
theorem dX2_putCoinsByChance_9 : decode cX2_putCoinsByChance 9 = .ok (.iload 6, 2) := by decide +kernel
theorem dX2_putCoinsByChance_11 : decode cX2_putCoinsByChance 11 = .ok (.iload_n 1, 1) := by decide +kernel
theorem dX2_putCoinsByChance_12 : decode cX2_putCoinsByChance 12 = .ok (.if_icmp .ge 64, 3) := by decide +kernel
theorem dX2_putCoinsByChance_15 : decode cX2_putCoinsByChance 15 = .ok (.ldc2_w 94, 3) := by decide +kernel
theorem dX2_putCoinsByChance_18 : decode cX2_putCoinsByChance 18 = .ok (.lload_n 3, 1) := by decide +kernel
theorem dX2_putCoinsByChance_19 : decode cX2_putCoinsByChance 19 = .ok (.lmul, 1) := by decide +kernel
theorem dX2_putCoinsByChance_20 : decode cX2_putCoinsByChance 20 = .ok (.ldc2_w 96, 3) := by decide +kernel
theorem dX2_putCoinsByChance_23 : decode cX2_putCoinsByChance 23 = .ok (.ladd, 1) := by decide +kernel
theorem dX2_putCoinsByChance_24 : decode cX2_putCoinsByChance 24 = .ok (.ldc2_w 98, 3) := by decide +kernel
theorem dX2_putCoinsByChance_27 : decode cX2_putCoinsByChance 27 = .ok (.lrem, 1) := by decide +kernel
theorem dX2_putCoinsByChance_28 : decode cX2_putCoinsByChance 28 = .ok (.lstore_n 3, 1) := by decide +kernel
theorem dX2_putCoinsByChance_29 : decode cX2_putCoinsByChance 29 = .ok (.lload_n 3, 1) := by decide +kernel
theorem dX2_putCoinsByChance_30 : decode cX2_putCoinsByChance 30 = .ok (.ldc2_w 100, 3) := by decide +kernel
theorem dX2_putCoinsByChance_33 : decode cX2_putCoinsByChance 33 = .ok (.ldiv, 1) := by decide +kernel
theorem dX2_putCoinsByChance_34 : decode cX2_putCoinsByChance 34 = .ok (.aload_n 0, 1) := by decide +kernel
theorem dX2_putCoinsByChance_35 : decode cX2_putCoinsByChance 35 = .ok (.getfield 45, 3) := by decide +kernel
theorem dX2_putCoinsByChance_38 : decode cX2_putCoinsByChance 38 = .ok (.i2l, 1) := by decide +kernel
theorem dX2_putCoinsByChance_39 : decode cX2_putCoinsByChance 39 = .ok (.lrem, 1) := by decide +kernel
theorem dX2_putCoinsByChance_40 : decode cX2_putCoinsByChance 40 = .ok (.l2i, 1) := by decide +kernel
theorem dX2_putCoinsByChance_41 : decode cX2_putCoinsByChance 41 = .ok (.istore 7, 2) := by decide +kernel
theorem dX2_putCoinsByChance_43 : decode cX2_putCoinsByChance 43 = .ok (.lload_n 3, 1) := by decide +kernel
theorem dX2_putCoinsByChance_44 : decode cX2_putCoinsByChance 44 = .ok (.ldc2_w 102, 3) := by decide +kernel
theorem dX2_putCoinsByChance_47 : decode cX2_putCoinsByChance 47 = .ok (.ldiv, 1) := by decide +kernel
theorem dX2_putCoinsByChance_48 : decode cX2_putCoinsByChance 48 = .ok (.ldc2_w 104, 3) := by decide +kernel
theorem dX2_putCoinsByChance_51 : decode cX2_putCoinsByChance 51 = .ok (.lrem, 1) := by decide +kernel
theorem dX2_putCoinsByChance_52 : decode cX2_putCoinsByChance 52 = .ok (.l2i, 1) := by decide +kernel
theorem dX2_putCoinsByChance_53 : decode cX2_putCoinsByChance 53 = .ok (.istore 8, 2) := by decide +kernel
theorem dX2_putCoinsByChance_55 : decode cX2_putCoinsByChance 55 = .ok (.aload_n 0, 1) := by decide +kernel
theorem dX2_putCoinsByChance_56 : decode cX2_putCoinsByChance 56 = .ok (.iload 7, 2) := by decide +kernel
theorem dX2_putCoinsByChance_58 : decode cX2_putCoinsByChance 58 = .ok (.iload 8, 2) := by decide +kernel
theorem dX2_putCoinsByChance_60 : decode cX2_putCoinsByChance 60 = .ok (.invokevirtual 106, 3) := by decide +kernel
theorem dX2_putCoinsByChance_63 : decode cX2_putCoinsByChance 63 = .ok (.iconst (-1), 1) := by decide +kernel
theorem dX2_putCoinsByChance_64 : decode cX2_putCoinsByChance 64 = .ok (.if_icmp .ne 6, 3) := by decide +kernel
theorem dX2_putCoinsByChance_67 : decode cX2_putCoinsByChance 67 = .ok (.iinc 5 1, 3) := by decide +kernel
theorem dX2_putCoinsByChance_70 : decode cX2_putCoinsByChance 70 = .ok (.iinc 6 1, 3) := by decide +kernel
theorem dX2_putCoinsByChance_73 : decode cX2_putCoinsByChance 73 = .ok (.goto (-64), 3) := by decide +kernel
theorem dX2_putCoinsByChance_76 : decode cX2_putCoinsByChance 76 = .ok (.iload 5, 2) := by decide +kernel
theorem dX2_putCoinsByChance_78 : decode cX2_putCoinsByChance 78 = .ok (.ireturn, 1) := by decide +kernel
set_option maxRecDepth 20000 in
theorem ggX2_loosen_X2_isFull : GoodIn wsX2_loosen wsX2_isFull := goodIn_r _ [9, 10, 11, 12, 8, 13, 3, 14, 15, 16, 17, 18, 19, 20, 21, 22, 23, 24, 25, 26] (by decide +kernel) (by decide +kernel)
set_option maxRecDepth 20000 in
theorem gX2_loosen_X2_isFull : GoodIn wsX2_loosen (wsV RX2 73 RX2 yX2_isFull wsX2_isFull) := goodIn_app (goodIn_of _ (by decide +kernel)) ggX2_loosen_X2_isFull
theorem dX2_loosen_0 : decode cX2_loosen 0 = .ok (.aload_n 0, 1) := by decide +kernel
theorem dX2_loosen_1 : decode cX2_loosen 1 = .ok (.getfield 33, 3) := by decide +kernel
theorem dX2_loosen_4 : decode cX2_loosen 4 = .ok (.iload_n 1, 1) := by decide +kernel
theorem dX2_loosen_5 : decode cX2_loosen 5 = .ok (.iaload, 1) := by decide +kernel
theorem dX2_loosen_6 : decode cX2_loosen 6 = .ok (.istore_n 2, 1) := by decide +kernel
theorem dX2_loosen_7 : decode cX2_loosen 7 = .ok (.aload_n 0, 1) := by decide +kernel
theorem dX2_loosen_8 : decode cX2_loosen 8 = .ok (.iload_n 1, 1) := by decide +kernel
theorem dX2_loosen_9 : decode cX2_loosen 9 = .ok (.invokevirtual 73, 3) := by decide +kernel
theorem dX2_loosen_12 : decode cX2_loosen 12 = .ok (.ifCond .eq 16, 3) := by decide +kernel
theorem dX2_loosen_15 : decode cX2_loosen 15 = .ok (.aload_n 0, 1) := by decide +kernel
theorem dX2_loosen_16 : decode cX2_loosen 16 = .ok (.getfield 24, 3) := by decide +kernel
theorem dX2_loosen_19 : decode cX2_loosen 19 = .ok (.iload_n 2, 1) := by decide +kernel
theorem dX2_loosen_20 : decode cX2_loosen 20 = .ok (.dup2, 1) := by decide +kernel
theorem dX2_loosen_21 : decode cX2_loosen 21 = .ok (.iaload, 1) := by decide +kernel
theorem dX2_loosen_22 : decode cX2_loosen 22 = .ok (.iconst 1, 1) := by decide +kernel
theorem dX2_loosen_23 : decode cX2_loosen 23 = .ok (.iadd, 1) := by decide +kernel
theorem dX2_loosen_24 : decode cX2_loosen 24 = .ok (.iastore, 1) := by decide +kernel
theorem dX2_loosen_25 : decode cX2_loosen 25 = .ok (.goto 18, 3) := by decide +kernel
theorem dX2_loosen_28 : decode cX2_loosen 28 = .ok (.aload_n 0, 1) := by decide +kernel
theorem dX2_loosen_29 : decode cX2_loosen 29 = .ok (.getfield 42, 3) := by decide +kernel
theorem dX2_loosen_32 : decode cX2_loosen 32 = .ok (.iload_n 1, 1) := by decide +kernel
theorem dX2_loosen_33 : decode cX2_loosen 33 = .ok (.bipush 6, 2) := by decide +kernel
theorem dX2_loosen_35 : decode cX2_loosen 35 = .ok (.imul, 1) := by decide +kernel
theorem dX2_loosen_36 : decode cX2_loosen 36 = .ok (.iload_n 2, 1) := by decide +kernel
theorem dX2_loosen_37 : decode cX2_loosen 37 = .ok (.iadd, 1) := by decide +kernel
theorem dX2_loosen_38 : decode cX2_loosen 38 = .ok (.dup2, 1) := by decide +kernel
theorem dX2_loosen_39 : decode cX2_loosen 39 = .ok (.iaload, 1) := by decide +kernel
theorem dX2_loosen_40 : decode cX2_loosen 40 = .ok (.iconst 1, 1) := by decide +kernel
theorem dX2_loosen_41 : decode cX2_loosen 41 = .ok (.iadd, 1) := by decide +kernel
theorem dX2_loosen_42 : decode cX2_loosen 42 = .ok (.iastore, 1) := by decide +kernel
theorem dX2_loosen_43 : decode cX2_loosen 43 = .ok (.aload_n 0, 1) := by decide +kernel
theorem dX2_loosen_44 : decode cX2_loosen 44 = .ok (.getfield 33, 3) := by decide +kernel
theorem dX2_loosen_47 : decode cX2_loosen 47 = .ok (.iload_n 1, 1) := by decide +kernel
theorem dX2_loosen_48 : decode cX2_loosen 48 = .ok (.iconst (-1), 1) := by decide +kernel
theorem dX2_loosen_49 : decode cX2_loosen 49 = .ok (.iastore, 1) := by decide +kernel
theorem dX2_loosen_50 : decode cX2_loosen 50 = .ok (.aload_n 0, 1) := by decide +kernel
theorem dX2_loosen_51 : decode cX2_loosen 51 = .ok (.getfield 36, 3) := by decide +kernel
theorem dX2_loosen_54 : decode cX2_loosen 54 = .ok (.iload_n 1, 1) := by decide +kernel
theorem dX2_loosen_55 : decode cX2_loosen 55 = .ok (.iconst (-1), 1) := by decide +kernel
theorem dX2_loosen_56 : decode cX2_loosen 56 = .ok (.iastore, 1) := by decide +kernel
theorem dX2_loosen_57 : decode cX2_loosen 57 = .ok (.iload_n 2, 1) := by decide +kernel
theorem dX2_loosen_58 : decode cX2_loosen 58 = .ok (.ireturn, 1) := by decide +kernel
set_option maxRecDepth 20000 in
theorem ggX2_emptyBag_X2_coinsIn : GoodIn wsX2_emptyBag wsX2_coinsIn := goodIn_r _ [7, 1, 8, 9, 10, 11, 12, 13, 14, 15, 16, 17, 18, 19, 20] (by decide +kernel) (by decide +kernel)
set_option maxRecDepth 20000 in
theorem gX2_emptyBag_X2_coinsIn : GoodIn wsX2_emptyBag (wsV RX2 58 RX2 yX2_coinsIn wsX2_coinsIn) := goodIn_app (goodIn_of _ (by decide +kernel)) ggX2_emptyBag_X2_coinsIn
theorem dX2_emptyBag_0 : decode cX2_emptyBag 0 = .ok (.aload_n 0, 1) := by decide +kernel
theorem dX2_emptyBag_1 : decode cX2_emptyBag 1 = .ok (.iload_n 1, 1) := by decide +kernel
theorem dX2_emptyBag_2 : decode cX2_emptyBag 2 = .ok (.invokevirtual 58, 3) := by decide +kernel
theorem dX2_emptyBag_5 : decode cX2_emptyBag 5 = .ok (.istore_n 2, 1) := by decide +kernel
theorem dX2_emptyBag_6 : decode cX2_emptyBag 6 = .ok (.iconst 0, 1) := by decide +kernel
theorem dX2_emptyBag_7 : decode cX2_emptyBag 7 = .ok (.istore_n 3, 1) := by decide +kernel
theorem dX2_emptyBag_8 : decode cX2_emptyBag 8 = .ok (.iload_n 3, 1) := by decide +kernel
theorem dX2_emptyBag_9 : decode cX2_emptyBag 9 = .ok (.bipush 6, 2) := by decide +kernel
theorem dX2_emptyBag_11 : decode cX2_emptyBag 11 = .ok (.if_icmp .ge 21, 3) := by decide +kernel
theorem dX2_emptyBag_14 : decode cX2_emptyBag 14 = .ok (.aload_n 0, 1) := by decide +kernel
theorem dX2_emptyBag_15 : decode cX2_emptyBag 15 = .ok (.getfield 42, 3) := by decide +kernel
theorem dX2_emptyBag_18 : decode cX2_emptyBag 18 = .ok (.iload_n 1, 1) := by decide +kernel
theorem dX2_emptyBag_19 : decode cX2_emptyBag 19 = .ok (.bipush 6, 2) := by decide +kernel
theorem dX2_emptyBag_21 : decode cX2_emptyBag 21 = .ok (.imul, 1) := by decide +kernel
theorem dX2_emptyBag_22 : decode cX2_emptyBag 22 = .ok (.iload_n 3, 1) := by decide +kernel
theorem dX2_emptyBag_23 : decode cX2_emptyBag 23 = .ok (.iadd, 1) := by decide +kernel
theorem dX2_emptyBag_24 : decode cX2_emptyBag 24 = .ok (.iconst 0, 1) := by decide +kernel
theorem dX2_emptyBag_25 : decode cX2_emptyBag 25 = .ok (.iastore, 1) := by decide +kernel
theorem dX2_emptyBag_26 : decode cX2_emptyBag 26 = .ok (.iinc 3 1, 3) := by decide +kernel
theorem dX2_emptyBag_29 : decode cX2_emptyBag 29 = .ok (.goto (-21), 3) := by decide +kernel
theorem dX2_emptyBag_32 : decode cX2_emptyBag 32 = .ok (.aload_n 0, 1) := by decide +kernel
theorem dX2_emptyBag_33 : decode cX2_emptyBag 33 = .ok (.dup, 1) := by decide +kernel
theorem dX2_emptyBag_34 : decode cX2_emptyBag 34 = .ok (.getfield 55, 3) := by decide +kernel
theorem dX2_emptyBag_37 : decode cX2_emptyBag 37 = .ok (.iload_n 2, 1) := by decide +kernel
theorem dX2_emptyBag_38 : decode cX2_emptyBag 38 = .ok (.iadd, 1) := by decide +kernel
theorem dX2_emptyBag_39 : decode cX2_emptyBag 39 = .ok (.putfield 55, 3) := by decide +kernel
theorem dX2_emptyBag_42 : decode cX2_emptyBag 42 = .ok (.iload_n 2, 1) := by decide +kernel
theorem dX2_emptyBag_43 : decode cX2_emptyBag 43 = .ok (.ireturn, 1) := by decide +kernel
set_option maxRecDepth 20000 in
theorem ggX2_removeRejects_X2_sum : GoodIn wsX2_removeRejects wsX2_sum := goodIn_r _ [6] (by decide +kernel) (by decide +kernel)
set_option maxRecDepth 20000 in
theorem gX2_removeRejects_X2_sum : GoodIn wsX2_removeRejects (va_wsS RX2 109 yX2_sum wsX2_sum) := goodIn_app (goodIn_of _ (by decide +kernel)) ggX2_removeRejects_X2_sum
theorem dX2_removeRejects_0 : decode cX2_removeRejects 0 = .ok (.aload_n 0, 1) := by decide +kernel
theorem dX2_removeRejects_1 : decode cX2_removeRejects 1 = .ok (.getfield 24, 3) := by decide +kernel
theorem dX2_removeRejects_4 : decode cX2_removeRejects 4 = .ok (.invokestatic 109, 3) := by decide +kernel
theorem dX2_removeRejects_7 : decode cX2_removeRejects 7 = .ok (.istore_n 1, 1) := by decide +kernel
theorem dX2_removeRejects_8 : decode cX2_removeRejects 8 = .ok (.iconst 0, 1) := by decide +kernel
theorem dX2_removeRejects_9 : decode cX2_removeRejects 9 = .ok (.istore_n 2, 1) := by decide +kernel
theorem dX2_removeRejects_10 : decode cX2_removeRejects 10 = .ok (.iload_n 2, 1) := by decide +kernel
theorem dX2_removeRejects_11 : decode cX2_removeRejects 11 = .ok (.bipush 6, 2) := by decide +kernel
theorem dX2_removeRejects_13 : decode cX2_removeRejects 13 = .ok (.if_icmp .ge 16, 3) := by decide +kernel
theorem dX2_removeRejects_16 : decode cX2_removeRejects 16 = .ok (.aload_n 0, 1) := by decide +kernel
theorem dX2_removeRejects_17 : decode cX2_removeRejects 17 = .ok (.getfield 24, 3) := by decide +kernel
theorem dX2_removeRejects_20 : decode cX2_removeRejects 20 = .ok (.iload_n 2, 1) := by decide +kernel
theorem dX2_removeRejects_21 : decode cX2_removeRejects 21 = .ok (.iconst 0, 1) := by decide +kernel
theorem dX2_removeRejects_22 : decode cX2_removeRejects 22 = .ok (.iastore, 1) := by decide +kernel
theorem dX2_removeRejects_23 : decode cX2_removeRejects 23 = .ok (.iinc 2 1, 3) := by decide +kernel
theorem dX2_removeRejects_26 : decode cX2_removeRejects 26 = .ok (.goto (-16), 3) := by decide +kernel
theorem dX2_removeRejects_29 : decode cX2_removeRejects 29 = .ok (.aload_n 0, 1) := by decide +kernel
theorem dX2_removeRejects_30 : decode cX2_removeRejects 30 = .ok (.dup, 1) := by decide +kernel
theorem dX2_removeRejects_31 : decode cX2_removeRejects 31 = .ok (.getfield 55, 3) := by decide +kernel
theorem dX2_removeRejects_34 : decode cX2_removeRejects 34 = .ok (.iload_n 1, 1) := by decide +kernel
theorem dX2_removeRejects_35 : decode cX2_removeRejects 35 = .ok (.iadd, 1) := by decide +kernel
theorem dX2_removeRejects_36 : decode cX2_removeRejects 36 = .ok (.putfield 55, 3) := by decide +kernel
theorem dX2_removeRejects_39 : decode cX2_removeRejects 39 = .ok (.iload_n 1, 1) := by decide +kernel
theorem dX2_removeRejects_40 : decode cX2_removeRejects 40 = .ok (.ireturn, 1) := by decide +kernel
set_option maxRecDepth 20000 in
theorem ggX2_aboutKind_X2_coinsOfKindInBags : GoodIn wsX2_aboutKind wsX2_coinsOfKindInBags := goodIn_r _ [10, 11, 12, 13, 9, 14, 15, 21, 22, 23, 24, 25, 26, 27, 28, 29, 30, 31, 32, 33] (by decide +kernel) (by decide +kernel)
set_option maxRecDepth 20000 in
theorem gX2_aboutKind_X2_coinsOfKindInBags : GoodIn wsX2_aboutKind (wsV RX2 113 RX2 yX2_coinsOfKindInBags wsX2_coinsOfKindInBags) := goodIn_app (goodIn_of _ (by decide +kernel)) ggX2_aboutKind_X2_coinsOfKindInBags
set_option maxRecDepth 20000 in
theorem ggX2_aboutKind_X2_stuckOfKind : GoodIn wsX2_aboutKind wsX2_stuckOfKind := goodIn_r _ [19, 20, 21, 22, 23, 24, 25, 26, 27, 28, 29, 30, 31, 32, 33] (by decide +kernel) (by decide +kernel)
set_option maxRecDepth 20000 in
theorem gX2_aboutKind_X2_stuckOfKind : GoodIn wsX2_aboutKind (wsV RX2 116 RX2 yX2_stuckOfKind wsX2_stuckOfKind) := goodIn_app (goodIn_of _ (by decide +kernel)) ggX2_aboutKind_X2_stuckOfKind
theorem dX2_aboutKind_0 : decode cX2_aboutKind 0 = .ok (.iload_n 2, 1) := by decide +kernel
theorem dX2_aboutKind_1 : decode cX2_aboutKind 1 = .ok (.tableswitch 79 0 5 #[39, 46, 53, 60, 66, 72], 39) := by decide +kernel
theorem dX2_aboutKind_40 : decode cX2_aboutKind 40 = .ok (.aload_n 0, 1) := by decide +kernel
theorem dX2_aboutKind_41 : decode cX2_aboutKind 41 = .ok (.getfield 9, 3) := by decide +kernel
theorem dX2_aboutKind_44 : decode cX2_aboutKind 44 = .ok (.iload_n 1, 1) := by decide +kernel
theorem dX2_aboutKind_45 : decode cX2_aboutKind 45 = .ok (.iaload, 1) := by decide +kernel
theorem dX2_aboutKind_46 : decode cX2_aboutKind 46 = .ok (.ireturn, 1) := by decide +kernel
theorem dX2_aboutKind_47 : decode cX2_aboutKind 47 = .ok (.aload_n 0, 1) := by decide +kernel
theorem dX2_aboutKind_48 : decode cX2_aboutKind 48 = .ok (.getfield 15, 3) := by decide +kernel
theorem dX2_aboutKind_51 : decode cX2_aboutKind 51 = .ok (.iload_n 1, 1) := by decide +kernel
theorem dX2_aboutKind_52 : decode cX2_aboutKind 52 = .ok (.iaload, 1) := by decide +kernel
theorem dX2_aboutKind_53 : decode cX2_aboutKind 53 = .ok (.ireturn, 1) := by decide +kernel
theorem dX2_aboutKind_54 : decode cX2_aboutKind 54 = .ok (.aload_n 0, 1) := by decide +kernel
theorem dX2_aboutKind_55 : decode cX2_aboutKind 55 = .ok (.getfield 18, 3) := by decide +kernel
theorem dX2_aboutKind_58 : decode cX2_aboutKind 58 = .ok (.iload_n 1, 1) := by decide +kernel
theorem dX2_aboutKind_59 : decode cX2_aboutKind 59 = .ok (.iaload, 1) := by decide +kernel
theorem dX2_aboutKind_60 : decode cX2_aboutKind 60 = .ok (.ireturn, 1) := by decide +kernel
theorem dX2_aboutKind_61 : decode cX2_aboutKind 61 = .ok (.aload_n 0, 1) := by decide +kernel
theorem dX2_aboutKind_62 : decode cX2_aboutKind 62 = .ok (.iload_n 1, 1) := by decide +kernel
theorem dX2_aboutKind_63 : decode cX2_aboutKind 63 = .ok (.invokevirtual 113, 3) := by decide +kernel
theorem dX2_aboutKind_66 : decode cX2_aboutKind 66 = .ok (.ireturn, 1) := by decide +kernel
theorem dX2_aboutKind_67 : decode cX2_aboutKind 67 = .ok (.aload_n 0, 1) := by decide +kernel
theorem dX2_aboutKind_68 : decode cX2_aboutKind 68 = .ok (.iload_n 1, 1) := by decide +kernel
theorem dX2_aboutKind_69 : decode cX2_aboutKind 69 = .ok (.invokevirtual 116, 3) := by decide +kernel
theorem dX2_aboutKind_72 : decode cX2_aboutKind 72 = .ok (.ireturn, 1) := by decide +kernel
theorem dX2_aboutKind_73 : decode cX2_aboutKind 73 = .ok (.aload_n 0, 1) := by decide +kernel
theorem dX2_aboutKind_74 : decode cX2_aboutKind 74 = .ok (.getfield 24, 3) := by decide +kernel
theorem dX2_aboutKind_77 : decode cX2_aboutKind 77 = .ok (.iload_n 1, 1) := by decide +kernel
theorem dX2_aboutKind_78 : decode cX2_aboutKind 78 = .ok (.iaload, 1) := by decide +kernel
theorem dX2_aboutKind_79 : decode cX2_aboutKind 79 = .ok (.ireturn, 1) := by decide +kernel
theorem dX2_aboutKind_80 : decode cX2_aboutKind 80 = .ok (.aload_n 0, 1) := by decide +kernel
theorem dX2_aboutKind_81 : decode cX2_aboutKind 81 = .ok (.getfield 21, 3) := by decide +kernel
theorem dX2_aboutKind_84 : decode cX2_aboutKind 84 = .ok (.iload_n 1, 1) := by decide +kernel
theorem dX2_aboutKind_85 : decode cX2_aboutKind 85 = .ok (.iaload, 1) := by decide +kernel
theorem dX2_aboutKind_86 : decode cX2_aboutKind 86 = .ok (.ireturn, 1) := by decide +kernel
set_option maxRecDepth 20000 in
theorem ggX2_aboutRail_X2_coinsIn : GoodIn wsX2_aboutRail wsX2_coinsIn := goodIn_r _ [10, 11, 35, 36, 37, 38, 39, 40, 41, 42, 43, 44, 45, 46, 47] (by decide +kernel) (by decide +kernel)
set_option maxRecDepth 20000 in
theorem gX2_aboutRail_X2_coinsIn : GoodIn wsX2_aboutRail (wsV RX2 58 RX2 yX2_coinsIn wsX2_coinsIn) := goodIn_app (goodIn_of _ (by decide +kernel)) ggX2_aboutRail_X2_coinsIn
set_option maxRecDepth 20000 in
theorem ggX2_aboutRail_X2_supposedWorth : GoodIn wsX2_aboutRail wsX2_supposedWorth := goodIn_r _ [15, 16, 17, 18, 19, 9, 20, 21, 22, 6, 7, 8, 10, 11, 35, 36, 37, 38, 39, 40, 41, 42, 43, 44, 45, 46, 47] (by decide +kernel) (by decide +kernel)
set_option maxRecDepth 20000 in
theorem gX2_aboutRail_X2_supposedWorth : GoodIn wsX2_aboutRail (wsV RX2 119 RX2 yX2_supposedWorth wsX2_supposedWorth) := goodIn_app (goodIn_of _ (by decide +kernel)) ggX2_aboutRail_X2_supposedWorth
set_option maxRecDepth 20000 in
theorem ggX2_aboutRail_X2_trueWorth : GoodIn wsX2_aboutRail wsX2_trueWorth := goodIn_r _ [26, 21, 16, 27, 28, 29, 9, 30, 11, 35, 36, 37, 38, 39, 40, 41, 42, 43, 44, 45, 46, 47] (by decide +kernel) (by decide +kernel)
set_option maxRecDepth 20000 in
theorem gX2_aboutRail_X2_trueWorth : GoodIn wsX2_aboutRail (wsV RX2 122 RX2 yX2_trueWorth wsX2_trueWorth) := goodIn_app (goodIn_of _ (by decide +kernel)) ggX2_aboutRail_X2_trueWorth
set_option maxRecDepth 20000 in
theorem ggX2_aboutRail_X2_misfitsIn : GoodIn wsX2_aboutRail wsX2_misfitsIn := goodIn_r _ [34, 21, 22, 27, 28, 29, 9, 30, 11, 35, 36, 37, 38, 39, 40, 41, 42, 43, 44, 45, 46, 47] (by decide +kernel) (by decide +kernel)
set_option maxRecDepth 20000 in
theorem gX2_aboutRail_X2_misfitsIn : GoodIn wsX2_aboutRail (wsV RX2 125 RX2 yX2_misfitsIn wsX2_misfitsIn) := goodIn_app (goodIn_of _ (by decide +kernel)) ggX2_aboutRail_X2_misfitsIn
set_option maxRecDepth 20000 in
theorem ggX2_aboutRail_X2_kindOfRail : GoodIn wsX2_aboutRail wsX2_kindOfRail := goodIn_r _ [20, 21, 22, 35, 36, 37, 38, 39, 40, 41, 42, 43, 44, 45, 46, 47] (by decide +kernel) (by decide +kernel)
set_option maxRecDepth 20000 in
theorem gX2_aboutRail_X2_kindOfRail : GoodIn wsX2_aboutRail (wsV RX2 128 RX2 yX2_kindOfRail wsX2_kindOfRail) := goodIn_app (goodIn_of _ (by decide +kernel)) ggX2_aboutRail_X2_kindOfRail
theorem dX2_aboutRail_0 : decode cX2_aboutRail 0 = .ok (.iload_n 2, 1) := by decide +kernel
theorem dX2_aboutRail_1 : decode cX2_aboutRail 1 = .ok (.tableswitch 109 0 8 #[51, 58, 65, 71, 78, 85, 91, 97, 103], 51) := by decide +kernel
theorem dX2_aboutRail_52 : decode cX2_aboutRail 52 = .ok (.aload_n 0, 1) := by decide +kernel
theorem dX2_aboutRail_53 : decode cX2_aboutRail 53 = .ok (.getfield 27, 3) := by decide +kernel
theorem dX2_aboutRail_56 : decode cX2_aboutRail 56 = .ok (.iload_n 1, 1) := by decide +kernel
theorem dX2_aboutRail_57 : decode cX2_aboutRail 57 = .ok (.iaload, 1) := by decide +kernel
theorem dX2_aboutRail_58 : decode cX2_aboutRail 58 = .ok (.ireturn, 1) := by decide +kernel
theorem dX2_aboutRail_59 : decode cX2_aboutRail 59 = .ok (.aload_n 0, 1) := by decide +kernel
theorem dX2_aboutRail_60 : decode cX2_aboutRail 60 = .ok (.getfield 30, 3) := by decide +kernel
theorem dX2_aboutRail_63 : decode cX2_aboutRail 63 = .ok (.iload_n 1, 1) := by decide +kernel
theorem dX2_aboutRail_64 : decode cX2_aboutRail 64 = .ok (.iaload, 1) := by decide +kernel
theorem dX2_aboutRail_65 : decode cX2_aboutRail 65 = .ok (.ireturn, 1) := by decide +kernel
theorem dX2_aboutRail_66 : decode cX2_aboutRail 66 = .ok (.aload_n 0, 1) := by decide +kernel
theorem dX2_aboutRail_67 : decode cX2_aboutRail 67 = .ok (.iload_n 1, 1) := by decide +kernel
theorem dX2_aboutRail_68 : decode cX2_aboutRail 68 = .ok (.invokevirtual 58, 3) := by decide +kernel
theorem dX2_aboutRail_71 : decode cX2_aboutRail 71 = .ok (.ireturn, 1) := by decide +kernel
theorem dX2_aboutRail_72 : decode cX2_aboutRail 72 = .ok (.aload_n 0, 1) := by decide +kernel
theorem dX2_aboutRail_73 : decode cX2_aboutRail 73 = .ok (.getfield 33, 3) := by decide +kernel
theorem dX2_aboutRail_76 : decode cX2_aboutRail 76 = .ok (.iload_n 1, 1) := by decide +kernel
theorem dX2_aboutRail_77 : decode cX2_aboutRail 77 = .ok (.iaload, 1) := by decide +kernel
theorem dX2_aboutRail_78 : decode cX2_aboutRail 78 = .ok (.ireturn, 1) := by decide +kernel
theorem dX2_aboutRail_79 : decode cX2_aboutRail 79 = .ok (.aload_n 0, 1) := by decide +kernel
theorem dX2_aboutRail_80 : decode cX2_aboutRail 80 = .ok (.getfield 36, 3) := by decide +kernel
theorem dX2_aboutRail_83 : decode cX2_aboutRail 83 = .ok (.iload_n 1, 1) := by decide +kernel
theorem dX2_aboutRail_84 : decode cX2_aboutRail 84 = .ok (.iaload, 1) := by decide +kernel
theorem dX2_aboutRail_85 : decode cX2_aboutRail 85 = .ok (.ireturn, 1) := by decide +kernel
theorem dX2_aboutRail_86 : decode cX2_aboutRail 86 = .ok (.aload_n 0, 1) := by decide +kernel
theorem dX2_aboutRail_87 : decode cX2_aboutRail 87 = .ok (.iload_n 1, 1) := by decide +kernel
theorem dX2_aboutRail_88 : decode cX2_aboutRail 88 = .ok (.invokevirtual 119, 3) := by decide +kernel
theorem dX2_aboutRail_91 : decode cX2_aboutRail 91 = .ok (.ireturn, 1) := by decide +kernel
theorem dX2_aboutRail_92 : decode cX2_aboutRail 92 = .ok (.aload_n 0, 1) := by decide +kernel
theorem dX2_aboutRail_93 : decode cX2_aboutRail 93 = .ok (.iload_n 1, 1) := by decide +kernel
theorem dX2_aboutRail_94 : decode cX2_aboutRail 94 = .ok (.invokevirtual 122, 3) := by decide +kernel
theorem dX2_aboutRail_97 : decode cX2_aboutRail 97 = .ok (.ireturn, 1) := by decide +kernel
theorem dX2_aboutRail_98 : decode cX2_aboutRail 98 = .ok (.aload_n 0, 1) := by decide +kernel
theorem dX2_aboutRail_99 : decode cX2_aboutRail 99 = .ok (.iload_n 1, 1) := by decide +kernel
theorem dX2_aboutRail_100 : decode cX2_aboutRail 100 = .ok (.invokevirtual 125, 3) := by decide +kernel
theorem dX2_aboutRail_103 : decode cX2_aboutRail 103 = .ok (.ireturn, 1) := by decide +kernel
theorem dX2_aboutRail_104 : decode cX2_aboutRail 104 = .ok (.aload_n 0, 1) := by decide +kernel
theorem dX2_aboutRail_105 : decode cX2_aboutRail 105 = .ok (.iload_n 1, 1) := by decide +kernel
theorem dX2_aboutRail_106 : decode cX2_aboutRail 106 = .ok (.invokevirtual 128, 3) := by decide +kernel
theorem dX2_aboutRail_109 : decode cX2_aboutRail 109 = .ok (.ireturn, 1) := by decide +kernel
theorem dX2_aboutRail_110 : decode cX2_aboutRail 110 = .ok (.aload_n 0, 1) := by decide +kernel
theorem dX2_aboutRail_111 : decode cX2_aboutRail 111 = .ok (.getfield 39, 3) := by decide +kernel
theorem dX2_aboutRail_114 : decode cX2_aboutRail 114 = .ok (.iload_n 1, 1) := by decide +kernel
theorem dX2_aboutRail_115 : decode cX2_aboutRail 115 = .ok (.iaload, 1) := by decide +kernel
theorem dX2_aboutRail_116 : decode cX2_aboutRail 116 = .ok (.ireturn, 1) := by decide +kernel
set_option maxRecDepth 20000 in
theorem ggX2_aboutAll_X2_sum : GoodIn wsX2_aboutAll wsX2_sum := goodIn_r _ [8] (by decide +kernel) (by decide +kernel)
set_option maxRecDepth 20000 in
theorem gX2_aboutAll_X2_sum : GoodIn wsX2_aboutAll (va_wsS RX2 109 yX2_sum wsX2_sum) := goodIn_app (goodIn_of _ (by decide +kernel)) ggX2_aboutAll_X2_sum
set_option maxRecDepth 20000 in
theorem ggX2_aboutAll_X2_coinsInBags : GoodIn wsX2_aboutAll wsX2_coinsInBags := goodIn_r _ [12, 13, 5, 6, 7, 8, 69, 70, 71, 72, 73, 74, 75, 76, 77, 78, 79, 80, 81] (by decide +kernel) (by decide +kernel)
set_option maxRecDepth 20000 in
theorem gX2_aboutAll_X2_coinsInBags : GoodIn wsX2_aboutAll (wsV RX2 131 RX2 yX2_coinsInBags wsX2_coinsInBags) := goodIn_app (goodIn_of _ (by decide +kernel)) ggX2_aboutAll_X2_coinsInBags
set_option maxRecDepth 20000 in
theorem ggX2_aboutAll_X2_stuckRails : GoodIn wsX2_aboutAll wsX2_stuckRails := goodIn_r _ [17, 18, 19, 20, 7, 21, 22, 69, 70, 71, 72, 73, 74, 75, 76, 77, 78, 79, 80, 81] (by decide +kernel) (by decide +kernel)
set_option maxRecDepth 20000 in
theorem gX2_aboutAll_X2_stuckRails : GoodIn wsX2_aboutAll (wsV RX2 135 RX2 yX2_stuckRails wsX2_stuckRails) := goodIn_app (goodIn_of _ (by decide +kernel)) ggX2_aboutAll_X2_stuckRails
set_option maxRecDepth 20000 in
theorem ggX2_aboutAll_X2_misfits : GoodIn wsX2_aboutAll wsX2_misfits := goodIn_r _ [26, 27, 28, 29, 7, 30, 1, 31, 32, 33, 34, 35, 13, 69, 70, 71, 72, 73, 74, 75, 76, 77, 78, 79, 80, 81] (by decide +kernel) (by decide +kernel)
set_option maxRecDepth 20000 in
theorem gX2_aboutAll_X2_misfits : GoodIn wsX2_aboutAll (wsV RX2 138 RX2 yX2_misfits wsX2_misfits) := goodIn_app (goodIn_of _ (by decide +kernel)) ggX2_aboutAll_X2_misfits
set_option maxRecDepth 20000 in
theorem ggX2_aboutAll_X2_supposedWorthOfAll : GoodIn wsX2_aboutAll wsX2_supposedWorthOfAll := goodIn_r _ [39, 40, 41, 42, 7, 43, 44, 45, 46, 47, 48, 1, 31, 49, 50, 51, 52, 13, 69, 70, 71, 72, 73, 74, 75, 76, 77, 78, 79, 80, 81] (by decide +kernel) (by decide +kernel)
set_option maxRecDepth 20000 in
theorem gX2_aboutAll_X2_supposedWorthOfAll : GoodIn wsX2_aboutAll (wsV RX2 141 RX2 yX2_supposedWorthOfAll wsX2_supposedWorthOfAll) := goodIn_app (goodIn_of _ (by decide +kernel)) ggX2_aboutAll_X2_supposedWorthOfAll
set_option maxRecDepth 20000 in
theorem ggX2_aboutAll_X2_trueWorthOfAll : GoodIn wsX2_aboutAll wsX2_trueWorthOfAll := goodIn_r _ [56, 57, 58, 59, 7, 60, 1, 44, 32, 33, 34, 35, 13, 69, 70, 71, 72, 73, 74, 75, 76, 77, 78, 79, 80, 81] (by decide +kernel) (by decide +kernel)
set_option maxRecDepth 20000 in
theorem gX2_aboutAll_X2_trueWorthOfAll : GoodIn wsX2_aboutAll (wsV RX2 144 RX2 yX2_trueWorthOfAll wsX2_trueWorthOfAll) := goodIn_app (goodIn_of _ (by decide +kernel)) ggX2_aboutAll_X2_trueWorthOfAll
set_option maxRecDepth 20000 in
theorem ggX2_aboutAll_X2_fullBags : GoodIn wsX2_aboutAll wsX2_fullBags := goodIn_r _ [64, 65, 66, 67, 7, 68, 49, 50, 51, 52, 13, 69, 70, 71, 72, 73, 74, 75, 76, 77, 78, 79, 80, 81] (by decide +kernel) (by decide +kernel)
set_option maxRecDepth 20000 in
theorem gX2_aboutAll_X2_fullBags : GoodIn wsX2_aboutAll (wsV RX2 147 RX2 yX2_fullBags wsX2_fullBags) := goodIn_app (goodIn_of _ (by decide +kernel)) ggX2_aboutAll_X2_fullBags
theorem dX2_aboutAll_0 : decode cX2_aboutAll 0 = .ok (.iload_n 1, 1) := by decide +kernel
theorem dX2_aboutAll_1 : decode cX2_aboutAll 1 = .ok (.tableswitch 102 0 8 #[51, 56, 64, 69, 74, 82, 87, 92, 97], 51) := by decide +kernel
theorem dX2_aboutAll_52 : decode cX2_aboutAll 52 = .ok (.aload_n 0, 1) := by decide +kernel
theorem dX2_aboutAll_53 : decode cX2_aboutAll 53 = .ok (.getfield 45, 3) := by decide +kernel
theorem dX2_aboutAll_56 : decode cX2_aboutAll 56 = .ok (.ireturn, 1) := by decide +kernel
theorem dX2_aboutAll_57 : decode cX2_aboutAll 57 = .ok (.aload_n 0, 1) := by decide +kernel
theorem dX2_aboutAll_58 : decode cX2_aboutAll 58 = .ok (.getfield 21, 3) := by decide +kernel
theorem dX2_aboutAll_61 : decode cX2_aboutAll 61 = .ok (.invokestatic 109, 3) := by decide +kernel
theorem dX2_aboutAll_64 : decode cX2_aboutAll 64 = .ok (.ireturn, 1) := by decide +kernel
theorem dX2_aboutAll_65 : decode cX2_aboutAll 65 = .ok (.aload_n 0, 1) := by decide +kernel
theorem dX2_aboutAll_66 : decode cX2_aboutAll 66 = .ok (.invokevirtual 131, 3) := by decide +kernel
theorem dX2_aboutAll_69 : decode cX2_aboutAll 69 = .ok (.ireturn, 1) := by decide +kernel
theorem dX2_aboutAll_70 : decode cX2_aboutAll 70 = .ok (.aload_n 0, 1) := by decide +kernel
theorem dX2_aboutAll_71 : decode cX2_aboutAll 71 = .ok (.invokevirtual 135, 3) := by decide +kernel
theorem dX2_aboutAll_74 : decode cX2_aboutAll 74 = .ok (.ireturn, 1) := by decide +kernel
theorem dX2_aboutAll_75 : decode cX2_aboutAll 75 = .ok (.aload_n 0, 1) := by decide +kernel
theorem dX2_aboutAll_76 : decode cX2_aboutAll 76 = .ok (.getfield 24, 3) := by decide +kernel
theorem dX2_aboutAll_79 : decode cX2_aboutAll 79 = .ok (.invokestatic 109, 3) := by decide +kernel
theorem dX2_aboutAll_82 : decode cX2_aboutAll 82 = .ok (.ireturn, 1) := by decide +kernel
theorem dX2_aboutAll_83 : decode cX2_aboutAll 83 = .ok (.aload_n 0, 1) := by decide +kernel
theorem dX2_aboutAll_84 : decode cX2_aboutAll 84 = .ok (.getfield 55, 3) := by decide +kernel
theorem dX2_aboutAll_87 : decode cX2_aboutAll 87 = .ok (.ireturn, 1) := by decide +kernel
theorem dX2_aboutAll_88 : decode cX2_aboutAll 88 = .ok (.aload_n 0, 1) := by decide +kernel
theorem dX2_aboutAll_89 : decode cX2_aboutAll 89 = .ok (.invokevirtual 138, 3) := by decide +kernel
theorem dX2_aboutAll_92 : decode cX2_aboutAll 92 = .ok (.ireturn, 1) := by decide +kernel
theorem dX2_aboutAll_93 : decode cX2_aboutAll 93 = .ok (.aload_n 0, 1) := by decide +kernel
theorem dX2_aboutAll_94 : decode cX2_aboutAll 94 = .ok (.invokevirtual 141, 3) := by decide +kernel
theorem dX2_aboutAll_97 : decode cX2_aboutAll 97 = .ok (.ireturn, 1) := by decide +kernel
theorem dX2_aboutAll_98 : decode cX2_aboutAll 98 = .ok (.aload_n 0, 1) := by decide +kernel
theorem dX2_aboutAll_99 : decode cX2_aboutAll 99 = .ok (.invokevirtual 144, 3) := by decide +kernel
theorem dX2_aboutAll_102 : decode cX2_aboutAll 102 = .ok (.ireturn, 1) := by decide +kernel
theorem dX2_aboutAll_103 : decode cX2_aboutAll 103 = .ok (.aload_n 0, 1) := by decide +kernel
theorem dX2_aboutAll_104 : decode cX2_aboutAll 104 = .ok (.invokevirtual 147, 3) := by decide +kernel
theorem dX2_aboutAll_107 : decode cX2_aboutAll 107 = .ok (.ireturn, 1) := by decide +kernel
theorem dX2_sum_0 : decode cX2_sum 0 = .ok (.iconst 0, 1) := by decide +kernel
theorem dX2_sum_1 : decode cX2_sum 1 = .ok (.istore_n 1, 1) := by decide +kernel
theorem dX2_sum_2 : decode cX2_sum 2 = .ok (.aload_n 0, 1) := by decide +kernel
theorem dX2_sum_3 : decode cX2_sum 3 = .ok (.astore_n 2, 1) := by decide +kernel
theorem dX2_sum_4 : decode cX2_sum 4 = .ok (.aload_n 2, 1) := by decide +kernel
theorem dX2_sum_5 : decode cX2_sum 5 = .ok (.arraylength, 1) := by decide +kernel
theorem dX2_sum_6 : decode cX2_sum 6 = .ok (.istore_n 3, 1) := by decide +kernel
theorem dX2_sum_7 : decode cX2_sum 7 = .ok (.iconst 0, 1) := by decide +kernel
theorem dX2_sum_8 : decode cX2_sum 8 = .ok (.istore 4, 2) := by decide +kernel
theorem dX2_sum_10 : decode cX2_sum 10 = .ok (.iload 4, 2) := by decide +kernel
theorem dX2_sum_12 : decode cX2_sum 12 = .ok (.iload_n 3, 1) := by decide +kernel
theorem dX2_sum_13 : decode cX2_sum 13 = .ok (.if_icmp .ge 20, 3) := by decide +kernel
theorem dX2_sum_16 : decode cX2_sum 16 = .ok (.aload_n 2, 1) := by decide +kernel
theorem dX2_sum_17 : decode cX2_sum 17 = .ok (.iload 4, 2) := by decide +kernel
theorem dX2_sum_19 : decode cX2_sum 19 = .ok (.iaload, 1) := by decide +kernel
theorem dX2_sum_20 : decode cX2_sum 20 = .ok (.istore 5, 2) := by decide +kernel
theorem dX2_sum_22 : decode cX2_sum 22 = .ok (.iload_n 1, 1) := by decide +kernel
theorem dX2_sum_23 : decode cX2_sum 23 = .ok (.iload 5, 2) := by decide +kernel
theorem dX2_sum_25 : decode cX2_sum 25 = .ok (.iadd, 1) := by decide +kernel
theorem dX2_sum_26 : decode cX2_sum 26 = .ok (.istore_n 1, 1) := by decide +kernel
theorem dX2_sum_27 : decode cX2_sum 27 = .ok (.iinc 4 1, 3) := by decide +kernel
theorem dX2_sum_30 : decode cX2_sum 30 = .ok (.goto (-20), 3) := by decide +kernel
theorem dX2_sum_33 : decode cX2_sum 33 = .ok (.iload_n 1, 1) := by decide +kernel
theorem dX2_sum_34 : decode cX2_sum 34 = .ok (.ireturn, 1) := by decide +kernel
theorem dX2_coinsOfKind_0 : decode cX2_coinsOfKind 0 = .ok (.aload_n 0, 1) := by decide +kernel
theorem dX2_coinsOfKind_1 : decode cX2_coinsOfKind 1 = .ok (.getfield 42, 3) := by decide +kernel
theorem dX2_coinsOfKind_4 : decode cX2_coinsOfKind 4 = .ok (.iload_n 1, 1) := by decide +kernel
theorem dX2_coinsOfKind_5 : decode cX2_coinsOfKind 5 = .ok (.bipush 6, 2) := by decide +kernel
theorem dX2_coinsOfKind_7 : decode cX2_coinsOfKind 7 = .ok (.imul, 1) := by decide +kernel
theorem dX2_coinsOfKind_8 : decode cX2_coinsOfKind 8 = .ok (.iload_n 2, 1) := by decide +kernel
theorem dX2_coinsOfKind_9 : decode cX2_coinsOfKind 9 = .ok (.iadd, 1) := by decide +kernel
theorem dX2_coinsOfKind_10 : decode cX2_coinsOfKind 10 = .ok (.iaload, 1) := by decide +kernel
theorem dX2_coinsOfKind_11 : decode cX2_coinsOfKind 11 = .ok (.ireturn, 1) := by decide +kernel
theorem dX2_coinsIn_0 : decode cX2_coinsIn 0 = .ok (.iconst 0, 1) := by decide +kernel
theorem dX2_coinsIn_1 : decode cX2_coinsIn 1 = .ok (.istore_n 2, 1) := by decide +kernel
theorem dX2_coinsIn_2 : decode cX2_coinsIn 2 = .ok (.iconst 0, 1) := by decide +kernel
theorem dX2_coinsIn_3 : decode cX2_coinsIn 3 = .ok (.istore_n 3, 1) := by decide +kernel
theorem dX2_coinsIn_4 : decode cX2_coinsIn 4 = .ok (.iload_n 3, 1) := by decide +kernel
theorem dX2_coinsIn_5 : decode cX2_coinsIn 5 = .ok (.bipush 6, 2) := by decide +kernel
theorem dX2_coinsIn_7 : decode cX2_coinsIn 7 = .ok (.if_icmp .ge 23, 3) := by decide +kernel
theorem dX2_coinsIn_10 : decode cX2_coinsIn 10 = .ok (.iload_n 2, 1) := by decide +kernel
theorem dX2_coinsIn_11 : decode cX2_coinsIn 11 = .ok (.aload_n 0, 1) := by decide +kernel
theorem dX2_coinsIn_12 : decode cX2_coinsIn 12 = .ok (.getfield 42, 3) := by decide +kernel
theorem dX2_coinsIn_15 : decode cX2_coinsIn 15 = .ok (.iload_n 1, 1) := by decide +kernel
theorem dX2_coinsIn_16 : decode cX2_coinsIn 16 = .ok (.bipush 6, 2) := by decide +kernel
theorem dX2_coinsIn_18 : decode cX2_coinsIn 18 = .ok (.imul, 1) := by decide +kernel
theorem dX2_coinsIn_19 : decode cX2_coinsIn 19 = .ok (.iload_n 3, 1) := by decide +kernel
theorem dX2_coinsIn_20 : decode cX2_coinsIn 20 = .ok (.iadd, 1) := by decide +kernel
theorem dX2_coinsIn_21 : decode cX2_coinsIn 21 = .ok (.iaload, 1) := by decide +kernel
theorem dX2_coinsIn_22 : decode cX2_coinsIn 22 = .ok (.iadd, 1) := by decide +kernel
theorem dX2_coinsIn_23 : decode cX2_coinsIn 23 = .ok (.istore_n 2, 1) := by decide +kernel
theorem dX2_coinsIn_24 : decode cX2_coinsIn 24 = .ok (.iinc 3 1, 3) := by decide +kernel
theorem dX2_coinsIn_27 : decode cX2_coinsIn 27 = .ok (.goto (-23), 3) := by decide +kernel
theorem dX2_coinsIn_30 : decode cX2_coinsIn 30 = .ok (.iload_n 2, 1) := by decide +kernel
theorem dX2_coinsIn_31 : decode cX2_coinsIn 31 = .ok (.ireturn, 1) := by decide +kernel
set_option maxRecDepth 20000 in
theorem ggX2_coinsInBags_X2_sum : GoodIn wsX2_coinsInBags wsX2_sum := goodIn_r _ [5] (by decide +kernel) (by decide +kernel)
set_option maxRecDepth 20000 in
theorem gX2_coinsInBags_X2_sum : GoodIn wsX2_coinsInBags (va_wsS RX2 109 yX2_sum wsX2_sum) := goodIn_app (goodIn_of _ (by decide +kernel)) ggX2_coinsInBags_X2_sum
theorem dX2_coinsInBags_0 : decode cX2_coinsInBags 0 = .ok (.aload_n 0, 1) := by decide +kernel
theorem dX2_coinsInBags_1 : decode cX2_coinsInBags 1 = .ok (.getfield 42, 3) := by decide +kernel
theorem dX2_coinsInBags_4 : decode cX2_coinsInBags 4 = .ok (.invokestatic 109, 3) := by decide +kernel
theorem dX2_coinsInBags_7 : decode cX2_coinsInBags 7 = .ok (.ireturn, 1) := by decide +kernel
set_option maxRecDepth 20000 in
theorem ggX2_coinsOfKindInBags_X2_coinsOfKind : GoodIn wsX2_coinsOfKindInBags wsX2_coinsOfKind := goodIn_r _ [5, 6, 7, 8, 9, 10, 11, 12, 13, 14, 15, 16, 17, 18, 19] (by decide +kernel) (by decide +kernel)
set_option maxRecDepth 20000 in
theorem gX2_coinsOfKindInBags_X2_coinsOfKind : GoodIn wsX2_coinsOfKindInBags (wsV RX2 150 RX2 yX2_coinsOfKind wsX2_coinsOfKind) := goodIn_app (goodIn_of _ (by decide +kernel)) ggX2_coinsOfKindInBags_X2_coinsOfKind
theorem dX2_coinsOfKindInBags_0 : decode cX2_coinsOfKindInBags 0 = .ok (.iconst 0, 1) := by decide +kernel
theorem dX2_coinsOfKindInBags_1 : decode cX2_coinsOfKindInBags 1 = .ok (.istore_n 2, 1) := by decide +kernel
theorem dX2_coinsOfKindInBags_2 : decode cX2_coinsOfKindInBags 2 = .ok (.iconst 0, 1) := by decide +kernel
theorem dX2_coinsOfKindInBags_3 : decode cX2_coinsOfKindInBags 3 = .ok (.istore_n 3, 1) := by decide +kernel
theorem dX2_coinsOfKindInBags_4 : decode cX2_coinsOfKindInBags 4 = .ok (.iload_n 3, 1) := by decide +kernel
theorem dX2_coinsOfKindInBags_5 : decode cX2_coinsOfKindInBags 5 = .ok (.bipush 6, 2) := by decide +kernel
theorem dX2_coinsOfKindInBags_7 : decode cX2_coinsOfKindInBags 7 = .ok (.if_icmp .ge 18, 3) := by decide +kernel
theorem dX2_coinsOfKindInBags_10 : decode cX2_coinsOfKindInBags 10 = .ok (.iload_n 2, 1) := by decide +kernel
theorem dX2_coinsOfKindInBags_11 : decode cX2_coinsOfKindInBags 11 = .ok (.aload_n 0, 1) := by decide +kernel
theorem dX2_coinsOfKindInBags_12 : decode cX2_coinsOfKindInBags 12 = .ok (.iload_n 3, 1) := by decide +kernel
theorem dX2_coinsOfKindInBags_13 : decode cX2_coinsOfKindInBags 13 = .ok (.iload_n 1, 1) := by decide +kernel
theorem dX2_coinsOfKindInBags_14 : decode cX2_coinsOfKindInBags 14 = .ok (.invokevirtual 150, 3) := by decide +kernel
theorem dX2_coinsOfKindInBags_17 : decode cX2_coinsOfKindInBags 17 = .ok (.iadd, 1) := by decide +kernel
theorem dX2_coinsOfKindInBags_18 : decode cX2_coinsOfKindInBags 18 = .ok (.istore_n 2, 1) := by decide +kernel
theorem dX2_coinsOfKindInBags_19 : decode cX2_coinsOfKindInBags 19 = .ok (.iinc 3 1, 3) := by decide +kernel
theorem dX2_coinsOfKindInBags_22 : decode cX2_coinsOfKindInBags 22 = .ok (.goto (-18), 3) := by decide +kernel
theorem dX2_coinsOfKindInBags_25 : decode cX2_coinsOfKindInBags 25 = .ok (.iload_n 2, 1) := by decide +kernel
theorem dX2_coinsOfKindInBags_26 : decode cX2_coinsOfKindInBags 26 = .ok (.ireturn, 1) := by decide +kernel
theorem dX2_stuckOfKind_0 : decode cX2_stuckOfKind 0 = .ok (.iconst 0, 1) := by decide +kernel
theorem dX2_stuckOfKind_1 : decode cX2_stuckOfKind 1 = .ok (.istore_n 2, 1) := by decide +kernel
theorem dX2_stuckOfKind_2 : decode cX2_stuckOfKind 2 = .ok (.iconst 0, 1) := by decide +kernel
theorem dX2_stuckOfKind_3 : decode cX2_stuckOfKind 3 = .ok (.istore_n 3, 1) := by decide +kernel
theorem dX2_stuckOfKind_4 : decode cX2_stuckOfKind 4 = .ok (.iload_n 3, 1) := by decide +kernel
theorem dX2_stuckOfKind_5 : decode cX2_stuckOfKind 5 = .ok (.bipush 6, 2) := by decide +kernel
theorem dX2_stuckOfKind_7 : decode cX2_stuckOfKind 7 = .ok (.if_icmp .ge 22, 3) := by decide +kernel
theorem dX2_stuckOfKind_10 : decode cX2_stuckOfKind 10 = .ok (.aload_n 0, 1) := by decide +kernel
theorem dX2_stuckOfKind_11 : decode cX2_stuckOfKind 11 = .ok (.getfield 33, 3) := by decide +kernel
theorem dX2_stuckOfKind_14 : decode cX2_stuckOfKind 14 = .ok (.iload_n 3, 1) := by decide +kernel
theorem dX2_stuckOfKind_15 : decode cX2_stuckOfKind 15 = .ok (.iaload, 1) := by decide +kernel
theorem dX2_stuckOfKind_16 : decode cX2_stuckOfKind 16 = .ok (.iload_n 1, 1) := by decide +kernel
theorem dX2_stuckOfKind_17 : decode cX2_stuckOfKind 17 = .ok (.if_icmp .ne 6, 3) := by decide +kernel
theorem dX2_stuckOfKind_20 : decode cX2_stuckOfKind 20 = .ok (.iinc 2 1, 3) := by decide +kernel
theorem dX2_stuckOfKind_23 : decode cX2_stuckOfKind 23 = .ok (.iinc 3 1, 3) := by decide +kernel
theorem dX2_stuckOfKind_26 : decode cX2_stuckOfKind 26 = .ok (.goto (-22), 3) := by decide +kernel
theorem dX2_stuckOfKind_29 : decode cX2_stuckOfKind 29 = .ok (.iload_n 2, 1) := by decide +kernel
theorem dX2_stuckOfKind_30 : decode cX2_stuckOfKind 30 = .ok (.ireturn, 1) := by decide +kernel
set_option maxRecDepth 20000 in
theorem ggX2_stuckRails_X2_isStuck : GoodIn wsX2_stuckRails wsX2_isStuck := goodIn_r _ [5, 6, 7, 8, 9, 10, 11, 12, 13, 14, 15, 16, 17, 18, 19] (by decide +kernel) (by decide +kernel)
set_option maxRecDepth 20000 in
theorem gX2_stuckRails_X2_isStuck : GoodIn wsX2_stuckRails (wsV RX2 69 RX2 yX2_isStuck wsX2_isStuck) := goodIn_app (goodIn_of _ (by decide +kernel)) ggX2_stuckRails_X2_isStuck
theorem dX2_stuckRails_0 : decode cX2_stuckRails 0 = .ok (.iconst 0, 1) := by decide +kernel
theorem dX2_stuckRails_1 : decode cX2_stuckRails 1 = .ok (.istore_n 1, 1) := by decide +kernel
theorem dX2_stuckRails_2 : decode cX2_stuckRails 2 = .ok (.iconst 0, 1) := by decide +kernel
theorem dX2_stuckRails_3 : decode cX2_stuckRails 3 = .ok (.istore_n 2, 1) := by decide +kernel
theorem dX2_stuckRails_4 : decode cX2_stuckRails 4 = .ok (.iload_n 2, 1) := by decide +kernel
theorem dX2_stuckRails_5 : decode cX2_stuckRails 5 = .ok (.bipush 6, 2) := by decide +kernel
theorem dX2_stuckRails_7 : decode cX2_stuckRails 7 = .ok (.if_icmp .ge 20, 3) := by decide +kernel
theorem dX2_stuckRails_10 : decode cX2_stuckRails 10 = .ok (.aload_n 0, 1) := by decide +kernel
theorem dX2_stuckRails_11 : decode cX2_stuckRails 11 = .ok (.iload_n 2, 1) := by decide +kernel
theorem dX2_stuckRails_12 : decode cX2_stuckRails 12 = .ok (.invokevirtual 69, 3) := by decide +kernel
theorem dX2_stuckRails_15 : decode cX2_stuckRails 15 = .ok (.ifCond .eq 6, 3) := by decide +kernel
theorem dX2_stuckRails_18 : decode cX2_stuckRails 18 = .ok (.iinc 1 1, 3) := by decide +kernel
theorem dX2_stuckRails_21 : decode cX2_stuckRails 21 = .ok (.iinc 2 1, 3) := by decide +kernel
theorem dX2_stuckRails_24 : decode cX2_stuckRails 24 = .ok (.goto (-20), 3) := by decide +kernel
theorem dX2_stuckRails_27 : decode cX2_stuckRails 27 = .ok (.iload_n 1, 1) := by decide +kernel
theorem dX2_stuckRails_28 : decode cX2_stuckRails 28 = .ok (.ireturn, 1) := by decide +kernel
set_option maxRecDepth 20000 in
theorem ggX2_fullBags_X2_isFull : GoodIn wsX2_fullBags wsX2_isFull := goodIn_r _ [5, 6, 7, 8, 4, 9, 10, 11, 12, 13, 14, 15, 16, 17, 18, 19, 20, 21, 22, 23] (by decide +kernel) (by decide +kernel)
set_option maxRecDepth 20000 in
theorem gX2_fullBags_X2_isFull : GoodIn wsX2_fullBags (wsV RX2 73 RX2 yX2_isFull wsX2_isFull) := goodIn_app (goodIn_of _ (by decide +kernel)) ggX2_fullBags_X2_isFull
theorem dX2_fullBags_0 : decode cX2_fullBags 0 = .ok (.iconst 0, 1) := by decide +kernel
theorem dX2_fullBags_1 : decode cX2_fullBags 1 = .ok (.istore_n 1, 1) := by decide +kernel
theorem dX2_fullBags_2 : decode cX2_fullBags 2 = .ok (.iconst 0, 1) := by decide +kernel
theorem dX2_fullBags_3 : decode cX2_fullBags 3 = .ok (.istore_n 2, 1) := by decide +kernel
theorem dX2_fullBags_4 : decode cX2_fullBags 4 = .ok (.iload_n 2, 1) := by decide +kernel
theorem dX2_fullBags_5 : decode cX2_fullBags 5 = .ok (.bipush 6, 2) := by decide +kernel
theorem dX2_fullBags_7 : decode cX2_fullBags 7 = .ok (.if_icmp .ge 20, 3) := by decide +kernel
theorem dX2_fullBags_10 : decode cX2_fullBags 10 = .ok (.aload_n 0, 1) := by decide +kernel
theorem dX2_fullBags_11 : decode cX2_fullBags 11 = .ok (.iload_n 2, 1) := by decide +kernel
theorem dX2_fullBags_12 : decode cX2_fullBags 12 = .ok (.invokevirtual 73, 3) := by decide +kernel
theorem dX2_fullBags_15 : decode cX2_fullBags 15 = .ok (.ifCond .eq 6, 3) := by decide +kernel
theorem dX2_fullBags_18 : decode cX2_fullBags 18 = .ok (.iinc 1 1, 3) := by decide +kernel
theorem dX2_fullBags_21 : decode cX2_fullBags 21 = .ok (.iinc 2 1, 3) := by decide +kernel
theorem dX2_fullBags_24 : decode cX2_fullBags 24 = .ok (.goto (-20), 3) := by decide +kernel
theorem dX2_fullBags_27 : decode cX2_fullBags 27 = .ok (.iload_n 1, 1) := by decide +kernel
theorem dX2_fullBags_28 : decode cX2_fullBags 28 = .ok (.ireturn, 1) := by decide +kernel
theorem dX2_kindOfRail_0 : decode cX2_kindOfRail 0 = .ok (.iconst 0, 1) := by decide +kernel
theorem dX2_kindOfRail_1 : decode cX2_kindOfRail 1 = .ok (.istore_n 2, 1) := by decide +kernel
theorem dX2_kindOfRail_2 : decode cX2_kindOfRail 2 = .ok (.iload_n 2, 1) := by decide +kernel
theorem dX2_kindOfRail_3 : decode cX2_kindOfRail 3 = .ok (.aload_n 0, 1) := by decide +kernel
theorem dX2_kindOfRail_4 : decode cX2_kindOfRail 4 = .ok (.getfield 45, 3) := by decide +kernel
theorem dX2_kindOfRail_7 : decode cX2_kindOfRail 7 = .ok (.if_icmp .ge 21, 3) := by decide +kernel
theorem dX2_kindOfRail_10 : decode cX2_kindOfRail 10 = .ok (.aload_n 0, 1) := by decide +kernel
theorem dX2_kindOfRail_11 : decode cX2_kindOfRail 11 = .ok (.getfield 18, 3) := by decide +kernel
theorem dX2_kindOfRail_14 : decode cX2_kindOfRail 14 = .ok (.iload_n 2, 1) := by decide +kernel
theorem dX2_kindOfRail_15 : decode cX2_kindOfRail 15 = .ok (.iaload, 1) := by decide +kernel
theorem dX2_kindOfRail_16 : decode cX2_kindOfRail 16 = .ok (.iload_n 1, 1) := by decide +kernel
theorem dX2_kindOfRail_17 : decode cX2_kindOfRail 17 = .ok (.if_icmp .ne 5, 3) := by decide +kernel
theorem dX2_kindOfRail_20 : decode cX2_kindOfRail 20 = .ok (.iload_n 2, 1) := by decide +kernel
theorem dX2_kindOfRail_21 : decode cX2_kindOfRail 21 = .ok (.ireturn, 1) := by decide +kernel
theorem dX2_kindOfRail_22 : decode cX2_kindOfRail 22 = .ok (.iinc 2 1, 3) := by decide +kernel
theorem dX2_kindOfRail_25 : decode cX2_kindOfRail 25 = .ok (.goto (-23), 3) := by decide +kernel
theorem dX2_kindOfRail_28 : decode cX2_kindOfRail 28 = .ok (.iconst (-1), 1) := by decide +kernel
theorem dX2_kindOfRail_29 : decode cX2_kindOfRail 29 = .ok (.ireturn, 1) := by decide +kernel
set_option maxRecDepth 20000 in
theorem ggX2_supposedWorth_X2_kindOfRail : GoodIn wsX2_supposedWorth wsX2_kindOfRail := goodIn_r _ [6, 7, 8, 14, 15, 16, 17, 18, 19, 20, 21, 22, 23, 24, 25, 26] (by decide +kernel) (by decide +kernel)
set_option maxRecDepth 20000 in
theorem gX2_supposedWorth_X2_kindOfRail : GoodIn wsX2_supposedWorth (wsV RX2 128 RX2 yX2_kindOfRail wsX2_kindOfRail) := goodIn_app (goodIn_of _ (by decide +kernel)) ggX2_supposedWorth_X2_kindOfRail
set_option maxRecDepth 20000 in
theorem ggX2_supposedWorth_X2_coinsIn : GoodIn wsX2_supposedWorth wsX2_coinsIn := goodIn_r _ [12, 13, 14, 15, 16, 17, 18, 19, 20, 21, 22, 23, 24, 25, 26] (by decide +kernel) (by decide +kernel)
set_option maxRecDepth 20000 in
theorem gX2_supposedWorth_X2_coinsIn : GoodIn wsX2_supposedWorth (wsV RX2 58 RX2 yX2_coinsIn wsX2_coinsIn) := goodIn_app (goodIn_of _ (by decide +kernel)) ggX2_supposedWorth_X2_coinsIn
theorem dX2_supposedWorth_0 : decode cX2_supposedWorth 0 = .ok (.aload_n 0, 1) := by decide +kernel
theorem dX2_supposedWorth_1 : decode cX2_supposedWorth 1 = .ok (.iload_n 1, 1) := by decide +kernel
theorem dX2_supposedWorth_2 : decode cX2_supposedWorth 2 = .ok (.invokevirtual 128, 3) := by decide +kernel
theorem dX2_supposedWorth_5 : decode cX2_supposedWorth 5 = .ok (.istore_n 2, 1) := by decide +kernel
theorem dX2_supposedWorth_6 : decode cX2_supposedWorth 6 = .ok (.iload_n 2, 1) := by decide +kernel
theorem dX2_supposedWorth_7 : decode cX2_supposedWorth 7 = .ok (.iconst (-1), 1) := by decide +kernel
theorem dX2_supposedWorth_8 : decode cX2_supposedWorth 8 = .ok (.if_icmp .ne 7, 3) := by decide +kernel
theorem dX2_supposedWorth_11 : decode cX2_supposedWorth 11 = .ok (.iconst 0, 1) := by decide +kernel
theorem dX2_supposedWorth_12 : decode cX2_supposedWorth 12 = .ok (.goto 15, 3) := by decide +kernel
theorem dX2_supposedWorth_15 : decode cX2_supposedWorth 15 = .ok (.aload_n 0, 1) := by decide +kernel
