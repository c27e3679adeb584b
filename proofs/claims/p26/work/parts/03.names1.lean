theorem dX0_init_0 : decode cX0_init 0 = .ok (.aload_n 0, 1) := by decide +kernel
theorem dX0_init_1 : decode cX0_init 1 = .ok (.invokespecial 3, 3) := by decide +kernel
theorem dX0_init_4 : decode cX0_init 4 = .ok (.aload_n 0, 1) := by decide +kernel
theorem dX0_init_5 : decode cX0_init 5 = .ok (.bipush 90, 2) := by decide +kernel
theorem dX0_init_7 : decode cX0_init 7 = .ok (.newarray .int, 2) := by decide +kernel
theorem dX0_init_9 : decode cX0_init 9 = .ok (.putfield 9, 3) := by decide +kernel
theorem dX0_init_12 : decode cX0_init 12 = .ok (.aload_n 0, 1) := by decide +kernel
theorem dX0_init_13 : decode cX0_init 13 = .ok (.bipush 45, 2) := by decide +kernel
theorem dX0_init_15 : decode cX0_init 15 = .ok (.newarray .int, 2) := by decide +kernel
theorem dX0_init_17 : decode cX0_init 17 = .ok (.putfield 15, 3) := by decide +kernel
theorem dX0_init_20 : decode cX0_init 20 = .ok (.aload_n 0, 1) := by decide +kernel
theorem dX0_init_21 : decode cX0_init 21 = .ok (.bipush 45, 2) := by decide +kernel
theorem dX0_init_23 : decode cX0_init 23 = .ok (.newarray .int, 2) := by decide +kernel
theorem dX0_init_25 : decode cX0_init 25 = .ok (.putfield 18, 3) := by decide +kernel
theorem dX0_init_28 : decode cX0_init 28 = .ok (.return_, 1) := by decide +kernel
set_option maxRecDepth 20000 in
theorem ggX1_init_X2_init : GoodIn wsX1_init wsX2_init := goodIn_r _ [10, 11, 2, 3, 12, 13, 14, 15, 16, 17, 18, 19, 20, 21, 22, 23, 27, 28, 29, 30, 31, 32, 33, 34, 35, 36, 37, 38, 39] (by decide +kernel) (by decide +kernel)
set_option maxRecDepth 20000 in
theorem gX1_init_X2_init : GoodIn wsX1_init (wsX2_init) := ggX1_init_X2_init
theorem dX1_init_0 : decode cX1_init 0 = .ok (.aload_n 0, 1) := by decide +kernel
theorem dX1_init_1 : decode cX1_init 1 = .ok (.invokespecial 3, 3) := by decide +kernel
theorem dX1_init_4 : decode cX1_init 4 = .ok (.aload_n 0, 1) := by decide +kernel
theorem dX1_init_5 : decode cX1_init 5 = .ok (.iconst 4, 1) := by decide +kernel
theorem dX1_init_6 : decode cX1_init 6 = .ok (.anewarray 9, 3) := by decide +kernel
theorem dX1_init_9 : decode cX1_init 9 = .ok (.putfield 11, 3) := by decide +kernel
theorem dX1_init_12 : decode cX1_init 12 = .ok (.iconst 0, 1) := by decide +kernel
theorem dX1_init_13 : decode cX1_init 13 = .ok (.istore_n 1, 1) := by decide +kernel
theorem dX1_init_14 : decode cX1_init 14 = .ok (.iload_n 1, 1) := by decide +kernel
theorem dX1_init_15 : decode cX1_init 15 = .ok (.iconst 4, 1) := by decide +kernel
theorem dX1_init_16 : decode cX1_init 16 = .ok (.if_icmp .ge 22, 3) := by decide +kernel
theorem dX1_init_19 : decode cX1_init 19 = .ok (.aload_n 0, 1) := by decide +kernel
theorem dX1_init_20 : decode cX1_init 20 = .ok (.getfield 11, 3) := by decide +kernel
theorem dX1_init_23 : decode cX1_init 23 = .ok (.iload_n 1, 1) := by decide +kernel
theorem dX1_init_24 : decode cX1_init 24 = .ok (.new 9, 3) := by decide +kernel
theorem dX1_init_27 : decode cX1_init 27 = .ok (.dup, 1) := by decide +kernel
theorem dX1_init_28 : decode cX1_init 28 = .ok (.invokespecial 17, 3) := by decide +kernel
theorem dX1_init_31 : decode cX1_init 31 = .ok (.aastore, 1) := by decide +kernel
theorem dX1_init_32 : decode cX1_init 32 = .ok (.iinc 1 1, 3) := by decide +kernel
theorem dX1_init_35 : decode cX1_init 35 = .ok (.goto (-21), 3) := by decide +kernel
theorem dX1_init_38 : decode cX1_init 38 = .ok (.return_, 1) := by decide +kernel
set_option maxRecDepth 20000 in
theorem ggX1_save_X2_copyFrom : GoodIn wsX1_save wsX2_copyFrom := goodIn_r _ [12, 13, 14, 15, 16, 17, 18, 19, 20, 21, 22, 23, 24, 25, 26, 27, 28, 29, 33, 34, 35, 36, 37, 38, 39, 40, 41, 42, 43, 44, 45] (by decide +kernel) (by decide +kernel)
set_option maxRecDepth 20000 in
theorem gX1_save_X2_copyFrom : GoodIn wsX1_save (wsV RX1 22 RX2 yX2_copyFrom wsX2_copyFrom) := goodIn_app (goodIn_of _ (by decide +kernel)) ggX1_save_X2_copyFrom
theorem dX1_save_0 : decode cX1_save 0 = .ok (.aload_n 0, 1) := by decide +kernel
theorem dX1_save_1 : decode cX1_save 1 = .ok (.getfield 11, 3) := by decide +kernel
theorem dX1_save_4 : decode cX1_save 4 = .ok (.aload_n 0, 1) := by decide +kernel
theorem dX1_save_5 : decode cX1_save 5 = .ok (.getfield 18, 3) := by decide +kernel
theorem dX1_save_8 : decode cX1_save 8 = .ok (.aaload, 1) := by decide +kernel
theorem dX1_save_9 : decode cX1_save 9 = .ok (.aload_n 1, 1) := by decide +kernel
theorem dX1_save_10 : decode cX1_save 10 = .ok (.invokevirtual 22, 3) := by decide +kernel
theorem dX1_save_13 : decode cX1_save 13 = .ok (.aload_n 0, 1) := by decide +kernel
theorem dX1_save_14 : decode cX1_save 14 = .ok (.aload_n 0, 1) := by decide +kernel
theorem dX1_save_15 : decode cX1_save 15 = .ok (.getfield 18, 3) := by decide +kernel
theorem dX1_save_18 : decode cX1_save 18 = .ok (.iconst 1, 1) := by decide +kernel
theorem dX1_save_19 : decode cX1_save 19 = .ok (.iadd, 1) := by decide +kernel
theorem dX1_save_20 : decode cX1_save 20 = .ok (.iconst 4, 1) := by decide +kernel
theorem dX1_save_21 : decode cX1_save 21 = .ok (.irem, 1) := by decide +kernel
theorem dX1_save_22 : decode cX1_save 22 = .ok (.putfield 18, 3) := by decide +kernel
theorem dX1_save_25 : decode cX1_save 25 = .ok (.aload_n 0, 1) := by decide +kernel
theorem dX1_save_26 : decode cX1_save 26 = .ok (.iconst 4, 1) := by decide +kernel
theorem dX1_save_27 : decode cX1_save 27 = .ok (.aload_n 0, 1) := by decide +kernel
theorem dX1_save_28 : decode cX1_save 28 = .ok (.getfield 26, 3) := by decide +kernel
theorem dX1_save_31 : decode cX1_save 31 = .ok (.iconst 1, 1) := by decide +kernel
theorem dX1_save_32 : decode cX1_save 32 = .ok (.iadd, 1) := by decide +kernel
theorem dX1_save_33 : decode cX1_save 33 = .ok (.invokestatic 29, 3) := by decide +kernel
theorem dX1_save_36 : decode cX1_save 36 = .ok (.putfield 26, 3) := by decide +kernel
theorem dX1_save_39 : decode cX1_save 39 = .ok (.return_, 1) := by decide +kernel
set_option maxRecDepth 20000 in
theorem ggX1_restore_X2_copyFrom : GoodIn wsX1_restore wsX2_copyFrom := goodIn_r _ [8, 9, 10, 11, 12, 13, 14, 15, 16, 17, 18, 19, 20, 21, 22, 23, 24, 25, 29, 30, 31, 32, 33, 34, 35, 36, 37, 38, 39, 40, 41] (by decide +kernel) (by decide +kernel)
set_option maxRecDepth 20000 in
theorem gX1_restore_X2_copyFrom : GoodIn wsX1_restore (wsV RX1 22 RX2 yX2_copyFrom wsX2_copyFrom) := goodIn_app (goodIn_of _ (by decide +kernel)) ggX1_restore_X2_copyFrom
theorem dX1_restore_0 : decode cX1_restore 0 = .ok (.aload_n 0, 1) := by decide +kernel
theorem dX1_restore_1 : decode cX1_restore 1 = .ok (.aload_n 0, 1) := by decide +kernel
theorem dX1_restore_2 : decode cX1_restore 2 = .ok (.getfield 18, 3) := by decide +kernel
theorem dX1_restore_5 : decode cX1_restore 5 = .ok (.iconst 4, 1) := by decide +kernel
theorem dX1_restore_6 : decode cX1_restore 6 = .ok (.iadd, 1) := by decide +kernel
theorem dX1_restore_7 : decode cX1_restore 7 = .ok (.iconst 1, 1) := by decide +kernel
theorem dX1_restore_8 : decode cX1_restore 8 = .ok (.isub, 1) := by decide +kernel
theorem dX1_restore_9 : decode cX1_restore 9 = .ok (.iconst 4, 1) := by decide +kernel
theorem dX1_restore_10 : decode cX1_restore 10 = .ok (.irem, 1) := by decide +kernel
theorem dX1_restore_11 : decode cX1_restore 11 = .ok (.putfield 18, 3) := by decide +kernel
theorem dX1_restore_14 : decode cX1_restore 14 = .ok (.aload_n 0, 1) := by decide +kernel
theorem dX1_restore_15 : decode cX1_restore 15 = .ok (.dup, 1) := by decide +kernel
theorem dX1_restore_16 : decode cX1_restore 16 = .ok (.getfield 26, 3) := by decide +kernel
theorem dX1_restore_19 : decode cX1_restore 19 = .ok (.iconst 1, 1) := by decide +kernel
theorem dX1_restore_20 : decode cX1_restore 20 = .ok (.isub, 1) := by decide +kernel
theorem dX1_restore_21 : decode cX1_restore 21 = .ok (.putfield 26, 3) := by decide +kernel
theorem dX1_restore_24 : decode cX1_restore 24 = .ok (.aload_n 1, 1) := by decide +kernel
theorem dX1_restore_25 : decode cX1_restore 25 = .ok (.aload_n 0, 1) := by decide +kernel
theorem dX1_restore_26 : decode cX1_restore 26 = .ok (.getfield 11, 3) := by decide +kernel
theorem dX1_restore_29 : decode cX1_restore 29 = .ok (.aload_n 0, 1) := by decide +kernel
theorem dX1_restore_30 : decode cX1_restore 30 = .ok (.getfield 18, 3) := by decide +kernel
theorem dX1_restore_33 : decode cX1_restore 33 = .ok (.aaload, 1) := by decide +kernel
theorem dX1_restore_34 : decode cX1_restore 34 = .ok (.invokevirtual 22, 3) := by decide +kernel
theorem dX1_restore_37 : decode cX1_restore 37 = .ok (.aload_n 0, 1) := by decide +kernel
theorem dX1_restore_38 : decode cX1_restore 38 = .ok (.getfield 26, 3) := by decide +kernel
theorem dX1_restore_41 : decode cX1_restore 41 = .ok (.ireturn, 1) := by decide +kernel
theorem dX2_init_0 : decode cX2_init 0 = .ok (.aload_n 0, 1) := by decide +kernel
theorem dX2_init_1 : decode cX2_init 1 = .ok (.invokespecial 3, 3) := by decide +kernel
theorem dX2_init_4 : decode cX2_init 4 = .ok (.aload_n 0, 1) := by decide +kernel
theorem dX2_init_5 : decode cX2_init 5 = .ok (.bipush 6, 2) := by decide +kernel
theorem dX2_init_7 : decode cX2_init 7 = .ok (.newarray .int, 2) := by decide +kernel
theorem dX2_init_9 : decode cX2_init 9 = .ok (.putfield 9, 3) := by decide +kernel
theorem dX2_init_12 : decode cX2_init 12 = .ok (.aload_n 0, 1) := by decide +kernel
theorem dX2_init_13 : decode cX2_init 13 = .ok (.bipush 6, 2) := by decide +kernel
theorem dX2_init_15 : decode cX2_init 15 = .ok (.newarray .int, 2) := by decide +kernel
theorem dX2_init_17 : decode cX2_init 17 = .ok (.putfield 15, 3) := by decide +kernel
theorem dX2_init_20 : decode cX2_init 20 = .ok (.aload_n 0, 1) := by decide +kernel
theorem dX2_init_21 : decode cX2_init 21 = .ok (.bipush 6, 2) := by decide +kernel
theorem dX2_init_23 : decode cX2_init 23 = .ok (.newarray .int, 2) := by decide +kernel
theorem dX2_init_25 : decode cX2_init 25 = .ok (.putfield 18, 3) := by decide +kernel
theorem dX2_init_28 : decode cX2_init 28 = .ok (.aload_n 0, 1) := by decide +kernel
theorem dX2_init_29 : decode cX2_init 29 = .ok (.bipush 6, 2) := by decide +kernel
theorem dX2_init_31 : decode cX2_init 31 = .ok (.newarray .int, 2) := by decide +kernel
theorem dX2_init_33 : decode cX2_init 33 = .ok (.putfield 21, 3) := by decide +kernel
theorem dX2_init_36 : decode cX2_init 36 = .ok (.aload_n 0, 1) := by decide +kernel
theorem dX2_init_37 : decode cX2_init 37 = .ok (.bipush 6, 2) := by decide +kernel
theorem dX2_init_39 : decode cX2_init 39 = .ok (.newarray .int, 2) := by decide +kernel
theorem dX2_init_41 : decode cX2_init 41 = .ok (.putfield 24, 3) := by decide +kernel
theorem dX2_init_44 : decode cX2_init 44 = .ok (.aload_n 0, 1) := by decide +kernel
theorem dX2_init_45 : decode cX2_init 45 = .ok (.bipush 6, 2) := by decide +kernel
theorem dX2_init_47 : decode cX2_init 47 = .ok (.newarray .int, 2) := by decide +kernel
theorem dX2_init_49 : decode cX2_init 49 = .ok (.putfield 27, 3) := by decide +kernel
theorem dX2_init_52 : decode cX2_init 52 = .ok (.aload_n 0, 1) := by decide +kernel
theorem dX2_init_53 : decode cX2_init 53 = .ok (.bipush 6, 2) := by decide +kernel
theorem dX2_init_55 : decode cX2_init 55 = .ok (.newarray .int, 2) := by decide +kernel
theorem dX2_init_57 : decode cX2_init 57 = .ok (.putfield 30, 3) := by decide +kernel
theorem dX2_init_60 : decode cX2_init 60 = .ok (.aload_n 0, 1) := by decide +kernel
theorem dX2_init_61 : decode cX2_init 61 = .ok (.bipush 6, 2) := by decide +kernel
theorem dX2_init_63 : decode cX2_init 63 = .ok (.newarray .int, 2) := by decide +kernel
theorem dX2_init_65 : decode cX2_init 65 = .ok (.putfield 33, 3) := by decide +kernel
theorem dX2_init_68 : decode cX2_init 68 = .ok (.aload_n 0, 1) := by decide +kernel
theorem dX2_init_69 : decode cX2_init 69 = .ok (.bipush 6, 2) := by decide +kernel
theorem dX2_init_71 : decode cX2_init 71 = .ok (.newarray .int, 2) := by decide +kernel
theorem dX2_init_73 : decode cX2_init 73 = .ok (.putfield 36, 3) := by decide +kernel
theorem dX2_init_76 : decode cX2_init 76 = .ok (.aload_n 0, 1) := by decide +kernel
theorem dX2_init_77 : decode cX2_init 77 = .ok (.bipush 6, 2) := by decide +kernel
theorem dX2_init_79 : decode cX2_init 79 = .ok (.newarray .int, 2) := by decide +kernel
theorem dX2_init_81 : decode cX2_init 81 = .ok (.putfield 39, 3) := by decide +kernel
theorem dX2_init_84 : decode cX2_init 84 = .ok (.aload_n 0, 1) := by decide +kernel
theorem dX2_init_85 : decode cX2_init 85 = .ok (.bipush 36, 2) := by decide +kernel
theorem dX2_init_87 : decode cX2_init 87 = .ok (.newarray .int, 2) := by decide +kernel
theorem dX2_init_89 : decode cX2_init 89 = .ok (.putfield 42, 3) := by decide +kernel
theorem dX2_init_92 : decode cX2_init 92 = .ok (.iconst 0, 1) := by decide +kernel
theorem dX2_init_93 : decode cX2_init 93 = .ok (.istore_n 1, 1) := by decide +kernel
theorem dX2_init_94 : decode cX2_init 94 = .ok (.iload_n 1, 1) := by decide +kernel
theorem dX2_init_95 : decode cX2_init 95 = .ok (.bipush 6, 2) := by decide +kernel
theorem dX2_init_97 : decode cX2_init 97 = .ok (.if_icmp .ge 38, 3) := by decide +kernel
theorem dX2_init_100 : decode cX2_init 100 = .ok (.aload_n 0, 1) := by decide +kernel
theorem dX2_init_101 : decode cX2_init 101 = .ok (.getfield 27, 3) := by decide +kernel
theorem dX2_init_104 : decode cX2_init 104 = .ok (.iload_n 1, 1) := by decide +kernel
theorem dX2_init_105 : decode cX2_init 105 = .ok (.sipush 1500, 3) := by decide +kernel
theorem dX2_init_108 : decode cX2_init 108 = .ok (.sipush 400, 3) := by decide +kernel
theorem dX2_init_111 : decode cX2_init 111 = .ok (.iload_n 1, 1) := by decide +kernel
theorem dX2_init_112 : decode cX2_init 112 = .ok (.imul, 1) := by decide +kernel
theorem dX2_init_113 : decode cX2_init 113 = .ok (.iadd, 1) := by decide +kernel
theorem dX2_init_114 : decode cX2_init 114 = .ok (.iastore, 1) := by decide +kernel
theorem dX2_init_115 : decode cX2_init 115 = .ok (.aload_n 0, 1) := by decide +kernel
theorem dX2_init_116 : decode cX2_init 116 = .ok (.getfield 33, 3) := by decide +kernel
theorem dX2_init_119 : decode cX2_init 119 = .ok (.iload_n 1, 1) := by decide +kernel
theorem dX2_init_120 : decode cX2_init 120 = .ok (.iconst (-1), 1) := by decide +kernel
theorem dX2_init_121 : decode cX2_init 121 = .ok (.iastore, 1) := by decide +kernel
theorem dX2_init_122 : decode cX2_init 122 = .ok (.aload_n 0, 1) := by decide +kernel
theorem dX2_init_123 : decode cX2_init 123 = .ok (.getfield 36, 3) := by decide +kernel
theorem dX2_init_126 : decode cX2_init 126 = .ok (.iload_n 1, 1) := by decide +kernel
theorem dX2_init_127 : decode cX2_init 127 = .ok (.iconst (-1), 1) := by decide +kernel
theorem dX2_init_128 : decode cX2_init 128 = .ok (.iastore, 1) := by decide +kernel
theorem dX2_init_129 : decode cX2_init 129 = .ok (.iinc 1 1, 3) := by decide +kernel
theorem dX2_init_132 : decode cX2_init 132 = .ok (.goto (-38), 3) := by decide +kernel
theorem dX2_init_135 : decode cX2_init 135 = .ok (.return_, 1) := by decide +kernel
theorem dX2_copyFrom_0 : decode cX2_copyFrom 0 = .ok (.aload_n 0, 1) := by decide +kernel
theorem dX2_copyFrom_1 : decode cX2_copyFrom 1 = .ok (.aload_n 1, 1) := by decide +kernel
theorem dX2_copyFrom_2 : decode cX2_copyFrom 2 = .ok (.getfield 45, 3) := by decide +kernel
theorem dX2_copyFrom_5 : decode cX2_copyFrom 5 = .ok (.putfield 45, 3) := by decide +kernel
theorem dX2_copyFrom_8 : decode cX2_copyFrom 8 = .ok (.aload_n 1, 1) := by decide +kernel
theorem dX2_copyFrom_9 : decode cX2_copyFrom 9 = .ok (.getfield 9, 3) := by decide +kernel
theorem dX2_copyFrom_12 : decode cX2_copyFrom 12 = .ok (.iconst 0, 1) := by decide +kernel
theorem dX2_copyFrom_13 : decode cX2_copyFrom 13 = .ok (.aload_n 0, 1) := by decide +kernel
theorem dX2_copyFrom_14 : decode cX2_copyFrom 14 = .ok (.getfield 9, 3) := by decide +kernel
theorem dX2_copyFrom_17 : decode cX2_copyFrom 17 = .ok (.iconst 0, 1) := by decide +kernel
theorem dX2_copyFrom_18 : decode cX2_copyFrom 18 = .ok (.bipush 6, 2) := by decide +kernel
theorem dX2_copyFrom_20 : decode cX2_copyFrom 20 = .ok (.invokestatic 49, 3) := by decide +kernel
theorem dX2_copyFrom_23 : decode cX2_copyFrom 23 = .ok (.aload_n 1, 1) := by decide +kernel
theorem dX2_copyFrom_24 : decode cX2_copyFrom 24 = .ok (.getfield 15, 3) := by decide +kernel
theorem dX2_copyFrom_27 : decode cX2_copyFrom 27 = .ok (.iconst 0, 1) := by decide +kernel
theorem dX2_copyFrom_28 : decode cX2_copyFrom 28 = .ok (.aload_n 0, 1) := by decide +kernel
theorem dX2_copyFrom_29 : decode cX2_copyFrom 29 = .ok (.getfield 15, 3) := by decide +kernel
theorem dX2_copyFrom_32 : decode cX2_copyFrom 32 = .ok (.iconst 0, 1) := by decide +kernel
theorem dX2_copyFrom_33 : decode cX2_copyFrom 33 = .ok (.bipush 6, 2) := by decide +kernel
theorem dX2_copyFrom_35 : decode cX2_copyFrom 35 = .ok (.invokestatic 49, 3) := by decide +kernel
theorem dX2_copyFrom_38 : decode cX2_copyFrom 38 = .ok (.aload_n 1, 1) := by decide +kernel
theorem dX2_copyFrom_39 : decode cX2_copyFrom 39 = .ok (.getfield 18, 3) := by decide +kernel
theorem dX2_copyFrom_42 : decode cX2_copyFrom 42 = .ok (.iconst 0, 1) := by decide +kernel
theorem dX2_copyFrom_43 : decode cX2_copyFrom 43 = .ok (.aload_n 0, 1) := by decide +kernel
theorem dX2_copyFrom_44 : decode cX2_copyFrom 44 = .ok (.getfield 18, 3) := by decide +kernel
theorem dX2_copyFrom_47 : decode cX2_copyFrom 47 = .ok (.iconst 0, 1) := by decide +kernel
theorem dX2_copyFrom_48 : decode cX2_copyFrom 48 = .ok (.bipush 6, 2) := by decide +kernel
theorem dX2_copyFrom_50 : decode cX2_copyFrom 50 = .ok (.invokestatic 49, 3) := by decide +kernel
theorem dX2_copyFrom_53 : decode cX2_copyFrom 53 = .ok (.aload_n 1, 1) := by decide +kernel
theorem dX2_copyFrom_54 : decode cX2_copyFrom 54 = .ok (.getfield 21, 3) := by decide +kernel
theorem dX2_copyFrom_57 : decode cX2_copyFrom 57 = .ok (.iconst 0, 1) := by decide +kernel
theorem dX2_copyFrom_58 : decode cX2_copyFrom 58 = .ok (.aload_n 0, 1) := by decide +kernel
theorem dX2_copyFrom_59 : decode cX2_copyFrom 59 = .ok (.getfield 21, 3) := by decide +kernel
theorem dX2_copyFrom_62 : decode cX2_copyFrom 62 = .ok (.iconst 0, 1) := by decide +kernel
theorem dX2_copyFrom_63 : decode cX2_copyFrom 63 = .ok (.bipush 6, 2) := by decide +kernel
theorem dX2_copyFrom_65 : decode cX2_copyFrom 65 = .ok (.invokestatic 49, 3) := by decide +kernel
theorem dX2_copyFrom_68 : decode cX2_copyFrom 68 = .ok (.aload_n 1, 1) := by decide +kernel
theorem dX2_copyFrom_69 : decode cX2_copyFrom 69 = .ok (.getfield 24, 3) := by decide +kernel
theorem dX2_copyFrom_72 : decode cX2_copyFrom 72 = .ok (.iconst 0, 1) := by decide +kernel
theorem dX2_copyFrom_73 : decode cX2_copyFrom 73 = .ok (.aload_n 0, 1) := by decide +kernel
theorem dX2_copyFrom_74 : decode cX2_copyFrom 74 = .ok (.getfield 24, 3) := by decide +kernel
theorem dX2_copyFrom_77 : decode cX2_copyFrom 77 = .ok (.iconst 0, 1) := by decide +kernel
theorem dX2_copyFrom_78 : decode cX2_copyFrom 78 = .ok (.bipush 6, 2) := by decide +kernel
theorem dX2_copyFrom_80 : decode cX2_copyFrom 80 = .ok (.invokestatic 49, 3) := by decide +kernel
theorem dX2_copyFrom_83 : decode cX2_copyFrom 83 = .ok (.aload_n 1, 1) := by decide +kernel
theorem dX2_copyFrom_84 : decode cX2_copyFrom 84 = .ok (.getfield 27, 3) := by decide +kernel
theorem dX2_copyFrom_87 : decode cX2_copyFrom 87 = .ok (.iconst 0, 1) := by decide +kernel
theorem dX2_copyFrom_88 : decode cX2_copyFrom 88 = .ok (.aload_n 0, 1) := by decide +kernel
theorem dX2_copyFrom_89 : decode cX2_copyFrom 89 = .ok (.getfield 27, 3) := by decide +kernel
theorem dX2_copyFrom_92 : decode cX2_copyFrom 92 = .ok (.iconst 0, 1) := by decide +kernel
theorem dX2_copyFrom_93 : decode cX2_copyFrom 93 = .ok (.bipush 6, 2) := by decide +kernel
theorem dX2_copyFrom_95 : decode cX2_copyFrom 95 = .ok (.invokestatic 49, 3) := by decide +kernel
theorem dX2_copyFrom_98 : decode cX2_copyFrom 98 = .ok (.aload_n 1, 1) := by decide +kernel
theorem dX2_copyFrom_99 : decode cX2_copyFrom 99 = .ok (.getfield 30, 3) := by decide +kernel
theorem dX2_copyFrom_102 : decode cX2_copyFrom 102 = .ok (.iconst 0, 1) := by decide +kernel
theorem dX2_copyFrom_103 : decode cX2_copyFrom 103 = .ok (.aload_n 0, 1) := by decide +kernel
theorem dX2_copyFrom_104 : decode cX2_copyFrom 104 = .ok (.getfield 30, 3) := by decide +kernel
theorem dX2_copyFrom_107 : decode cX2_copyFrom 107 = .ok (.iconst 0, 1) := by decide +kernel
theorem dX2_copyFrom_108 : decode cX2_copyFrom 108 = .ok (.bipush 6, 2) := by decide +kernel
theorem dX2_copyFrom_110 : decode cX2_copyFrom 110 = .ok (.invokestatic 49, 3) := by decide +kernel
theorem dX2_copyFrom_113 : decode cX2_copyFrom 113 = .ok (.aload_n 1, 1) := by decide +kernel
theorem dX2_copyFrom_114 : decode cX2_copyFrom 114 = .ok (.getfield 33, 3) := by decide +kernel
theorem dX2_copyFrom_117 : decode cX2_copyFrom 117 = .ok (.iconst 0, 1) := by decide +kernel
theorem dX2_copyFrom_118 : decode cX2_copyFrom 118 = .ok (.aload_n 0, 1) := by decide +kernel
theorem dX2_copyFrom_119 : decode cX2_copyFrom 119 = .ok (.getfield 33, 3) := by decide +kernel
theorem dX2_copyFrom_122 : decode cX2_copyFrom 122 = .ok (.iconst 0, 1) := by decide +kernel
theorem dX2_copyFrom_123 : decode cX2_copyFrom 123 = .ok (.bipush 6, 2) := by decide +kernel
theorem dX2_copyFrom_125 : decode cX2_copyFrom 125 = .ok (.invokestatic 49, 3) := by decide +kernel
theorem dX2_copyFrom_128 : decode cX2_copyFrom 128 = .ok (.aload_n 1, 1) := by decide +kernel
theorem dX2_copyFrom_129 : decode cX2_copyFrom 129 = .ok (.getfield 36, 3) := by decide +kernel
theorem dX2_copyFrom_132 : decode cX2_copyFrom 132 = .ok (.iconst 0, 1) := by decide +kernel
theorem dX2_copyFrom_133 : decode cX2_copyFrom 133 = .ok (.aload_n 0, 1) := by decide +kernel
theorem dX2_copyFrom_134 : decode cX2_copyFrom 134 = .ok (.getfield 36, 3) := by decide +kernel
theorem dX2_copyFrom_137 : decode cX2_copyFrom 137 = .ok (.iconst 0, 1) := by decide +kernel
theorem dX2_copyFrom_138 : decode cX2_copyFrom 138 = .ok (.bipush 6, 2) := by decide +kernel
theorem dX2_copyFrom_140 : decode cX2_copyFrom 140 = .ok (.invokestatic 49, 3) := by decide +kernel
theorem dX2_copyFrom_143 : decode cX2_copyFrom 143 = .ok (.aload_n 1, 1) := by decide +kernel
theorem dX2_copyFrom_144 : decode cX2_copyFrom 144 = .ok (.getfield 39, 3) := by decide +kernel
theorem dX2_copyFrom_147 : decode cX2_copyFrom 147 = .ok (.iconst 0, 1) := by decide +kernel
theorem dX2_copyFrom_148 : decode cX2_copyFrom 148 = .ok (.aload_n 0, 1) := by decide +kernel
theorem dX2_copyFrom_149 : decode cX2_copyFrom 149 = .ok (.getfield 39, 3) := by decide +kernel
theorem dX2_copyFrom_152 : decode cX2_copyFrom 152 = .ok (.iconst 0, 1) := by decide +kernel
theorem dX2_copyFrom_153 : decode cX2_copyFrom 153 = .ok (.bipush 6, 2) := by decide +kernel
theorem dX2_copyFrom_155 : decode cX2_copyFrom 155 = .ok (.invokestatic 49, 3) := by decide +kernel
theorem dX2_copyFrom_158 : decode cX2_copyFrom 158 = .ok (.aload_n 1, 1) := by decide +kernel
theorem dX2_copyFrom_159 : decode cX2_copyFrom 159 = .ok (.getfield 42, 3) := by decide +kernel
theorem dX2_copyFrom_162 : decode cX2_copyFrom 162 = .ok (.iconst 0, 1) := by decide +kernel
theorem dX2_copyFrom_163 : decode cX2_copyFrom 163 = .ok (.aload_n 0, 1) := by decide +kernel
theorem dX2_copyFrom_164 : decode cX2_copyFrom 164 = .ok (.getfield 42, 3) := by decide +kernel
theorem dX2_copyFrom_167 : decode cX2_copyFrom 167 = .ok (.iconst 0, 1) := by decide +kernel
theorem dX2_copyFrom_168 : decode cX2_copyFrom 168 = .ok (.bipush 36, 2) := by decide +kernel
theorem dX2_copyFrom_170 : decode cX2_copyFrom 170 = .ok (.invokestatic 49, 3) := by decide +kernel
theorem dX2_copyFrom_173 : decode cX2_copyFrom 173 = .ok (.aload_n 0, 1) := by decide +kernel
theorem dX2_copyFrom_174 : decode cX2_copyFrom 174 = .ok (.aload_n 1, 1) := by decide +kernel
theorem dX2_copyFrom_175 : decode cX2_copyFrom 175 = .ok (.getfield 55, 3) := by decide +kernel
theorem dX2_copyFrom_178 : decode cX2_copyFrom 178 = .ok (.putfield 55, 3) := by decide +kernel
theorem dX2_copyFrom_181 : decode cX2_copyFrom 181 = .ok (.return_, 1) := by decide +kernel
theorem dX2_putKind_0 : decode cX2_putKind 0 = .ok (.aload_n 0, 1) := by decide +kernel
theorem dX2_putKind_1 : decode cX2_putKind 1 = .ok (.getfield 45, 3) := by decide +kernel
theorem dX2_putKind_4 : decode cX2_putKind 4 = .ok (.istore 4, 2) := by decide +kernel
theorem dX2_putKind_6 : decode cX2_putKind 6 = .ok (.aload_n 0, 1) := by decide +kernel
theorem dX2_putKind_7 : decode cX2_putKind 7 = .ok (.getfield 9, 3) := by decide +kernel
theorem dX2_putKind_10 : decode cX2_putKind 10 = .ok (.iload 4, 2) := by decide +kernel
theorem dX2_putKind_12 : decode cX2_putKind 12 = .ok (.iload_n 1, 1) := by decide +kernel
theorem dX2_putKind_13 : decode cX2_putKind 13 = .ok (.iastore, 1) := by decide +kernel
theorem dX2_putKind_14 : decode cX2_putKind 14 = .ok (.aload_n 0, 1) := by decide +kernel
theorem dX2_putKind_15 : decode cX2_putKind 15 = .ok (.getfield 15, 3) := by decide +kernel
theorem dX2_putKind_18 : decode cX2_putKind 18 = .ok (.iload 4, 2) := by decide +kernel
theorem dX2_putKind_20 : decode cX2_putKind 20 = .ok (.iload_n 2, 1) := by decide +kernel
theorem dX2_putKind_21 : decode cX2_putKind 21 = .ok (.iastore, 1) := by decide +kernel
theorem dX2_putKind_22 : decode cX2_putKind 22 = .ok (.aload_n 0, 1) := by decide +kernel
theorem dX2_putKind_23 : decode cX2_putKind 23 = .ok (.getfield 18, 3) := by decide +kernel
theorem dX2_putKind_26 : decode cX2_putKind 26 = .ok (.iload 4, 2) := by decide +kernel
theorem dX2_putKind_28 : decode cX2_putKind 28 = .ok (.iload_n 3, 1) := by decide +kernel
theorem dX2_putKind_29 : decode cX2_putKind 29 = .ok (.iastore, 1) := by decide +kernel
theorem dX2_putKind_30 : decode cX2_putKind 30 = .ok (.aload_n 0, 1) := by decide +kernel
theorem dX2_putKind_31 : decode cX2_putKind 31 = .ok (.dup, 1) := by decide +kernel
theorem dX2_putKind_32 : decode cX2_putKind 32 = .ok (.getfield 45, 3) := by decide +kernel
theorem dX2_putKind_35 : decode cX2_putKind 35 = .ok (.iconst 1, 1) := by decide +kernel
theorem dX2_putKind_36 : decode cX2_putKind 36 = .ok (.iadd, 1) := by decide +kernel
theorem dX2_putKind_37 : decode cX2_putKind 37 = .ok (.putfield 45, 3) := by decide +kernel
theorem dX2_putKind_40 : decode cX2_putKind 40 = .ok (.iload 4, 2) := by decide +kernel
theorem dX2_putKind_42 : decode cX2_putKind 42 = .ok (.ireturn, 1) := by decide +kernel
theorem dX2_isStuck_0 : decode cX2_isStuck 0 = .ok (.aload_n 0, 1) := by decide +kernel
theorem dX2_isStuck_1 : decode cX2_isStuck 1 = .ok (.getfield 33, 3) := by decide +kernel
theorem dX2_isStuck_4 : decode cX2_isStuck 4 = .ok (.iload_n 1, 1) := by decide +kernel
theorem dX2_isStuck_5 : decode cX2_isStuck 5 = .ok (.iaload, 1) := by decide +kernel
theorem dX2_isStuck_6 : decode cX2_isStuck 6 = .ok (.iconst (-1), 1) := by decide +kernel
theorem dX2_isStuck_7 : decode cX2_isStuck 7 = .ok (.if_icmp .eq 7, 3) := by decide +kernel
theorem dX2_isStuck_10 : decode cX2_isStuck 10 = .ok (.iconst 1, 1) := by decide +kernel
theorem dX2_isStuck_11 : decode cX2_isStuck 11 = .ok (.goto 4, 3) := by decide +kernel
theorem dX2_isStuck_14 : decode cX2_isStuck 14 = .ok (.iconst 0, 1) := by decide +kernel
theorem dX2_isStuck_15 : decode cX2_isStuck 15 = .ok (.ireturn, 1) := by decide +kernel
set_option maxRecDepth 20000 in
theorem ggX2_isFull_X2_coinsIn : GoodIn wsX2_isFull wsX2_coinsIn := goodIn_r _ [5, 6, 7, 8, 9, 10, 11, 12, 13, 14, 15, 16, 17, 18, 19] (by decide +kernel) (by decide +kernel)
set_option maxRecDepth 20000 in
theorem gX2_isFull_X2_coinsIn : GoodIn wsX2_isFull (wsV RX2 58 RX2 yX2_coinsIn wsX2_coinsIn) := goodIn_app (goodIn_of _ (by decide +kernel)) ggX2_isFull_X2_coinsIn
theorem dX2_isFull_0 : decode cX2_isFull 0 = .ok (.aload_n 0, 1) := by decide +kernel
theorem dX2_isFull_1 : decode cX2_isFull 1 = .ok (.iload_n 1, 1) := by decide +kernel
theorem dX2_isFull_2 : decode cX2_isFull 2 = .ok (.invokevirtual 58, 3) := by decide +kernel
theorem dX2_isFull_5 : decode cX2_isFull 5 = .ok (.bipush 40, 2) := by decide +kernel
theorem dX2_isFull_7 : decode cX2_isFull 7 = .ok (.if_icmp .lt 7, 3) := by decide +kernel
theorem dX2_isFull_10 : decode cX2_isFull 10 = .ok (.iconst 1, 1) := by decide +kernel
theorem dX2_isFull_11 : decode cX2_isFull 11 = .ok (.goto 4, 3) := by decide +kernel
theorem dX2_isFull_14 : decode cX2_isFull 14 = .ok (.iconst 0, 1) := by decide +kernel
theorem dX2_isFull_15 : decode cX2_isFull 15 = .ok (.ireturn, 1) := by decide +kernel
set_option maxRecDepth 20000 in
theorem ggX2_placeFor_X2_wearAt : GoodIn wsX2_placeFor wsX2_wearAt := goodIn_r _ [6, 7, 8, 9, 10] (by decide +kernel) (by decide +kernel)
set_option maxRecDepth 20000 in
theorem gX2_placeFor_X2_wearAt : GoodIn wsX2_placeFor (wsV RX2 62 RX2 yX2_wearAt wsX2_wearAt) := goodIn_app (goodIn_of _ (by decide +kernel)) ggX2_placeFor_X2_wearAt
set_option maxRecDepth 20000 in
theorem ggX2_placeFor_X2_size : GoodIn wsX2_placeFor wsX2_size := goodIn_r _ [14, 15, 16, 17, 9, 18, 33, 34, 35, 36, 37, 38, 39, 40, 41, 42, 43, 44, 45] (by decide +kernel) (by decide +kernel)
set_option maxRecDepth 20000 in
theorem gX2_placeFor_X2_size : GoodIn wsX2_placeFor (wsV RX2 66 RX2 yX2_size wsX2_size) := goodIn_app (goodIn_of _ (by decide +kernel)) ggX2_placeFor_X2_size
set_option maxRecDepth 20000 in
theorem ggX2_placeFor_X2_isStuck : GoodIn wsX2_placeFor wsX2_isStuck := goodIn_r _ [22, 23, 33, 34, 35, 36, 37, 38, 39, 40, 41, 42, 43, 44, 45] (by decide +kernel) (by decide +kernel)
set_option maxRecDepth 20000 in
theorem gX2_placeFor_X2_isStuck : GoodIn wsX2_placeFor (wsV RX2 69 RX2 yX2_isStuck wsX2_isStuck) := goodIn_app (goodIn_of _ (by decide +kernel)) ggX2_placeFor_X2_isStuck
set_option maxRecDepth 20000 in
theorem ggX2_placeFor_X2_isFull : GoodIn wsX2_placeFor wsX2_isFull := goodIn_r _ [27, 28, 29, 30, 5, 31, 32, 33, 34, 35, 36, 37, 38, 39, 40, 41, 42, 43, 44, 45] (by decide +kernel) (by decide +kernel)
set_option maxRecDepth 20000 in
theorem gX2_placeFor_X2_isFull : GoodIn wsX2_placeFor (wsV RX2 73 RX2 yX2_isFull wsX2_isFull) := goodIn_app (goodIn_of _ (by decide +kernel)) ggX2_placeFor_X2_isFull
theorem dX2_placeFor_0 : decode cX2_placeFor 0 = .ok (.iconst 0, 1) := by decide +kernel
theorem dX2_placeFor_1 : decode cX2_placeFor 1 = .ok (.istore_n 3, 1) := by decide +kernel
theorem dX2_placeFor_2 : decode cX2_placeFor 2 = .ok (.iload_n 3, 1) := by decide +kernel
theorem dX2_placeFor_3 : decode cX2_placeFor 3 = .ok (.bipush 6, 2) := by decide +kernel
theorem dX2_placeFor_5 : decode cX2_placeFor 5 = .ok (.if_icmp .ge 77, 3) := by decide +kernel
theorem dX2_placeFor_8 : decode cX2_placeFor 8 = .ok (.aload_n 0, 1) := by decide +kernel
theorem dX2_placeFor_9 : decode cX2_placeFor 9 = .ok (.getfield 27, 3) := by decide +kernel
theorem dX2_placeFor_12 : decode cX2_placeFor 12 = .ok (.iload_n 3, 1) := by decide +kernel
theorem dX2_placeFor_13 : decode cX2_placeFor 13 = .ok (.iaload, 1) := by decide +kernel
theorem dX2_placeFor_14 : decode cX2_placeFor 14 = .ok (.aload_n 0, 1) := by decide +kernel
theorem dX2_placeFor_15 : decode cX2_placeFor 15 = .ok (.iload_n 1, 1) := by decide +kernel
theorem dX2_placeFor_16 : decode cX2_placeFor 16 = .ok (.aload_n 0, 1) := by decide +kernel
theorem dX2_placeFor_17 : decode cX2_placeFor 17 = .ok (.iload_n 3, 1) := by decide +kernel
theorem dX2_placeFor_18 : decode cX2_placeFor 18 = .ok (.iload_n 2, 1) := by decide +kernel
theorem dX2_placeFor_19 : decode cX2_placeFor 19 = .ok (.invokevirtual 62, 3) := by decide +kernel
theorem dX2_placeFor_22 : decode cX2_placeFor 22 = .ok (.invokevirtual 66, 3) := by decide +kernel
theorem dX2_placeFor_25 : decode cX2_placeFor 25 = .ok (.isub, 1) := by decide +kernel
theorem dX2_placeFor_26 : decode cX2_placeFor 26 = .ok (.istore 4, 2) := by decide +kernel
theorem dX2_placeFor_28 : decode cX2_placeFor 28 = .ok (.iload 4, 2) := by decide +kernel
theorem dX2_placeFor_30 : decode cX2_placeFor 30 = .ok (.ifCond .le 19, 3) := by decide +kernel
theorem dX2_placeFor_33 : decode cX2_placeFor 33 = .ok (.aload_n 0, 1) := by decide +kernel
theorem dX2_placeFor_34 : decode cX2_placeFor 34 = .ok (.iload_n 3, 1) := by decide +kernel
theorem dX2_placeFor_35 : decode cX2_placeFor 35 = .ok (.invokevirtual 69, 3) := by decide +kernel
theorem dX2_placeFor_38 : decode cX2_placeFor 38 = .ok (.ifCond .ne 11, 3) := by decide +kernel
theorem dX2_placeFor_41 : decode cX2_placeFor 41 = .ok (.aload_n 0, 1) := by decide +kernel
theorem dX2_placeFor_42 : decode cX2_placeFor 42 = .ok (.iload_n 3, 1) := by decide +kernel
theorem dX2_placeFor_43 : decode cX2_placeFor 43 = .ok (.invokevirtual 73, 3) := by decide +kernel
theorem dX2_placeFor_46 : decode cX2_placeFor 46 = .ok (.ifCond .eq 7, 3) := by decide +kernel
theorem dX2_placeFor_49 : decode cX2_placeFor 49 = .ok (.iconst 1, 1) := by decide +kernel
theorem dX2_placeFor_50 : decode cX2_placeFor 50 = .ok (.goto 4, 3) := by decide +kernel
theorem dX2_placeFor_53 : decode cX2_placeFor 53 = .ok (.iconst 0, 1) := by decide +kernel
theorem dX2_placeFor_54 : decode cX2_placeFor 54 = .ok (.istore 5, 2) := by decide +kernel
theorem dX2_placeFor_56 : decode cX2_placeFor 56 = .ok (.iload 5, 2) := by decide +kernel
theorem dX2_placeFor_58 : decode cX2_placeFor 58 = .ok (.ifCond .ne 18, 3) := by decide +kernel
theorem dX2_placeFor_61 : decode cX2_placeFor 61 = .ok (.iload 4, 2) := by decide +kernel
theorem dX2_placeFor_63 : decode cX2_placeFor 63 = .ok (.iconst 5, 1) := by decide +kernel
theorem dX2_placeFor_64 : decode cX2_placeFor 64 = .ok (.if_icmp .ge 10, 3) := by decide +kernel
theorem dX2_placeFor_67 : decode cX2_placeFor 67 = .ok (.bipush 10, 2) := by decide +kernel
theorem dX2_placeFor_69 : decode cX2_placeFor 69 = .ok (.iload_n 3, 1) := by decide +kernel
theorem dX2_placeFor_70 : decode cX2_placeFor 70 = .ok (.iadd, 1) := by decide +kernel
theorem dX2_placeFor_71 : decode cX2_placeFor 71 = .ok (.goto 4, 3) := by decide +kernel
theorem dX2_placeFor_74 : decode cX2_placeFor 74 = .ok (.iload_n 3, 1) := by decide +kernel
theorem dX2_placeFor_75 : decode cX2_placeFor 75 = .ok (.ireturn, 1) := by decide +kernel
theorem dX2_placeFor_76 : decode cX2_placeFor 76 = .ok (.iinc 3 1, 3) := by decide +kernel
theorem dX2_placeFor_79 : decode cX2_placeFor 79 = .ok (.goto (-77), 3) := by decide +kernel
theorem dX2_placeFor_82 : decode cX2_placeFor 82 = .ok (.iconst (-1), 1) := by decide +kernel
theorem dX2_placeFor_83 : decode cX2_placeFor 83 = .ok (.ireturn, 1) := by decide +kernel
theorem dX2_size_0 : decode cX2_size 0 = .ok (.iconst 1, 1) := by decide +kernel
theorem dX2_size_1 : decode cX2_size 1 = .ok (.aload_n 0, 1) := by decide +kernel
theorem dX2_size_2 : decode cX2_size 2 = .ok (.getfield 9, 3) := by decide +kernel
theorem dX2_size_5 : decode cX2_size 5 = .ok (.iload_n 1, 1) := by decide +kernel
theorem dX2_size_6 : decode cX2_size 6 = .ok (.iaload, 1) := by decide +kernel
theorem dX2_size_7 : decode cX2_size 7 = .ok (.iload_n 2, 1) := by decide +kernel
theorem dX2_size_8 : decode cX2_size 8 = .ok (.isub, 1) := by decide +kernel
theorem dX2_size_9 : decode cX2_size 9 = .ok (.invokestatic 76, 3) := by decide +kernel
theorem dX2_size_12 : decode cX2_size 12 = .ok (.ireturn, 1) := by decide +kernel
theorem dX2_wearAt_0 : decode cX2_wearAt 0 = .ok (.sipush 999, 3) := by decide +kernel
theorem dX2_wearAt_3 : decode cX2_wearAt 3 = .ok (.iload_n 2, 1) := by decide +kernel
theorem dX2_wearAt_4 : decode cX2_wearAt 4 = .ok (.iload_n 1, 1) := by decide +kernel
theorem dX2_wearAt_5 : decode cX2_wearAt 5 = .ok (.iadd, 1) := by decide +kernel
theorem dX2_wearAt_6 : decode cX2_wearAt 6 = .ok (.invokestatic 81, 3) := by decide +kernel
theorem dX2_wearAt_9 : decode cX2_wearAt 9 = .ok (.ireturn, 1) := by decide +kernel
set_option maxRecDepth 20000 in
theorem ggX2_putCoin_X2_placeFor : GoodIn wsX2_putCoin wsX2_placeFor := goodIn_r _ [10, 11, 12, 13, 14, 9, 15, 16, 17, 18, 19, 20, 21, 22, 23, 24, 25, 26, 27, 28, 29, 30, 31, 3, 32, 33, 34, 35, 36, 37, 38, 39, 5, 50, 51, 52, 53, 54, 55, 56, 57, 58, 59, 60, 61, 62] (by decide +kernel) (by decide +kernel)
set_option maxRecDepth 20000 in
theorem gX2_putCoin_X2_placeFor : GoodIn wsX2_putCoin (wsV RX2 84 RX2 yX2_placeFor wsX2_placeFor) := goodIn_app (goodIn_of _ (by decide +kernel)) ggX2_putCoin_X2_placeFor
set_option maxRecDepth 20000 in
theorem ggX2_putCoin_X2_rollOver : GoodIn wsX2_putCoin wsX2_rollOver := goodIn_r _ [43, 44, 50, 51, 52, 53, 54, 55, 56, 57, 58, 59, 60, 61, 62] (by decide +kernel) (by decide +kernel)
set_option maxRecDepth 20000 in
theorem gX2_putCoin_X2_rollOver : GoodIn wsX2_putCoin (wsV RX2 87 RX2 yX2_rollOver wsX2_rollOver) := goodIn_app (goodIn_of _ (by decide +kernel)) ggX2_putCoin_X2_rollOver
set_option maxRecDepth 20000 in
theorem ggX2_putCoin_X2_wearAt : GoodIn wsX2_putCoin wsX2_wearAt := goodIn_r _ [15, 16, 17, 18, 19] (by decide +kernel) (by decide +kernel)
set_option maxRecDepth 20000 in
theorem gX2_putCoin_X2_wearAt : GoodIn wsX2_putCoin (wsV RX2 62 RX2 yX2_wearAt wsX2_wearAt) := goodIn_app (goodIn_of _ (by decide +kernel)) ggX2_putCoin_X2_wearAt
set_option maxRecDepth 20000 in
theorem ggX2_putCoin_X2_useRail : GoodIn wsX2_putCoin wsX2_useRail := goodIn_r _ [48, 49, 11, 16, 17, 18, 19, 50, 51, 52, 53, 54, 55, 56, 57, 58, 59, 60, 61, 62] (by decide +kernel) (by decide +kernel)
set_option maxRecDepth 20000 in
theorem gX2_putCoin_X2_useRail : GoodIn wsX2_putCoin (wsV RX2 91 RX2 yX2_useRail wsX2_useRail) := goodIn_app (goodIn_of _ (by decide +kernel)) ggX2_putCoin_X2_useRail
theorem dX2_putCoin_0 : decode cX2_putCoin 0 = .ok (.aload_n 0, 1) := by decide +kernel
theorem dX2_putCoin_1 : decode cX2_putCoin 1 = .ok (.iload_n 1, 1) := by decide +kernel
theorem dX2_putCoin_2 : decode cX2_putCoin 2 = .ok (.iload_n 2, 1) := by decide +kernel
theorem dX2_putCoin_3 : decode cX2_putCoin 3 = .ok (.invokevirtual 84, 3) := by decide +kernel
theorem dX2_putCoin_6 : decode cX2_putCoin 6 = .ok (.istore_n 3, 1) := by decide +kernel
theorem dX2_putCoin_7 : decode cX2_putCoin 7 = .ok (.aload_n 0, 1) := by decide +kernel
theorem dX2_putCoin_8 : decode cX2_putCoin 8 = .ok (.getfield 21, 3) := by decide +kernel
theorem dX2_putCoin_11 : decode cX2_putCoin 11 = .ok (.iload_n 1, 1) := by decide +kernel
theorem dX2_putCoin_12 : decode cX2_putCoin 12 = .ok (.dup2, 1) := by decide +kernel
theorem dX2_putCoin_13 : decode cX2_putCoin 13 = .ok (.iaload, 1) := by decide +kernel
theorem dX2_putCoin_14 : decode cX2_putCoin 14 = .ok (.iconst 1, 1) := by decide +kernel
theorem dX2_putCoin_15 : decode cX2_putCoin 15 = .ok (.iadd, 1) := by decide +kernel
theorem dX2_putCoin_16 : decode cX2_putCoin 16 = .ok (.iastore, 1) := by decide +kernel
theorem dX2_putCoin_17 : decode cX2_putCoin 17 = .ok (.iload_n 3, 1) := by decide +kernel
theorem dX2_putCoin_18 : decode cX2_putCoin 18 = .ok (.iconst (-1), 1) := by decide +kernel
theorem dX2_putCoin_19 : decode cX2_putCoin 19 = .ok (.if_icmp .ne 22, 3) := by decide +kernel
theorem dX2_putCoin_22 : decode cX2_putCoin 22 = .ok (.aload_n 0, 1) := by decide +kernel
theorem dX2_putCoin_23 : decode cX2_putCoin 23 = .ok (.bipush 6, 2) := by decide +kernel
theorem dX2_putCoin_25 : decode cX2_putCoin 25 = .ok (.invokevirtual 87, 3) := by decide +kernel
theorem dX2_putCoin_28 : decode cX2_putCoin 28 = .ok (.aload_n 0, 1) := by decide +kernel
theorem dX2_putCoin_29 : decode cX2_putCoin 29 = .ok (.getfield 24, 3) := by decide +kernel
theorem dX2_putCoin_32 : decode cX2_putCoin 32 = .ok (.iload_n 1, 1) := by decide +kernel
theorem dX2_putCoin_33 : decode cX2_putCoin 33 = .ok (.dup2, 1) := by decide +kernel
theorem dX2_putCoin_34 : decode cX2_putCoin 34 = .ok (.iaload, 1) := by decide +kernel
theorem dX2_putCoin_35 : decode cX2_putCoin 35 = .ok (.iconst 1, 1) := by decide +kernel
theorem dX2_putCoin_36 : decode cX2_putCoin 36 = .ok (.iadd, 1) := by decide +kernel
theorem dX2_putCoin_37 : decode cX2_putCoin 37 = .ok (.iastore, 1) := by decide +kernel
theorem dX2_putCoin_38 : decode cX2_putCoin 38 = .ok (.goto 71, 3) := by decide +kernel
theorem dX2_putCoin_41 : decode cX2_putCoin 41 = .ok (.iload_n 3, 1) := by decide +kernel
theorem dX2_putCoin_42 : decode cX2_putCoin 42 = .ok (.bipush 10, 2) := by decide +kernel
theorem dX2_putCoin_44 : decode cX2_putCoin 44 = .ok (.if_icmp .lt 40, 3) := by decide +kernel
theorem dX2_putCoin_47 : decode cX2_putCoin 47 = .ok (.iload_n 3, 1) := by decide +kernel
theorem dX2_putCoin_48 : decode cX2_putCoin 48 = .ok (.bipush 10, 2) := by decide +kernel
theorem dX2_putCoin_50 : decode cX2_putCoin 50 = .ok (.isub, 1) := by decide +kernel
theorem dX2_putCoin_51 : decode cX2_putCoin 51 = .ok (.istore 4, 2) := by decide +kernel
theorem dX2_putCoin_53 : decode cX2_putCoin 53 = .ok (.aload_n 0, 1) := by decide +kernel
theorem dX2_putCoin_54 : decode cX2_putCoin 54 = .ok (.iload 4, 2) := by decide +kernel
theorem dX2_putCoin_56 : decode cX2_putCoin 56 = .ok (.invokevirtual 87, 3) := by decide +kernel
theorem dX2_putCoin_59 : decode cX2_putCoin 59 = .ok (.aload_n 0, 1) := by decide +kernel
theorem dX2_putCoin_60 : decode cX2_putCoin 60 = .ok (.getfield 33, 3) := by decide +kernel
theorem dX2_putCoin_63 : decode cX2_putCoin 63 = .ok (.iload 4, 2) := by decide +kernel
theorem dX2_putCoin_65 : decode cX2_putCoin 65 = .ok (.iload_n 1, 1) := by decide +kernel
theorem dX2_putCoin_66 : decode cX2_putCoin 66 = .ok (.iastore, 1) := by decide +kernel
theorem dX2_putCoin_67 : decode cX2_putCoin 67 = .ok (.aload_n 0, 1) := by decide +kernel
theorem dX2_putCoin_68 : decode cX2_putCoin 68 = .ok (.getfield 36, 3) := by decide +kernel
theorem dX2_putCoin_71 : decode cX2_putCoin 71 = .ok (.iload 4, 2) := by decide +kernel
theorem dX2_putCoin_73 : decode cX2_putCoin 73 = .ok (.aload_n 0, 1) := by decide +kernel
theorem dX2_putCoin_74 : decode cX2_putCoin 74 = .ok (.iload 4, 2) := by decide +kernel
theorem dX2_putCoin_76 : decode cX2_putCoin 76 = .ok (.iload_n 2, 1) := by decide +kernel
theorem dX2_putCoin_77 : decode cX2_putCoin 77 = .ok (.invokevirtual 62, 3) := by decide +kernel
theorem dX2_putCoin_80 : decode cX2_putCoin 80 = .ok (.iastore, 1) := by decide +kernel
theorem dX2_putCoin_81 : decode cX2_putCoin 81 = .ok (.goto 28, 3) := by decide +kernel
theorem dX2_putCoin_84 : decode cX2_putCoin 84 = .ok (.aload_n 0, 1) := by decide +kernel
theorem dX2_putCoin_85 : decode cX2_putCoin 85 = .ok (.iload_n 3, 1) := by decide +kernel
theorem dX2_putCoin_86 : decode cX2_putCoin 86 = .ok (.invokevirtual 87, 3) := by decide +kernel
theorem dX2_putCoin_89 : decode cX2_putCoin 89 = .ok (.aload_n 0, 1) := by decide +kernel
theorem dX2_putCoin_90 : decode cX2_putCoin 90 = .ok (.getfield 42, 3) := by decide +kernel
theorem dX2_putCoin_93 : decode cX2_putCoin 93 = .ok (.iload_n 3, 1) := by decide +kernel
theorem dX2_putCoin_94 : decode cX2_putCoin 94 = .ok (.bipush 6, 2) := by decide +kernel
theorem dX2_putCoin_96 : decode cX2_putCoin 96 = .ok (.imul, 1) := by decide +kernel
theorem dX2_putCoin_97 : decode cX2_putCoin 97 = .ok (.iload_n 1, 1) := by decide +kernel
theorem dX2_putCoin_98 : decode cX2_putCoin 98 = .ok (.iadd, 1) := by decide +kernel
theorem dX2_putCoin_99 : decode cX2_putCoin 99 = .ok (.dup2, 1) := by decide +kernel
theorem dX2_putCoin_100 : decode cX2_putCoin 100 = .ok (.iaload, 1) := by decide +kernel
theorem dX2_putCoin_101 : decode cX2_putCoin 101 = .ok (.iconst 1, 1) := by decide +kernel
theorem dX2_putCoin_102 : decode cX2_putCoin 102 = .ok (.iadd, 1) := by decide +kernel
theorem dX2_putCoin_103 : decode cX2_putCoin 103 = .ok (.iastore, 1) := by decide +kernel
theorem dX2_putCoin_104 : decode cX2_putCoin 104 = .ok (.aload_n 0, 1) := by decide +kernel
theorem dX2_putCoin_105 : decode cX2_putCoin 105 = .ok (.iload_n 3, 1) := by decide +kernel
theorem dX2_putCoin_106 : decode cX2_putCoin 106 = .ok (.invokevirtual 91, 3) := by decide +kernel
theorem dX2_putCoin_109 : decode cX2_putCoin 109 = .ok (.iload_n 3, 1) := by decide +kernel
theorem dX2_putCoin_110 : decode cX2_putCoin 110 = .ok (.ireturn, 1) := by decide +kernel
theorem dX2_rollOver_0 : decode cX2_rollOver 0 = .ok (.iconst 0, 1) := by decide +kernel
theorem dX2_rollOver_1 : decode cX2_rollOver 1 = .ok (.istore_n 2, 1) := by decide +kernel
theorem dX2_rollOver_2 : decode cX2_rollOver 2 = .ok (.iload_n 2, 1) := by decide +kernel
theorem dX2_rollOver_3 : decode cX2_rollOver 3 = .ok (.iload_n 1, 1) := by decide +kernel
theorem dX2_rollOver_4 : decode cX2_rollOver 4 = .ok (.if_icmp .ge 19, 3) := by decide +kernel
theorem dX2_rollOver_7 : decode cX2_rollOver 7 = .ok (.aload_n 0, 1) := by decide +kernel
theorem dX2_rollOver_8 : decode cX2_rollOver 8 = .ok (.getfield 39, 3) := by decide +kernel
theorem dX2_rollOver_11 : decode cX2_rollOver 11 = .ok (.iload_n 2, 1) := by decide +kernel
theorem dX2_rollOver_12 : decode cX2_rollOver 12 = .ok (.dup2, 1) := by decide +kernel
theorem dX2_rollOver_13 : decode cX2_rollOver 13 = .ok (.iaload, 1) := by decide +kernel
theorem dX2_rollOver_14 : decode cX2_rollOver 14 = .ok (.iconst 1, 1) := by decide +kernel
theorem dX2_rollOver_15 : decode cX2_rollOver 15 = .ok (.iadd, 1) := by decide +kernel
theorem dX2_rollOver_16 : decode cX2_rollOver 16 = .ok (.iastore, 1) := by decide +kernel
theorem dX2_rollOver_17 : decode cX2_rollOver 17 = .ok (.iinc 2 1, 3) := by decide +kernel
theorem dX2_rollOver_20 : decode cX2_rollOver 20 = .ok (.goto (-18), 3) := by decide +kernel
theorem dX2_rollOver_23 : decode cX2_rollOver 23 = .ok (.return_, 1) := by decide +kernel
theorem dX2_useRail_0 : decode cX2_useRail 0 = .ok (.aload_n 0, 1) := by decide +kernel
theorem dX2_useRail_1 : decode cX2_useRail 1 = .ok (.getfield 30, 3) := by decide +kernel
theorem dX2_useRail_4 : decode cX2_useRail 4 = .ok (.iload_n 1, 1) := by decide +kernel
theorem dX2_useRail_5 : decode cX2_useRail 5 = .ok (.dup2, 1) := by decide +kernel
theorem dX2_useRail_6 : decode cX2_useRail 6 = .ok (.iaload, 1) := by decide +kernel
theorem dX2_useRail_7 : decode cX2_useRail 7 = .ok (.iconst 1, 1) := by decide +kernel
theorem dX2_useRail_8 : decode cX2_useRail 8 = .ok (.iadd, 1) := by decide +kernel
theorem dX2_useRail_9 : decode cX2_useRail 9 = .ok (.iastore, 1) := by decide +kernel
theorem dX2_useRail_10 : decode cX2_useRail 10 = .ok (.aload_n 0, 1) := by decide +kernel
theorem dX2_useRail_11 : decode cX2_useRail 11 = .ok (.getfield 30, 3) := by decide +kernel
theorem dX2_useRail_14 : decode cX2_useRail 14 = .ok (.iload_n 1, 1) := by decide +kernel
theorem dX2_useRail_15 : decode cX2_useRail 15 = .ok (.iaload, 1) := by decide +kernel
theorem dX2_useRail_16 : decode cX2_useRail 16 = .ok (.bipush 20, 2) := by decide +kernel
theorem dX2_useRail_18 : decode cX2_useRail 18 = .ok (.if_icmp .lt 30, 3) := by decide +kernel
theorem dX2_useRail_21 : decode cX2_useRail 21 = .ok (.aload_n 0, 1) := by decide +kernel
theorem dX2_useRail_22 : decode cX2_useRail 22 = .ok (.getfield 30, 3) := by decide +kernel
theorem dX2_useRail_25 : decode cX2_useRail 25 = .ok (.iload_n 1, 1) := by decide +kernel
theorem dX2_useRail_26 : decode cX2_useRail 26 = .ok (.iconst 0, 1) := by decide +kernel
theorem dX2_useRail_27 : decode cX2_useRail 27 = .ok (.iastore, 1) := by decide +kernel
theorem dX2_useRail_28 : decode cX2_useRail 28 = .ok (.aload_n 0, 1) := by decide +kernel
theorem dX2_useRail_29 : decode cX2_useRail 29 = .ok (.getfield 27, 3) := by decide +kernel
theorem dX2_useRail_32 : decode cX2_useRail 32 = .ok (.iload_n 1, 1) := by decide +kernel
theorem dX2_useRail_33 : decode cX2_useRail 33 = .ok (.sipush 4100, 3) := by decide +kernel
theorem dX2_useRail_36 : decode cX2_useRail 36 = .ok (.aload_n 0, 1) := by decide +kernel
theorem dX2_useRail_37 : decode cX2_useRail 37 = .ok (.getfield 27, 3) := by decide +kernel
theorem dX2_useRail_40 : decode cX2_useRail 40 = .ok (.iload_n 1, 1) := by decide +kernel
theorem dX2_useRail_41 : decode cX2_useRail 41 = .ok (.iaload, 1) := by decide +kernel
theorem dX2_useRail_42 : decode cX2_useRail 42 = .ok (.iconst 1, 1) := by decide +kernel
theorem dX2_useRail_43 : decode cX2_useRail 43 = .ok (.iadd, 1) := by decide +kernel
theorem dX2_useRail_44 : decode cX2_useRail 44 = .ok (.invokestatic 81, 3) := by decide +kernel
theorem dX2_useRail_47 : decode cX2_useRail 47 = .ok (.iastore, 1) := by decide +kernel
theorem dX2_useRail_48 : decode cX2_useRail 48 = .ok (.return_, 1) := by decide +kernel
set_option maxRecDepth 20000 in
theorem ggX2_putCoinsByChance_X2_putCoin : GoodIn wsX2_putCoinsByChance wsX2_putCoin := goodIn_r _ [12, 13, 14, 15, 16, 17, 18, 19, 20, 11, 21, 22, 23, 24, 25, 26, 27, 28, 29, 30, 31, 32, 33, 34, 35, 36, 37, 38, 39, 40, 41, 42, 43, 44, 45, 46, 47, 48, 49, 50, 51, 52, 53, 54, 55, 56, 57, 58, 59, 60, 61, 62, 63, 64, 65, 66, 67, 68, 69, 70, 71, 72, 73] (by decide +kernel) (by decide +kernel)
set_option maxRecDepth 20000 in
theorem gX2_putCoinsByChance_X2_putCoin : GoodIn wsX2_putCoinsByChance (wsV RX2 106 RX2 yX2_putCoin wsX2_putCoin) := goodIn_app (goodIn_of _ (by decide +kernel)) ggX2_putCoinsByChance_X2_putCoin
theorem dX2_putCoinsByChance_0 : decode cX2_putCoinsByChance 0 = .ok (.iload_n 2, 1) := by decide +kernel
theorem dX2_putCoinsByChance_1 : decode cX2_putCoinsByChance 1 = .ok (.i2l, 1) := by decide +kernel
theorem dX2_putCoinsByChance_2 : decode cX2_putCoinsByChance 2 = .ok (.lstore_n 3, 1) := by decide +kernel
theorem dX2_putCoinsByChance_3 : decode cX2_putCoinsByChance 3 = .ok (.iconst 0, 1) := by decide +kernel
theorem dX2_putCoinsByChance_4 : decode cX2_putCoinsByChance 4 = .ok (.istore 5, 2) := by decide +kernel
theorem dX2_putCoinsByChance_6 : decode cX2_putCoinsByChance 6 = .ok (.iconst 0, 1) := by decide +kernel
theorem dX2_putCoinsByChance_7 : decode cX2_putCoinsByChance 7 = .ok (.istore 6, 2) := by decide +kernel
theorem dX2_putCoinsByChance_9 : decode cX2_putCoinsByChance 9 = .ok (.iload 6, 2) := by decide +kernel
theorem dX2_putCoinsByChance_11 : decode cX2_putCoinsByChance 11 = .ok (.iload_n 1, 1) := by decide +kernel
theorem dX2_putCoinsByChance_12 : decode cX2_putCoinsByChance 12 = .ok (.if_icmp .ge 64, 3) := by decide +kernel
theorem dX2_putCoinsByChance_15 : decode cX2_putCoinsByChance 15 = .ok (.ldc2_w 94, 3) := by decide +kernel
theorem dX2_putCoinsByChance_18 : decode cX2_putCoinsByChance 18 = .ok (.lload_n 3, 1) := by decide +kernel
theorem dX2_putCoinsByChance_19 : decode cX2_putCoinsByChance 19 = .ok (.lmul, 1) := by decide +kernel
theorem dX2_putCoinsByChance_20 : decode cX2_putCoinsByChance 20 = .ok (.ldc2_w 96, 3) := by decide +kernel
theorem dX2_putCoinsByChance_23 : decode cX2_putCoinsByChance 23 = .ok (.ladd, 1) := by decide +kernel
theorem dX2_putCoinsByChance_24 : decode cX2_putCoinsByChance 24 = .ok (.ldc2_w 98, 3) := by decide +kernel
theorem dX2_putCoinsByChance_27 : decode cX2_putCoinsByChance 27 = .ok (.lrem, 1) := by decide +kernel
theorem dX2_putCoinsByChance_28 : decode cX2_putCoinsByChance 28 = .ok (.lstore_n 3, 1) := by decide +kernel
theorem dX2_putCoinsByChance_29 : decode cX2_putCoinsByChance 29 = .ok (.lload_n 3, 1) := by decide +kernel
theorem dX2_putCoinsByChance_30 : decode cX2_putCoinsByChance 30 = .ok (.ldc2_w 100, 3) := by decide +kernel
theorem dX2_putCoinsByChance_33 : decode cX2_putCoinsByChance 33 = .ok (.ldiv, 1) := by decide +kernel
theorem dX2_putCoinsByChance_34 : decode cX2_putCoinsByChance 34 = .ok (.aload_n 0, 1) := by decide +kernel
theorem dX2_putCoinsByChance_35 : decode cX2_putCoinsByChance 35 = .ok (.getfield 45, 3) := by decide +kernel
theorem dX2_putCoinsByChance_38 : decode cX2_putCoinsByChance 38 = .ok (.i2l, 1) := by decide +kernel
theorem dX2_putCoinsByChance_39 : decode cX2_putCoinsByChance 39 = .ok (.lrem, 1) := by decide +kernel
theorem dX2_putCoinsByChance_40 : decode cX2_putCoinsByChance 40 = .ok (.l2i, 1) := by decide +kernel
theorem dX2_putCoinsByChance_41 : decode cX2_putCoinsByChance 41 = .ok (.istore 7, 2) := by decide +kernel
theorem dX2_putCoinsByChance_43 : decode cX2_putCoinsByChance 43 = .ok (.lload_n 3, 1) := by decide +kernel
theorem dX2_putCoinsByChance_44 : decode cX2_putCoinsByChance 44 = .ok (.ldc2_w 102, 3) := by decide +kernel
theorem dX2_putCoinsByChance_47 : decode cX2_putCoinsByChance 47 = .ok (.ldiv, 1) := by decide +kernel
theorem dX2_putCoinsByChance_48 : decode cX2_putCoinsByChance 48 = .ok (.ldc2_w 104, 3) := by decide +kernel
theorem dX2_putCoinsByChance_51 : decode cX2_putCoinsByChance 51 = .ok (.lrem, 1) := by decide +kernel
theorem dX2_putCoinsByChance_52 : decode cX2_putCoinsByChance 52 = .ok (.l2i, 1) := by decide +kernel
theorem dX2_putCoinsByChance_53 : decode cX2_putCoinsByChance 53 = .ok (.istore 8, 2) := by decide +kernel
theorem dX2_putCoinsByChance_55 : decode cX2_putCoinsByChance 55 = .ok (.aload_n 0, 1) := by decide +kernel
theorem dX2_putCoinsByChance_56 : decode cX2_putCoinsByChance 56 = .ok (.iload 7, 2) := by decide +kernel
theorem dX2_putCoinsByChance_58 : decode cX2_putCoinsByChance 58 = .ok (.iload 8, 2) := by decide +kernel
theorem dX2_putCoinsByChance_60 : decode cX2_putCoinsByChance 60 = .ok (.invokevirtual 106, 3) := by decide +kernel
theorem dX2_putCoinsByChance_63 : decode cX2_putCoinsByChance 63 = .ok (.iconst (-1), 1) := by decide +kernel
theorem dX2_putCoinsByChance_64 : decode cX2_putCoinsByChance 64 = .ok (.if_icmp .ne 6, 3) := by decide +kernel
theorem dX2_putCoinsByChance_67 : decode cX2_putCoinsByChance 67 = .ok (.iinc 5 1, 3) := by decide +kernel
theorem dX2_putCoinsByChance_70 : decode cX2_putCoinsByChance 70 = .ok (.iinc 6 1, 3) := by decide +kernel
theorem dX2_putCoinsByChance_73 : decode cX2_putCoinsByChance 73 = .ok (.goto (-64), 3) := by decide +kernel
theorem dX2_putCoinsByChance_76 : decode cX2_putCoinsByChance 76 = .ok (.iload 5, 2) := by decide +kernel
theorem dX2_putCoinsByChance_78 : decode cX2_putCoinsByChance 78 = .ok (.ireturn, 1) := by decide +kernel
set_option maxRecDepth 20000 in
theorem ggX2_loosen_X2_isFull : GoodIn wsX2_loosen wsX2_isFull := goodIn_r _ [9, 10, 11, 12, 8, 13, 3, 14, 15, 16, 17, 18, 19, 20, 21, 22, 23, 24, 25, 26] (by decide +kernel) (by decide +kernel)
set_option maxRecDepth 20000 in
theorem gX2_loosen_X2_isFull : GoodIn wsX2_loosen (wsV RX2 73 RX2 yX2_isFull wsX2_isFull) := goodIn_app (goodIn_of _ (by decide +kernel)) ggX2_loosen_X2_isFull
theorem dX2_loosen_0 : decode cX2_loosen 0 = .ok (.aload_n 0, 1) := by decide +kernel
theorem dX2_loosen_1 : decode cX2_loosen 1 = .ok (.getfield 33, 3) := by decide +kernel
theorem dX2_loosen_4 : decode cX2_loosen 4 = .ok (.iload_n 1, 1) := by decide +kernel
theorem dX2_loosen_5 : decode cX2_loosen 5 = .ok (.iaload, 1) := by decide +kernel
theorem dX2_loosen_6 : decode cX2_loosen 6 = .ok (.istore_n 2, 1) := by decide +kernel
theorem dX2_loosen_7 : decode cX2_loosen 7 = .ok (.aload_n 0, 1) := by decide +kernel
theorem dX2_loosen_8 : decode cX2_loosen 8 = .ok (.iload_n 1, 1) := by decide +kernel
theorem dX2_loosen_9 : decode cX2_loosen 9 = .ok (.invokevirtual 73, 3) := by decide +kernel
theorem dX2_loosen_12 : decode cX2_loosen 12 = .ok (.ifCond .eq 16, 3) := by decide +kernel
theorem dX2_loosen_15 : decode cX2_loosen 15 = .ok (.aload_n 0, 1) := by decide +kernel
theorem dX2_loosen_16 : decode cX2_loosen 16 = .ok (.getfield 24, 3) := by decide +kernel
theorem dX2_loosen_19 : decode cX2_loosen 19 = .ok (.iload_n 2, 1) := by decide +kernel
theorem dX2_loosen_20 : decode cX2_loosen 20 = .ok (.dup2, 1) := by decide +kernel
theorem dX2_loosen_21 : decode cX2_loosen 21 = .ok (.iaload, 1) := by decide +kernel
theorem dX2_loosen_22 : decode cX2_loosen 22 = .ok (.iconst 1, 1) := by decide +kernel
theorem dX2_loosen_23 : decode cX2_loosen 23 = .ok (.iadd, 1) := by decide +kernel
theorem dX2_loosen_24 : decode cX2_loosen 24 = .ok (.iastore, 1) := by decide +kernel
theorem dX2_loosen_25 : decode cX2_loosen 25 = .ok (.goto 18, 3) := by decide +kernel
theorem dX2_loosen_28 : decode cX2_loosen 28 = .ok (.aload_n 0, 1) := by decide +kernel
theorem dX2_loosen_29 : decode cX2_loosen 29 = .ok (.getfield 42, 3) := by decide +kernel
theorem dX2_loosen_32 : decode cX2_loosen 32 = .ok (.iload_n 1, 1) := by decide +kernel
theorem dX2_loosen_33 : decode cX2_loosen 33 = .ok (.bipush 6, 2) := by decide +kernel
theorem dX2_loosen_35 : decode cX2_loosen 35 = .ok (.imul, 1) := by decide +kernel
theorem dX2_loosen_36 : decode cX2_loosen 36 = .ok (.iload_n 2, 1) := by decide +kernel
theorem dX2_loosen_37 : decode cX2_loosen 37 = .ok (.iadd, 1) := by decide +kernel
theorem dX2_loosen_38 : decode cX2_loosen 38 = .ok (.dup2, 1) := by decide +kernel
theorem dX2_loosen_39 : decode cX2_loosen 39 = .ok (.iaload, 1) := by decide +kernel
theorem dX2_loosen_40 : decode cX2_loosen 40 = .ok (.iconst 1, 1) := by decide +kernel
theorem dX2_loosen_41 : decode cX2_loosen 41 = .ok (.iadd, 1) := by decide +kernel
theorem dX2_loosen_42 : decode cX2_loosen 42 = .ok (.iastore, 1) := by decide +kernel
theorem dX2_loosen_43 : decode cX2_loosen 43 = .ok (.aload_n 0, 1) := by decide +kernel
theorem dX2_loosen_44 : decode cX2_loosen 44 = .ok (.getfield 33, 3) := by decide +kernel
theorem dX2_loosen_47 : decode cX2_loosen 47 = .ok (.iload_n 1, 1) := by decide +kernel
theorem dX2_loosen_48 : decode cX2_loosen 48 = .ok (.iconst (-1), 1) := by decide +kernel
theorem dX2_loosen_49 : decode cX2_loosen 49 = .ok (.iastore, 1) := by decide +kernel
theorem dX2_loosen_50 : decode cX2_loosen 50 = .ok (.aload_n 0, 1) := by decide +kernel
theorem dX2_loosen_51 : decode cX2_loosen 51 = .ok (.getfield 36, 3) := by decide +kernel
theorem dX2_loosen_54 : decode cX2_loosen 54 = .ok (.iload_n 1, 1) := by decide +kernel
theorem dX2_loosen_55 : decode cX2_loosen 55 = .ok (.iconst (-1), 1) := by decide +kernel
theorem dX2_loosen_56 : decode cX2_loosen 56 = .ok (.iastore, 1) := by decide +kernel
theorem dX2_loosen_57 : decode cX2_loosen 57 = .ok (.iload_n 2, 1) := by decide +kernel
theorem dX2_loosen_58 : decode cX2_loosen 58 = .ok (.ireturn, 1) := by decide +kernel
set_option maxRecDepth 20000 in
theorem ggX2_emptyBag_X2_coinsIn : GoodIn wsX2_emptyBag wsX2_coinsIn := goodIn_r _ [7, 1, 8, 9, 10, 11, 12, 13, 14, 15, 16, 17, 18, 19, 20] (by decide +kernel) (by decide +kernel)
set_option maxRecDepth 20000 in
theorem gX2_emptyBag_X2_coinsIn : GoodIn wsX2_emptyBag (wsV RX2 58 RX2 yX2_coinsIn wsX2_coinsIn) := goodIn_app (goodIn_of _ (by decide +kernel)) ggX2_emptyBag_X2_coinsIn
theorem dX2_emptyBag_0 : decode cX2_emptyBag 0 = .ok (.aload_n 0, 1) := by decide +kernel
theorem dX2_emptyBag_1 : decode cX2_emptyBag 1 = .ok (.iload_n 1, 1) := by decide +kernel
theorem dX2_emptyBag_2 : decode cX2_emptyBag 2 = .ok (.invokevirtual 58, 3) := by decide +kernel
theorem dX2_emptyBag_5 : decode cX2_emptyBag 5 = .ok (.istore_n 2, 1) := by decide +kernel
theorem dX2_emptyBag_6 : decode cX2_emptyBag 6 = .ok (.iconst 0, 1) := by decide +kernel
theorem dX2_emptyBag_7 : decode cX2_emptyBag 7 = .ok (.istore_n 3, 1) := by decide +kernel
theorem dX2_emptyBag_8 : decode cX2_emptyBag 8 = .ok (.iload_n 3, 1) := by decide +kernel
theorem dX2_emptyBag_9 : decode cX2_emptyBag 9 = .ok (.bipush 6, 2) := by decide +kernel
theorem dX2_emptyBag_11 : decode cX2_emptyBag 11 = .ok (.if_icmp .ge 21, 3) := by decide +kernel
theorem dX2_emptyBag_14 : decode cX2_emptyBag 14 = .ok (.aload_n 0, 1) := by decide +kernel
theorem dX2_emptyBag_15 : decode cX2_emptyBag 15 = .ok (.getfield 42, 3) := by decide +kernel
theorem dX2_emptyBag_18 : decode cX2_emptyBag 18 = .ok (.iload_n 1, 1) := by decide +kernel
theorem dX2_emptyBag_19 : decode cX2_emptyBag 19 = .ok (.bipush 6, 2) := by decide +kernel
theorem dX2_emptyBag_21 : decode cX2_emptyBag 21 = .ok (.imul, 1) := by decide +kernel
theorem dX2_emptyBag_22 : decode cX2_emptyBag 22 = .ok (.iload_n 3, 1) := by decide +kernel
theorem dX2_emptyBag_23 : decode cX2_emptyBag 23 = .ok (.iadd, 1) := by decide +kernel
theorem dX2_emptyBag_24 : decode cX2_emptyBag 24 = .ok (.iconst 0, 1) := by decide +kernel
theorem dX2_emptyBag_25 : decode cX2_emptyBag 25 = .ok (.iastore, 1) := by decide +kernel
theorem dX2_emptyBag_26 : decode cX2_emptyBag 26 = .ok (.iinc 3 1, 3) := by decide +kernel
theorem dX2_emptyBag_29 : decode cX2_emptyBag 29 = .ok (.goto (-21), 3) := by decide +kernel
theorem dX2_emptyBag_32 : decode cX2_emptyBag 32 = .ok (.aload_n 0, 1) := by decide +kernel
theorem dX2_emptyBag_33 : decode cX2_emptyBag 33 = .ok (.dup, 1) := by decide +kernel
theorem dX2_emptyBag_34 : decode cX2_emptyBag 34 = .ok (.getfield 55, 3) := by decide +kernel
theorem dX2_emptyBag_37 : decode cX2_emptyBag 37 = .ok (.iload_n 2, 1) := by decide +kernel
theorem dX2_emptyBag_38 : decode cX2_emptyBag 38 = .ok (.iadd, 1) := by decide +kernel
theorem dX2_emptyBag_39 : decode cX2_emptyBag 39 = .ok (.putfield 55, 3) := by decide +kernel
theorem dX2_emptyBag_42 : decode cX2_emptyBag 42 = .ok (.iload_n 2, 1) := by decide +kernel
theorem dX2_emptyBag_43 : decode cX2_emptyBag 43 = .ok (.ireturn, 1) := by decide +kernel
set_option maxRecDepth 20000 in
theorem ggX2_removeRejects_X2_sum : GoodIn wsX2_removeRejects wsX2_sum := goodIn_r _ [6] (by decide +kernel) (by decide +kernel)
set_option maxRecDepth 20000 in
theorem gX2_removeRejects_X2_sum : GoodIn wsX2_removeRejects (va_wsS RX2 109 yX2_sum wsX2_sum) := goodIn_app (goodIn_of _ (by decide +kernel)) ggX2_removeRejects_X2_sum
theorem dX2_removeRejects_0 : decode cX2_removeRejects 0 = .ok (.aload_n 0, 1) := by decide +kernel
