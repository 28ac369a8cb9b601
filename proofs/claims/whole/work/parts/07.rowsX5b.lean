theorem dX5_like_0 : decode cX5_like 0 = .ok (.aload_n 0, 1) := by decide +kernel
theorem dX5_like_1 : decode cX5_like 1 = .ok (.iconst 0, 1) := by decide +kernel
theorem dX5_like_2 : decode cX5_like 2 = .ok (.putfield 43, 3) := by decide +kernel
theorem dX5_like_5 : decode cX5_like 5 = .ok (.iload_n 1, 1) := by decide +kernel
theorem dX5_like_6 : decode cX5_like 6 = .ok (.iconst 0, 1) := by decide +kernel
theorem dX5_like_7 : decode cX5_like 7 = .ok (.bipush 7, 2) := by decide +kernel
theorem dX5_like_9 : decode cX5_like 9 = .ok (.invokestatic 81, 3) := by decide +kernel
theorem dX5_like_12 : decode cX5_like 12 = .ok (.ifCond .ne 5, 3) := by decide +kernel
theorem dX5_like_15 : decode cX5_like 15 = .ok (.iconst (-1), 1) := by decide +kernel
theorem dX5_like_16 : decode cX5_like 16 = .ok (.ireturn, 1) := by decide +kernel
theorem dX5_like_17 : decode cX5_like 17 = .ok (.iconst 0, 1) := by decide +kernel
theorem dX5_like_18 : decode cX5_like 18 = .ok (.istore_n 2, 1) := by decide +kernel
theorem dX5_like_19 : decode cX5_like 19 = .ok (.iconst 0, 1) := by decide +kernel
theorem dX5_like_20 : decode cX5_like 20 = .ok (.istore_n 3, 1) := by decide +kernel
theorem dX5_like_21 : decode cX5_like 21 = .ok (.iload_n 3, 1) := by decide +kernel
theorem dX5_like_22 : decode cX5_like 22 = .ok (.aload_n 0, 1) := by decide +kernel
theorem dX5_like_23 : decode cX5_like 23 = .ok (.getfield 67, 3) := by decide +kernel
theorem dX5_like_26 : decode cX5_like 26 = .ok (.if_icmp .ge 91, 3) := by decide +kernel
theorem dX5_like_29 : decode cX5_like 29 = .ok (.iconst 0, 1) := by decide +kernel
theorem dX5_like_30 : decode cX5_like 30 = .ok (.istore 4, 2) := by decide +kernel
theorem dX5_like_32 : decode cX5_like 32 = .ok (.iconst 0, 1) := by decide +kernel
theorem dX5_like_33 : decode cX5_like 33 = .ok (.istore 5, 2) := by decide +kernel
theorem dX5_like_35 : decode cX5_like 35 = .ok (.iload 5, 2) := by decide +kernel
theorem dX5_like_37 : decode cX5_like 37 = .ok (.aload_n 0, 1) := by decide +kernel
theorem dX5_like_38 : decode cX5_like 38 = .ok (.getfield 56, 3) := by decide +kernel
theorem dX5_like_41 : decode cX5_like 41 = .ok (.if_icmp .ge 40, 3) := by decide +kernel
theorem dX5_like_44 : decode cX5_like 44 = .ok (.iload 4, 2) := by decide +kernel
theorem dX5_like_46 : decode cX5_like 46 = .ok (.aload_n 0, 1) := by decide +kernel
theorem dX5_like_47 : decode cX5_like 47 = .ok (.getfield 17, 3) := by decide +kernel
theorem dX5_like_50 : decode cX5_like 50 = .ok (.iload_n 3, 1) := by decide +kernel
theorem dX5_like_51 : decode cX5_like 51 = .ok (.laload, 1) := by decide +kernel
theorem dX5_like_52 : decode cX5_like 52 = .ok (.iload 5, 2) := by decide +kernel
theorem dX5_like_54 : decode cX5_like 54 = .ok (.invokestatic 52, 3) := by decide +kernel
theorem dX5_like_57 : decode cX5_like 57 = .ok (.aload_n 0, 1) := by decide +kernel
theorem dX5_like_58 : decode cX5_like 58 = .ok (.getfield 7, 3) := by decide +kernel
theorem dX5_like_61 : decode cX5_like 61 = .ok (.iload 5, 2) := by decide +kernel
theorem dX5_like_63 : decode cX5_like 63 = .ok (.iaload, 1) := by decide +kernel
theorem dX5_like_64 : decode cX5_like 64 = .ok (.if_icmp .ne 7, 3) := by decide +kernel
theorem dX5_like_67 : decode cX5_like 67 = .ok (.iconst 0, 1) := by decide +kernel
theorem dX5_like_68 : decode cX5_like 68 = .ok (.goto 4, 3) := by decide +kernel
theorem dX5_like_71 : decode cX5_like 71 = .ok (.iconst 1, 1) := by decide +kernel
theorem dX5_like_72 : decode cX5_like 72 = .ok (.iadd, 1) := by decide +kernel
theorem dX5_like_73 : decode cX5_like 73 = .ok (.istore 4, 2) := by decide +kernel
theorem dX5_like_75 : decode cX5_like 75 = .ok (.iinc 5 1, 3) := by decide +kernel
theorem dX5_like_78 : decode cX5_like 78 = .ok (.goto (-43), 3) := by decide +kernel
theorem dX5_like_81 : decode cX5_like 81 = .ok (.iload_n 2, 1) := by decide +kernel
theorem dX5_like_82 : decode cX5_like 82 = .ok (.aload_n 0, 1) := by decide +kernel
theorem dX5_like_83 : decode cX5_like 83 = .ok (.getfield 17, 3) := by decide +kernel
theorem dX5_like_86 : decode cX5_like 86 = .ok (.iload_n 3, 1) := by decide +kernel
theorem dX5_like_87 : decode cX5_like 87 = .ok (.laload, 1) := by decide +kernel
theorem dX5_like_88 : decode cX5_like 88 = .ok (.invokestatic 59, 3) := by decide +kernel
theorem dX5_like_91 : decode cX5_like 91 = .ok (.aload_n 0, 1) := by decide +kernel
theorem dX5_like_92 : decode cX5_like 92 = .ok (.getfield 56, 3) := by decide +kernel
theorem dX5_like_95 : decode cX5_like 95 = .ok (.if_icmp .ne 13, 3) := by decide +kernel
theorem dX5_like_98 : decode cX5_like 98 = .ok (.iload 4, 2) := by decide +kernel
theorem dX5_like_100 : decode cX5_like 100 = .ok (.iload_n 1, 1) := by decide +kernel
theorem dX5_like_101 : decode cX5_like 101 = .ok (.if_icmp .gt 7, 3) := by decide +kernel
theorem dX5_like_104 : decode cX5_like 104 = .ok (.iconst 1, 1) := by decide +kernel
theorem dX5_like_105 : decode cX5_like 105 = .ok (.goto 4, 3) := by decide +kernel
theorem dX5_like_108 : decode cX5_like 108 = .ok (.iconst 0, 1) := by decide +kernel
theorem dX5_like_109 : decode cX5_like 109 = .ok (.iadd, 1) := by decide +kernel
theorem dX5_like_110 : decode cX5_like 110 = .ok (.istore_n 2, 1) := by decide +kernel
theorem dX5_like_111 : decode cX5_like 111 = .ok (.iinc 3 1, 3) := by decide +kernel
theorem dX5_like_114 : decode cX5_like 114 = .ok (.goto (-93), 3) := by decide +kernel
theorem dX5_like_117 : decode cX5_like 117 = .ok (.iload_n 2, 1) := by decide +kernel
theorem dX5_like_118 : decode cX5_like 118 = .ok (.ireturn, 1) := by decide +kernel
theorem dX5_gcd_0 : decode cX5_gcd 0 = .ok (.iload_n 0, 1) := by decide +kernel
theorem dX5_gcd_1 : decode cX5_gcd 1 = .ok (.istore_n 2, 1) := by decide +kernel
theorem dX5_gcd_2 : decode cX5_gcd 2 = .ok (.iload_n 1, 1) := by decide +kernel
theorem dX5_gcd_3 : decode cX5_gcd 3 = .ok (.istore_n 3, 1) := by decide +kernel
theorem dX5_gcd_4 : decode cX5_gcd 4 = .ok (.iload_n 3, 1) := by decide +kernel
theorem dX5_gcd_5 : decode cX5_gcd 5 = .ok (.ifCond .eq 16, 3) := by decide +kernel
theorem dX5_gcd_8 : decode cX5_gcd 8 = .ok (.iload_n 2, 1) := by decide +kernel
theorem dX5_gcd_9 : decode cX5_gcd 9 = .ok (.iload_n 3, 1) := by decide +kernel
theorem dX5_gcd_10 : decode cX5_gcd 10 = .ok (.irem, 1) := by decide +kernel
theorem dX5_gcd_11 : decode cX5_gcd 11 = .ok (.istore 4, 2) := by decide +kernel
theorem dX5_gcd_13 : decode cX5_gcd 13 = .ok (.iload_n 3, 1) := by decide +kernel
theorem dX5_gcd_14 : decode cX5_gcd 14 = .ok (.istore_n 2, 1) := by decide +kernel
theorem dX5_gcd_15 : decode cX5_gcd 15 = .ok (.iload 4, 2) := by decide +kernel
theorem dX5_gcd_17 : decode cX5_gcd 17 = .ok (.istore_n 3, 1) := by decide +kernel
theorem dX5_gcd_18 : decode cX5_gcd 18 = .ok (.goto (-14), 3) := by decide +kernel
theorem dX5_gcd_21 : decode cX5_gcd 21 = .ok (.iload_n 2, 1) := by decide +kernel
theorem dX5_gcd_22 : decode cX5_gcd 22 = .ok (.ireturn, 1) := by decide +kernel
theorem dX5_all_0 : decode cX5_all 0 = .ok (.iconst 0, 1) := by decide +kernel
theorem dX5_all_1 : decode cX5_all 1 = .ok (.istore_n 1, 1) := by decide +kernel
theorem dX5_all_2 : decode cX5_all 2 = .ok (.iconst 0, 1) := by decide +kernel
theorem dX5_all_3 : decode cX5_all 3 = .ok (.istore_n 2, 1) := by decide +kernel
theorem dX5_all_4 : decode cX5_all 4 = .ok (.iload_n 2, 1) := by decide +kernel
theorem dX5_all_5 : decode cX5_all 5 = .ok (.aload_n 0, 1) := by decide +kernel
theorem dX5_all_6 : decode cX5_all 6 = .ok (.getfield 67, 3) := by decide +kernel
theorem dX5_all_9 : decode cX5_all 9 = .ok (.if_icmp .ge 18, 3) := by decide +kernel
theorem dX5_all_12 : decode cX5_all 12 = .ok (.iload_n 1, 1) := by decide +kernel
theorem dX5_all_13 : decode cX5_all 13 = .ok (.aload_n 0, 1) := by decide +kernel
theorem dX5_all_14 : decode cX5_all 14 = .ok (.getfield 21, 3) := by decide +kernel
theorem dX5_all_17 : decode cX5_all 17 = .ok (.iload_n 2, 1) := by decide +kernel
theorem dX5_all_18 : decode cX5_all 18 = .ok (.iaload, 1) := by decide +kernel
theorem dX5_all_19 : decode cX5_all 19 = .ok (.iadd, 1) := by decide +kernel
theorem dX5_all_20 : decode cX5_all 20 = .ok (.istore_n 1, 1) := by decide +kernel
theorem dX5_all_21 : decode cX5_all 21 = .ok (.iinc 2 1, 3) := by decide +kernel
theorem dX5_all_24 : decode cX5_all 24 = .ok (.goto (-20), 3) := by decide +kernel
theorem dX5_all_27 : decode cX5_all 27 = .ok (.iload_n 1, 1) := by decide +kernel
theorem dX5_all_28 : decode cX5_all 28 = .ok (.ireturn, 1) := by decide +kernel
set_option maxRecDepth 20000 in
theorem ggX5_odds_X5_in : GoodIn wsX5_odds wsX5_in := goodIn_r _ [5] (by decide +kernel) (by decide +kernel)
set_option maxRecDepth 20000 in
theorem gX5_odds_X5_in : GoodIn wsX5_odds (va_wsS RX5 81 yX5_in wsX5_in) := goodIn_app (goodIn_of _ (by decide +kernel)) ggX5_odds_X5_in
set_option maxRecDepth 20000 in
theorem ggX5_odds_X5_all : GoodIn wsX5_odds wsX5_all := goodIn_r _ [9, 10, 11, 42, 43, 44, 45, 46, 47, 48, 49, 50, 51, 52, 53, 54, 55, 56, 57] (by decide +kernel) (by decide +kernel)
set_option maxRecDepth 20000 in
theorem gX5_odds_X5_all : GoodIn wsX5_odds (wsV RX5 120 RX5 yX5_all wsX5_all) := goodIn_app (goodIn_of _ (by decide +kernel)) ggX5_odds_X5_all
set_option maxRecDepth 20000 in
theorem ggX5_odds_X5_own : GoodIn wsX5_odds wsX5_own := goodIn_r _ [15, 16, 17, 18, 42, 43, 44, 45, 46, 47, 48, 49, 50, 51, 52, 53, 54, 55, 56, 57] (by decide +kernel) (by decide +kernel)
set_option maxRecDepth 20000 in
theorem gX5_odds_X5_own : GoodIn wsX5_odds (wsV RX5 94 RX5 yX5_own wsX5_own) := goodIn_app (goodIn_of _ (by decide +kernel)) ggX5_odds_X5_own
set_option maxRecDepth 20000 in
theorem ggX5_odds_X5_beginOf : GoodIn wsX5_odds wsX5_beginOf := goodIn_r _ [22, 10, 23, 11, 24, 25, 4, 26, 27, 28, 29, 30, 31, 32, 16, 33, 34, 35, 36, 37, 38, 42, 43, 44, 45, 46, 47, 48, 49, 50, 51, 52, 53, 54, 55, 56, 57] (by decide +kernel) (by decide +kernel)
set_option maxRecDepth 20000 in
theorem gX5_odds_X5_beginOf : GoodIn wsX5_odds (wsV RX5 114 RX5 yX5_beginOf wsX5_beginOf) := goodIn_app (goodIn_of _ (by decide +kernel)) ggX5_odds_X5_beginOf
set_option maxRecDepth 20000 in
theorem ggX5_odds_X5_gcd : GoodIn wsX5_odds wsX5_gcd := goodIn_r _ [41] (by decide +kernel) (by decide +kernel)
set_option maxRecDepth 20000 in
theorem gX5_odds_X5_gcd : GoodIn wsX5_odds (va_wsS RX5 124 yX5_gcd wsX5_gcd) := goodIn_app (goodIn_of _ (by decide +kernel)) ggX5_odds_X5_gcd
theorem dX5_odds_0 : decode cX5_odds 0 = .ok (.aload_n 0, 1) := by decide +kernel
theorem dX5_odds_1 : decode cX5_odds 1 = .ok (.iconst 0, 1) := by decide +kernel
theorem dX5_odds_2 : decode cX5_odds 2 = .ok (.putfield 43, 3) := by decide +kernel
theorem dX5_odds_5 : decode cX5_odds 5 = .ok (.iload_n 1, 1) := by decide +kernel
theorem dX5_odds_6 : decode cX5_odds 6 = .ok (.iconst 0, 1) := by decide +kernel
theorem dX5_odds_7 : decode cX5_odds 7 = .ok (.iconst 1, 1) := by decide +kernel
theorem dX5_odds_8 : decode cX5_odds 8 = .ok (.invokestatic 81, 3) := by decide +kernel
theorem dX5_odds_11 : decode cX5_odds 11 = .ok (.ifCond .ne 5, 3) := by decide +kernel
theorem dX5_odds_14 : decode cX5_odds 14 = .ok (.iconst (-1), 1) := by decide +kernel
theorem dX5_odds_15 : decode cX5_odds 15 = .ok (.ireturn, 1) := by decide +kernel
theorem dX5_odds_16 : decode cX5_odds 16 = .ok (.aload_n 0, 1) := by decide +kernel
theorem dX5_odds_17 : decode cX5_odds 17 = .ok (.invokevirtual 120, 3) := by decide +kernel
theorem dX5_odds_20 : decode cX5_odds 20 = .ok (.ifCond .ne 7, 3) := by decide +kernel
theorem dX5_odds_23 : decode cX5_odds 23 = .ok (.iconst 1, 1) := by decide +kernel
theorem dX5_odds_24 : decode cX5_odds 24 = .ok (.goto 7, 3) := by decide +kernel
theorem dX5_odds_27 : decode cX5_odds 27 = .ok (.aload_n 0, 1) := by decide +kernel
theorem dX5_odds_28 : decode cX5_odds 28 = .ok (.invokevirtual 120, 3) := by decide +kernel
theorem dX5_odds_31 : decode cX5_odds 31 = .ok (.istore_n 2, 1) := by decide +kernel
theorem dX5_odds_32 : decode cX5_odds 32 = .ok (.aload_n 0, 1) := by decide +kernel
theorem dX5_odds_33 : decode cX5_odds 33 = .ok (.aload_n 0, 1) := by decide +kernel
theorem dX5_odds_34 : decode cX5_odds 34 = .ok (.invokevirtual 94, 3) := by decide +kernel
theorem dX5_odds_37 : decode cX5_odds 37 = .ok (.invokevirtual 114, 3) := by decide +kernel
theorem dX5_odds_40 : decode cX5_odds 40 = .ok (.istore_n 3, 1) := by decide +kernel
theorem dX5_odds_41 : decode cX5_odds 41 = .ok (.iload_n 3, 1) := by decide +kernel
theorem dX5_odds_42 : decode cX5_odds 42 = .ok (.iload_n 2, 1) := by decide +kernel
theorem dX5_odds_43 : decode cX5_odds 43 = .ok (.invokestatic 124, 3) := by decide +kernel
theorem dX5_odds_46 : decode cX5_odds 46 = .ok (.istore 4, 2) := by decide +kernel
theorem dX5_odds_48 : decode cX5_odds 48 = .ok (.iload_n 1, 1) := by decide +kernel
theorem dX5_odds_49 : decode cX5_odds 49 = .ok (.ifCond .ne 10, 3) := by decide +kernel
theorem dX5_odds_52 : decode cX5_odds 52 = .ok (.iload_n 3, 1) := by decide +kernel
theorem dX5_odds_53 : decode cX5_odds 53 = .ok (.iload 4, 2) := by decide +kernel
theorem dX5_odds_55 : decode cX5_odds 55 = .ok (.idiv, 1) := by decide +kernel
theorem dX5_odds_56 : decode cX5_odds 56 = .ok (.goto 7, 3) := by decide +kernel
theorem dX5_odds_59 : decode cX5_odds 59 = .ok (.iload_n 2, 1) := by decide +kernel
theorem dX5_odds_60 : decode cX5_odds 60 = .ok (.iload 4, 2) := by decide +kernel
theorem dX5_odds_62 : decode cX5_odds 62 = .ok (.idiv, 1) := by decide +kernel
theorem dX5_odds_63 : decode cX5_odds 63 = .ok (.ireturn, 1) := by decide +kernel
set_option maxRecDepth 20000 in
theorem ggX5_tells_X5_in : GoodIn wsX5_tells wsX5_in := goodIn_r _ [6] (by decide +kernel) (by decide +kernel)
set_option maxRecDepth 20000 in
theorem gX5_tells_X5_in : GoodIn wsX5_tells (va_wsS RX5 81 yX5_in wsX5_in) := goodIn_app (goodIn_of _ (by decide +kernel)) ggX5_tells_X5_in
set_option maxRecDepth 20000 in
theorem ggX5_tells_X5_size : GoodIn wsX5_tells wsX5_size := goodIn_r _ [9, 10, 11, 5, 12, 13, 14, 15, 16] (by decide +kernel) (by decide +kernel)
set_option maxRecDepth 20000 in
theorem gX5_tells_X5_size : GoodIn wsX5_tells (va_wsS RX5 59 yX5_size wsX5_size) := goodIn_app (goodIn_of _ (by decide +kernel)) ggX5_tells_X5_size
set_option maxRecDepth 20000 in
theorem ggX5_tells_X5_sign : GoodIn wsX5_tells wsX5_sign := goodIn_r _ [12, 13, 14, 15, 5, 16] (by decide +kernel) (by decide +kernel)
set_option maxRecDepth 20000 in
theorem gX5_tells_X5_sign : GoodIn wsX5_tells (va_wsS RX5 52 yX5_sign wsX5_sign) := goodIn_app (goodIn_of _ (by decide +kernel)) ggX5_tells_X5_sign
theorem dX5_tells_0 : decode cX5_tells 0 = .ok (.iload_n 1, 1) := by decide +kernel
theorem dX5_tells_1 : decode cX5_tells 1 = .ok (.iconst 0, 1) := by decide +kernel
theorem dX5_tells_2 : decode cX5_tells 2 = .ok (.aload_n 0, 1) := by decide +kernel
theorem dX5_tells_3 : decode cX5_tells 3 = .ok (.getfield 67, 3) := by decide +kernel
theorem dX5_tells_6 : decode cX5_tells 6 = .ok (.iconst 1, 1) := by decide +kernel
theorem dX5_tells_7 : decode cX5_tells 7 = .ok (.isub, 1) := by decide +kernel
theorem dX5_tells_8 : decode cX5_tells 8 = .ok (.invokestatic 81, 3) := by decide +kernel
theorem dX5_tells_11 : decode cX5_tells 11 = .ok (.ifCond .ne 6, 3) := by decide +kernel
theorem dX5_tells_14 : decode cX5_tells 14 = .ok (.bipush (-9), 2) := by decide +kernel
theorem dX5_tells_16 : decode cX5_tells 16 = .ok (.ireturn, 1) := by decide +kernel
theorem dX5_tells_17 : decode cX5_tells 17 = .ok (.iload_n 2, 1) := by decide +kernel
theorem dX5_tells_18 : decode cX5_tells 18 = .ok (.ifCond .ge 13, 3) := by decide +kernel
theorem dX5_tells_21 : decode cX5_tells 21 = .ok (.aload_n 0, 1) := by decide +kernel
theorem dX5_tells_22 : decode cX5_tells 22 = .ok (.getfield 17, 3) := by decide +kernel
theorem dX5_tells_25 : decode cX5_tells 25 = .ok (.iload_n 1, 1) := by decide +kernel
theorem dX5_tells_26 : decode cX5_tells 26 = .ok (.laload, 1) := by decide +kernel
theorem dX5_tells_27 : decode cX5_tells 27 = .ok (.invokestatic 59, 3) := by decide +kernel
theorem dX5_tells_30 : decode cX5_tells 30 = .ok (.ireturn, 1) := by decide +kernel
theorem dX5_tells_31 : decode cX5_tells 31 = .ok (.aload_n 0, 1) := by decide +kernel
theorem dX5_tells_32 : decode cX5_tells 32 = .ok (.getfield 17, 3) := by decide +kernel
theorem dX5_tells_35 : decode cX5_tells 35 = .ok (.iload_n 1, 1) := by decide +kernel
theorem dX5_tells_36 : decode cX5_tells 36 = .ok (.laload, 1) := by decide +kernel
theorem dX5_tells_37 : decode cX5_tells 37 = .ok (.iload_n 2, 1) := by decide +kernel
theorem dX5_tells_38 : decode cX5_tells 38 = .ok (.invokestatic 52, 3) := by decide +kernel
theorem dX5_tells_41 : decode cX5_tells 41 = .ok (.ifCond .ne 8, 3) := by decide +kernel
theorem dX5_tells_44 : decode cX5_tells 44 = .ok (.bipush (-9), 2) := by decide +kernel
theorem dX5_tells_46 : decode cX5_tells 46 = .ok (.goto 18, 3) := by decide +kernel
theorem dX5_tells_49 : decode cX5_tells 49 = .ok (.aload_n 0, 1) := by decide +kernel
theorem dX5_tells_50 : decode cX5_tells 50 = .ok (.getfield 17, 3) := by decide +kernel
theorem dX5_tells_53 : decode cX5_tells 53 = .ok (.iload_n 1, 1) := by decide +kernel
theorem dX5_tells_54 : decode cX5_tells 54 = .ok (.laload, 1) := by decide +kernel
theorem dX5_tells_55 : decode cX5_tells 55 = .ok (.iload_n 2, 1) := by decide +kernel
theorem dX5_tells_56 : decode cX5_tells 56 = .ok (.invokestatic 52, 3) := by decide +kernel
theorem dX5_tells_59 : decode cX5_tells 59 = .ok (.bipush 97, 2) := by decide +kernel
theorem dX5_tells_61 : decode cX5_tells 61 = .ok (.iadd, 1) := by decide +kernel
theorem dX5_tells_62 : decode cX5_tells 62 = .ok (.iconst 1, 1) := by decide +kernel
theorem dX5_tells_63 : decode cX5_tells 63 = .ok (.isub, 1) := by decide +kernel
theorem dX5_tells_64 : decode cX5_tells 64 = .ok (.ireturn, 1) := by decide +kernel
set_option maxRecDepth 20000 in
theorem ggX5_isAt_X5_in : GoodIn wsX5_isAt wsX5_in := goodIn_r _ [4] (by decide +kernel) (by decide +kernel)
set_option maxRecDepth 20000 in
theorem gX5_isAt_X5_in : GoodIn wsX5_isAt (va_wsS RX5 81 yX5_in wsX5_in) := goodIn_app (goodIn_of _ (by decide +kernel)) ggX5_isAt_X5_in
theorem dX5_isAt_0 : decode cX5_isAt 0 = .ok (.iload_n 0, 1) := by decide +kernel
theorem dX5_isAt_1 : decode cX5_isAt 1 = .ok (.iconst (-1), 1) := by decide +kernel
theorem dX5_isAt_2 : decode cX5_isAt 2 = .ok (.bipush 6, 2) := by decide +kernel
theorem dX5_isAt_4 : decode cX5_isAt 4 = .ok (.invokestatic 81, 3) := by decide +kernel
theorem dX5_isAt_7 : decode cX5_isAt 7 = .ok (.ireturn, 1) := by decide +kernel
set_option maxRecDepth 20000 in
theorem ggX5_kth_X5_isAt : GoodIn wsX5_kth wsX5_isAt := goodIn_r _ [7, 8, 9, 6, 10] (by decide +kernel) (by decide +kernel)
set_option maxRecDepth 20000 in
theorem gX5_kth_X5_isAt : GoodIn wsX5_kth (va_wsS RX5 128 yX5_isAt wsX5_isAt) := goodIn_app (goodIn_of _ (by decide +kernel)) ggX5_kth_X5_isAt
set_option maxRecDepth 20000 in
theorem ggX5_kth_X5_tells : GoodIn wsX5_kth wsX5_tells := goodIn_r _ [14, 2, 15, 8, 9, 6, 10, 16, 17, 18, 19, 20, 21, 22, 23, 24, 25, 26, 27, 28, 29, 30, 31, 32, 33, 34, 35, 36, 37, 38, 39, 40, 41] (by decide +kernel) (by decide +kernel)
set_option maxRecDepth 20000 in
theorem gX5_kth_X5_tells : GoodIn wsX5_kth (wsV RX5 132 RX5 yX5_tells wsX5_tells) := goodIn_app (goodIn_of _ (by decide +kernel)) ggX5_kth_X5_tells
theorem dX5_kth_0 : decode cX5_kth 0 = .ok (.aload_n 0, 1) := by decide +kernel
theorem dX5_kth_1 : decode cX5_kth 1 = .ok (.iconst 0, 1) := by decide +kernel
theorem dX5_kth_2 : decode cX5_kth 2 = .ok (.putfield 43, 3) := by decide +kernel
theorem dX5_kth_5 : decode cX5_kth 5 = .ok (.iload_n 1, 1) := by decide +kernel
theorem dX5_kth_6 : decode cX5_kth 6 = .ok (.ifCond .lt 10, 3) := by decide +kernel
theorem dX5_kth_9 : decode cX5_kth 9 = .ok (.iload_n 2, 1) := by decide +kernel
theorem dX5_kth_10 : decode cX5_kth 10 = .ok (.invokestatic 128, 3) := by decide +kernel
theorem dX5_kth_13 : decode cX5_kth 13 = .ok (.ifCond .ne 5, 3) := by decide +kernel
theorem dX5_kth_16 : decode cX5_kth 16 = .ok (.iconst (-1), 1) := by decide +kernel
theorem dX5_kth_17 : decode cX5_kth 17 = .ok (.ireturn, 1) := by decide +kernel
theorem dX5_kth_18 : decode cX5_kth 18 = .ok (.iload_n 1, 1) := by decide +kernel
theorem dX5_kth_19 : decode cX5_kth 19 = .ok (.istore_n 3, 1) := by decide +kernel
theorem dX5_kth_20 : decode cX5_kth 20 = .ok (.iconst 0, 1) := by decide +kernel
theorem dX5_kth_21 : decode cX5_kth 21 = .ok (.istore 4, 2) := by decide +kernel
theorem dX5_kth_23 : decode cX5_kth 23 = .ok (.iload 4, 2) := by decide +kernel
theorem dX5_kth_25 : decode cX5_kth 25 = .ok (.aload_n 0, 1) := by decide +kernel
theorem dX5_kth_26 : decode cX5_kth 26 = .ok (.getfield 67, 3) := by decide +kernel
theorem dX5_kth_29 : decode cX5_kth 29 = .ok (.if_icmp .ge 30, 3) := by decide +kernel
theorem dX5_kth_32 : decode cX5_kth 32 = .ok (.iload_n 3, 1) := by decide +kernel
theorem dX5_kth_33 : decode cX5_kth 33 = .ok (.aload_n 0, 1) := by decide +kernel
theorem dX5_kth_34 : decode cX5_kth 34 = .ok (.getfield 21, 3) := by decide +kernel
theorem dX5_kth_37 : decode cX5_kth 37 = .ok (.iload 4, 2) := by decide +kernel
theorem dX5_kth_39 : decode cX5_kth 39 = .ok (.iaload, 1) := by decide +kernel
theorem dX5_kth_40 : decode cX5_kth 40 = .ok (.if_icmp .lt 19, 3) := by decide +kernel
theorem dX5_kth_43 : decode cX5_kth 43 = .ok (.iload_n 3, 1) := by decide +kernel
theorem dX5_kth_44 : decode cX5_kth 44 = .ok (.aload_n 0, 1) := by decide +kernel
theorem dX5_kth_45 : decode cX5_kth 45 = .ok (.getfield 21, 3) := by decide +kernel
theorem dX5_kth_48 : decode cX5_kth 48 = .ok (.iload 4, 2) := by decide +kernel
theorem dX5_kth_50 : decode cX5_kth 50 = .ok (.iaload, 1) := by decide +kernel
theorem dX5_kth_51 : decode cX5_kth 51 = .ok (.isub, 1) := by decide +kernel
theorem dX5_kth_52 : decode cX5_kth 52 = .ok (.istore_n 3, 1) := by decide +kernel
theorem dX5_kth_53 : decode cX5_kth 53 = .ok (.iinc 4 1, 3) := by decide +kernel
theorem dX5_kth_56 : decode cX5_kth 56 = .ok (.goto (-33), 3) := by decide +kernel
theorem dX5_kth_59 : decode cX5_kth 59 = .ok (.aload_n 0, 1) := by decide +kernel
theorem dX5_kth_60 : decode cX5_kth 60 = .ok (.iload 4, 2) := by decide +kernel
theorem dX5_kth_62 : decode cX5_kth 62 = .ok (.iload_n 2, 1) := by decide +kernel
theorem dX5_kth_63 : decode cX5_kth 63 = .ok (.invokevirtual 132, 3) := by decide +kernel
theorem dX5_kth_66 : decode cX5_kth 66 = .ok (.ireturn, 1) := by decide +kernel
set_option maxRecDepth 20000 in
theorem ggX5_unlike_X5_isAt : GoodIn wsX5_unlike wsX5_isAt := goodIn_r _ [5, 6, 7, 4, 8] (by decide +kernel) (by decide +kernel)
set_option maxRecDepth 20000 in
theorem gX5_unlike_X5_isAt : GoodIn wsX5_unlike (va_wsS RX5 128 yX5_isAt wsX5_isAt) := goodIn_app (goodIn_of _ (by decide +kernel)) ggX5_unlike_X5_isAt
set_option maxRecDepth 20000 in
theorem ggX5_unlike_X5_tells : GoodIn wsX5_unlike wsX5_tells := goodIn_r _ [12, 13, 14, 6, 7, 4, 8, 15, 16, 17, 18, 19, 20, 21, 22, 23, 24, 25, 26, 27, 28, 29, 30, 31, 32, 33, 34, 35, 36, 37, 38, 39, 40] (by decide +kernel) (by decide +kernel)
set_option maxRecDepth 20000 in
theorem gX5_unlike_X5_tells : GoodIn wsX5_unlike (wsV RX5 132 RX5 yX5_tells wsX5_tells) := goodIn_app (goodIn_of _ (by decide +kernel)) ggX5_unlike_X5_tells
theorem dX5_unlike_0 : decode cX5_unlike 0 = .ok (.aload_n 0, 1) := by decide +kernel
theorem dX5_unlike_1 : decode cX5_unlike 1 = .ok (.iconst 0, 1) := by decide +kernel
theorem dX5_unlike_2 : decode cX5_unlike 2 = .ok (.putfield 43, 3) := by decide +kernel
theorem dX5_unlike_5 : decode cX5_unlike 5 = .ok (.iload_n 1, 1) := by decide +kernel
theorem dX5_unlike_6 : decode cX5_unlike 6 = .ok (.ifCond .lt 10, 3) := by decide +kernel
theorem dX5_unlike_9 : decode cX5_unlike 9 = .ok (.iload_n 2, 1) := by decide +kernel
theorem dX5_unlike_10 : decode cX5_unlike 10 = .ok (.invokestatic 128, 3) := by decide +kernel
theorem dX5_unlike_13 : decode cX5_unlike 13 = .ok (.ifCond .ne 7, 3) := by decide +kernel
theorem dX5_unlike_16 : decode cX5_unlike 16 = .ok (.iconst (-1), 1) := by decide +kernel
theorem dX5_unlike_17 : decode cX5_unlike 17 = .ok (.goto 9, 3) := by decide +kernel
theorem dX5_unlike_20 : decode cX5_unlike 20 = .ok (.aload_n 0, 1) := by decide +kernel
theorem dX5_unlike_21 : decode cX5_unlike 21 = .ok (.iload_n 1, 1) := by decide +kernel
theorem dX5_unlike_22 : decode cX5_unlike 22 = .ok (.iload_n 2, 1) := by decide +kernel
theorem dX5_unlike_23 : decode cX5_unlike 23 = .ok (.invokevirtual 132, 3) := by decide +kernel
theorem dX5_unlike_26 : decode cX5_unlike 26 = .ok (.ireturn, 1) := by decide +kernel
set_option maxRecDepth 20000 in
theorem ggX5_next_X5_isAt : GoodIn wsX5_next wsX5_isAt := goodIn_r _ [7, 8, 9, 6, 10] (by decide +kernel) (by decide +kernel)
set_option maxRecDepth 20000 in
theorem gX5_next_X5_isAt : GoodIn wsX5_next (va_wsS RX5 128 yX5_isAt wsX5_isAt) := goodIn_app (goodIn_of _ (by decide +kernel)) ggX5_next_X5_isAt
set_option maxRecDepth 20000 in
theorem ggX5_next_X5_own : GoodIn wsX5_next wsX5_own := goodIn_r _ [14, 15, 16, 17, 31, 32, 33, 34, 35, 36, 37, 38, 39, 40, 41, 42, 43, 44, 45, 46] (by decide +kernel) (by decide +kernel)
set_option maxRecDepth 20000 in
theorem gX5_next_X5_own : GoodIn wsX5_next (wsV RX5 94 RX5 yX5_own wsX5_own) := goodIn_app (goodIn_of _ (by decide +kernel)) ggX5_next_X5_own
set_option maxRecDepth 20000 in
theorem ggX5_next_X5_tells : GoodIn wsX5_next wsX5_tells := goodIn_r _ [21, 2, 3, 8, 9, 6, 10, 22, 23, 24, 25, 26, 27, 15, 28, 29, 30, 31, 32, 33, 34, 35, 36, 37, 38, 39, 40, 41, 42, 43, 44, 45, 46] (by decide +kernel) (by decide +kernel)
set_option maxRecDepth 20000 in
theorem gX5_next_X5_tells : GoodIn wsX5_next (wsV RX5 132 RX5 yX5_tells wsX5_tells) := goodIn_app (goodIn_of _ (by decide +kernel)) ggX5_next_X5_tells
theorem dX5_next_0 : decode cX5_next 0 = .ok (.aload_n 0, 1) := by decide +kernel
theorem dX5_next_1 : decode cX5_next 1 = .ok (.iconst 0, 1) := by decide +kernel
theorem dX5_next_2 : decode cX5_next 2 = .ok (.putfield 43, 3) := by decide +kernel
theorem dX5_next_5 : decode cX5_next 5 = .ok (.iload_n 1, 1) := by decide +kernel
theorem dX5_next_6 : decode cX5_next 6 = .ok (.invokestatic 128, 3) := by decide +kernel
theorem dX5_next_9 : decode cX5_next 9 = .ok (.ifCond .ne 5, 3) := by decide +kernel
theorem dX5_next_12 : decode cX5_next 12 = .ok (.iconst (-1), 1) := by decide +kernel
theorem dX5_next_13 : decode cX5_next 13 = .ok (.ireturn, 1) := by decide +kernel
theorem dX5_next_14 : decode cX5_next 14 = .ok (.iconst 0, 1) := by decide +kernel
theorem dX5_next_15 : decode cX5_next 15 = .ok (.istore_n 2, 1) := by decide +kernel
theorem dX5_next_16 : decode cX5_next 16 = .ok (.iload_n 2, 1) := by decide +kernel
theorem dX5_next_17 : decode cX5_next 17 = .ok (.aload_n 0, 1) := by decide +kernel
theorem dX5_next_18 : decode cX5_next 18 = .ok (.getfield 67, 3) := by decide +kernel
theorem dX5_next_21 : decode cX5_next 21 = .ok (.if_icmp .ge 23, 3) := by decide +kernel
theorem dX5_next_24 : decode cX5_next 24 = .ok (.aload_n 0, 1) := by decide +kernel
theorem dX5_next_25 : decode cX5_next 25 = .ok (.getfield 17, 3) := by decide +kernel
theorem dX5_next_28 : decode cX5_next 28 = .ok (.iload_n 2, 1) := by decide +kernel
theorem dX5_next_29 : decode cX5_next 29 = .ok (.laload, 1) := by decide +kernel
theorem dX5_next_30 : decode cX5_next 30 = .ok (.aload_n 0, 1) := by decide +kernel
theorem dX5_next_31 : decode cX5_next 31 = .ok (.invokevirtual 94, 3) := by decide +kernel
theorem dX5_next_34 : decode cX5_next 34 = .ok (.lcmp, 1) := by decide +kernel
theorem dX5_next_35 : decode cX5_next 35 = .ok (.ifCond .gt 9, 3) := by decide +kernel
theorem dX5_next_38 : decode cX5_next 38 = .ok (.iinc 2 1, 3) := by decide +kernel
theorem dX5_next_41 : decode cX5_next 41 = .ok (.goto (-25), 3) := by decide +kernel
theorem dX5_next_44 : decode cX5_next 44 = .ok (.aload_n 0, 1) := by decide +kernel
theorem dX5_next_45 : decode cX5_next 45 = .ok (.iload_n 2, 1) := by decide +kernel
theorem dX5_next_46 : decode cX5_next 46 = .ok (.iload_n 1, 1) := by decide +kernel
theorem dX5_next_47 : decode cX5_next 47 = .ok (.invokevirtual 132, 3) := by decide +kernel
theorem dX5_next_50 : decode cX5_next 50 = .ok (.ireturn, 1) := by decide +kernel
set_option maxRecDepth 20000 in
theorem ggX5_top_X5_isAt : GoodIn wsX5_top wsX5_isAt := goodIn_r _ [9, 10, 11, 8, 12] (by decide +kernel) (by decide +kernel)
set_option maxRecDepth 20000 in
theorem gX5_top_X5_isAt : GoodIn wsX5_top (va_wsS RX5 128 yX5_isAt wsX5_isAt) := goodIn_app (goodIn_of _ (by decide +kernel)) ggX5_top_X5_isAt
set_option maxRecDepth 20000 in
theorem ggX5_top_X5_own : GoodIn wsX5_top wsX5_own := goodIn_r _ [16, 17, 18, 19, 39, 40, 41, 42, 43, 44, 45, 46, 47, 48, 49, 50, 51, 52, 53, 54] (by decide +kernel) (by decide +kernel)
set_option maxRecDepth 20000 in
theorem gX5_top_X5_own : GoodIn wsX5_top (wsV RX5 94 RX5 yX5_own wsX5_own) := goodIn_app (goodIn_of _ (by decide +kernel)) ggX5_top_X5_own
set_option maxRecDepth 20000 in
theorem ggX5_top_X5_begins : GoodIn wsX5_top wsX5_begins := goodIn_r _ [22, 23, 24, 8, 25, 26, 27, 28, 17, 29, 30, 31, 32, 33, 34] (by decide +kernel) (by decide +kernel)
set_option maxRecDepth 20000 in
theorem gX5_top_X5_begins : GoodIn wsX5_top (va_wsS RX5 70 yX5_begins wsX5_begins) := goodIn_app (goodIn_of _ (by decide +kernel)) ggX5_top_X5_begins
set_option maxRecDepth 20000 in
theorem ggX5_top_X5_tells : GoodIn wsX5_top wsX5_tells := goodIn_r _ [38, 2, 4, 10, 11, 8, 12, 23, 24, 25, 26, 27, 28, 17, 29, 30, 31, 39, 40, 41, 42, 43, 44, 45, 46, 47, 48, 49, 50, 51, 52, 53, 54] (by decide +kernel) (by decide +kernel)
set_option maxRecDepth 20000 in
theorem gX5_top_X5_tells : GoodIn wsX5_top (wsV RX5 132 RX5 yX5_tells wsX5_tells) := goodIn_app (goodIn_of _ (by decide +kernel)) ggX5_top_X5_tells
theorem dX5_top_0 : decode cX5_top 0 = .ok (.aload_n 0, 1) := by decide +kernel
theorem dX5_top_1 : decode cX5_top 1 = .ok (.iconst 0, 1) := by decide +kernel
theorem dX5_top_2 : decode cX5_top 2 = .ok (.putfield 43, 3) := by decide +kernel
theorem dX5_top_5 : decode cX5_top 5 = .ok (.iload_n 1, 1) := by decide +kernel
theorem dX5_top_6 : decode cX5_top 6 = .ok (.ifCond .lt 10, 3) := by decide +kernel
theorem dX5_top_9 : decode cX5_top 9 = .ok (.iload_n 2, 1) := by decide +kernel
theorem dX5_top_10 : decode cX5_top 10 = .ok (.invokestatic 128, 3) := by decide +kernel
theorem dX5_top_13 : decode cX5_top 13 = .ok (.ifCond .ne 5, 3) := by decide +kernel
theorem dX5_top_16 : decode cX5_top 16 = .ok (.iconst (-1), 1) := by decide +kernel
theorem dX5_top_17 : decode cX5_top 17 = .ok (.ireturn, 1) := by decide +kernel
theorem dX5_top_18 : decode cX5_top 18 = .ok (.iconst 0, 1) := by decide +kernel
theorem dX5_top_19 : decode cX5_top 19 = .ok (.istore_n 3, 1) := by decide +kernel
theorem dX5_top_20 : decode cX5_top 20 = .ok (.iload_n 3, 1) := by decide +kernel
theorem dX5_top_21 : decode cX5_top 21 = .ok (.aload_n 0, 1) := by decide +kernel
theorem dX5_top_22 : decode cX5_top 22 = .ok (.getfield 67, 3) := by decide +kernel
theorem dX5_top_25 : decode cX5_top 25 = .ok (.if_icmp .ge 36, 3) := by decide +kernel
theorem dX5_top_28 : decode cX5_top 28 = .ok (.aload_n 0, 1) := by decide +kernel
theorem dX5_top_29 : decode cX5_top 29 = .ok (.getfield 39, 3) := by decide +kernel
theorem dX5_top_32 : decode cX5_top 32 = .ok (.iload_n 3, 1) := by decide +kernel
theorem dX5_top_33 : decode cX5_top 33 = .ok (.aload_n 0, 1) := by decide +kernel
theorem dX5_top_34 : decode cX5_top 34 = .ok (.getfield 17, 3) := by decide +kernel
theorem dX5_top_37 : decode cX5_top 37 = .ok (.iload_n 3, 1) := by decide +kernel
theorem dX5_top_38 : decode cX5_top 38 = .ok (.laload, 1) := by decide +kernel
theorem dX5_top_39 : decode cX5_top 39 = .ok (.aload_n 0, 1) := by decide +kernel
theorem dX5_top_40 : decode cX5_top 40 = .ok (.invokevirtual 94, 3) := by decide +kernel
theorem dX5_top_43 : decode cX5_top 43 = .ok (.invokestatic 70, 3) := by decide +kernel
theorem dX5_top_46 : decode cX5_top 46 = .ok (.ifCond .ne 7, 3) := by decide +kernel
theorem dX5_top_49 : decode cX5_top 49 = .ok (.iconst 1, 1) := by decide +kernel
theorem dX5_top_50 : decode cX5_top 50 = .ok (.goto 4, 3) := by decide +kernel
theorem dX5_top_53 : decode cX5_top 53 = .ok (.iconst 0, 1) := by decide +kernel
theorem dX5_top_54 : decode cX5_top 54 = .ok (.bastore, 1) := by decide +kernel
theorem dX5_top_55 : decode cX5_top 55 = .ok (.iinc 3 1, 3) := by decide +kernel
theorem dX5_top_58 : decode cX5_top 58 = .ok (.goto (-38), 3) := by decide +kernel
theorem dX5_top_61 : decode cX5_top 61 = .ok (.aload_n 0, 1) := by decide +kernel
theorem dX5_top_62 : decode cX5_top 62 = .ok (.getfield 67, 3) := by decide +kernel
theorem dX5_top_65 : decode cX5_top 65 = .ok (.istore_n 3, 1) := by decide +kernel
theorem dX5_top_66 : decode cX5_top 66 = .ok (.iconst 0, 1) := by decide +kernel
theorem dX5_top_67 : decode cX5_top 67 = .ok (.istore 4, 2) := by decide +kernel
theorem dX5_top_69 : decode cX5_top 69 = .ok (.iload 4, 2) := by decide +kernel
theorem dX5_top_71 : decode cX5_top 71 = .ok (.iload_n 1, 1) := by decide +kernel
theorem dX5_top_72 : decode cX5_top 72 = .ok (.if_icmp .gt 97, 3) := by decide +kernel
theorem dX5_top_75 : decode cX5_top 75 = .ok (.iload 4, 2) := by decide +kernel
theorem dX5_top_77 : decode cX5_top 77 = .ok (.aload_n 0, 1) := by decide +kernel
theorem dX5_top_78 : decode cX5_top 78 = .ok (.getfield 67, 3) := by decide +kernel
theorem dX5_top_81 : decode cX5_top 81 = .ok (.if_icmp .gt 88, 3) := by decide +kernel
theorem dX5_top_84 : decode cX5_top 84 = .ok (.aload_n 0, 1) := by decide +kernel
theorem dX5_top_85 : decode cX5_top 85 = .ok (.getfield 67, 3) := by decide +kernel
theorem dX5_top_88 : decode cX5_top 88 = .ok (.istore_n 3, 1) := by decide +kernel
theorem dX5_top_89 : decode cX5_top 89 = .ok (.iconst 0, 1) := by decide +kernel
theorem dX5_top_90 : decode cX5_top 90 = .ok (.istore 5, 2) := by decide +kernel
theorem dX5_top_92 : decode cX5_top 92 = .ok (.iload 5, 2) := by decide +kernel
theorem dX5_top_94 : decode cX5_top 94 = .ok (.aload_n 0, 1) := by decide +kernel
theorem dX5_top_95 : decode cX5_top 95 = .ok (.getfield 67, 3) := by decide +kernel
theorem dX5_top_98 : decode cX5_top 98 = .ok (.if_icmp .ge 50, 3) := by decide +kernel
theorem dX5_top_101 : decode cX5_top 101 = .ok (.aload_n 0, 1) := by decide +kernel
theorem dX5_top_102 : decode cX5_top 102 = .ok (.getfield 39, 3) := by decide +kernel
theorem dX5_top_105 : decode cX5_top 105 = .ok (.iload 5, 2) := by decide +kernel
theorem dX5_top_107 : decode cX5_top 107 = .ok (.baload, 1) := by decide +kernel
theorem dX5_top_108 : decode cX5_top 108 = .ok (.ifCond .ne 32, 3) := by decide +kernel
theorem dX5_top_111 : decode cX5_top 111 = .ok (.iload_n 3, 1) := by decide +kernel
theorem dX5_top_112 : decode cX5_top 112 = .ok (.aload_n 0, 1) := by decide +kernel
theorem dX5_top_113 : decode cX5_top 113 = .ok (.getfield 67, 3) := by decide +kernel
theorem dX5_top_116 : decode cX5_top 116 = .ok (.if_icmp .eq 19, 3) := by decide +kernel
theorem dX5_top_119 : decode cX5_top 119 = .ok (.aload_n 0, 1) := by decide +kernel
theorem dX5_top_120 : decode cX5_top 120 = .ok (.getfield 21, 3) := by decide +kernel
theorem dX5_top_123 : decode cX5_top 123 = .ok (.iload 5, 2) := by decide +kernel
theorem dX5_top_125 : decode cX5_top 125 = .ok (.iaload, 1) := by decide +kernel
theorem dX5_top_126 : decode cX5_top 126 = .ok (.aload_n 0, 1) := by decide +kernel
theorem dX5_top_127 : decode cX5_top 127 = .ok (.getfield 21, 3) := by decide +kernel
theorem dX5_top_130 : decode cX5_top 130 = .ok (.iload_n 3, 1) := by decide +kernel
theorem dX5_top_131 : decode cX5_top 131 = .ok (.iaload, 1) := by decide +kernel
theorem dX5_top_132 : decode cX5_top 132 = .ok (.if_icmp .le 8, 3) := by decide +kernel
theorem dX5_top_135 : decode cX5_top 135 = .ok (.iload 5, 2) := by decide +kernel
theorem dX5_top_137 : decode cX5_top 137 = .ok (.goto 4, 3) := by decide +kernel
theorem dX5_top_140 : decode cX5_top 140 = .ok (.iload_n 3, 1) := by decide +kernel
theorem dX5_top_141 : decode cX5_top 141 = .ok (.istore_n 3, 1) := by decide +kernel
theorem dX5_top_142 : decode cX5_top 142 = .ok (.iinc 5 1, 3) := by decide +kernel
theorem dX5_top_145 : decode cX5_top 145 = .ok (.goto (-53), 3) := by decide +kernel
theorem dX5_top_148 : decode cX5_top 148 = .ok (.iload_n 3, 1) := by decide +kernel
theorem dX5_top_149 : decode cX5_top 149 = .ok (.aload_n 0, 1) := by decide +kernel
theorem dX5_top_150 : decode cX5_top 150 = .ok (.getfield 67, 3) := by decide +kernel
theorem dX5_top_153 : decode cX5_top 153 = .ok (.if_icmp .ge 10, 3) := by decide +kernel
theorem dX5_top_156 : decode cX5_top 156 = .ok (.aload_n 0, 1) := by decide +kernel
theorem dX5_top_157 : decode cX5_top 157 = .ok (.getfield 39, 3) := by decide +kernel
theorem dX5_top_160 : decode cX5_top 160 = .ok (.iload_n 3, 1) := by decide +kernel
theorem dX5_top_161 : decode cX5_top 161 = .ok (.iconst 1, 1) := by decide +kernel
theorem dX5_top_162 : decode cX5_top 162 = .ok (.bastore, 1) := by decide +kernel
theorem dX5_top_163 : decode cX5_top 163 = .ok (.iinc 4 1, 3) := by decide +kernel
theorem dX5_top_166 : decode cX5_top 166 = .ok (.goto (-97), 3) := by decide +kernel
theorem dX5_top_169 : decode cX5_top 169 = .ok (.iload_n 1, 1) := by decide +kernel
theorem dX5_top_170 : decode cX5_top 170 = .ok (.aload_n 0, 1) := by decide +kernel
theorem dX5_top_171 : decode cX5_top 171 = .ok (.getfield 67, 3) := by decide +kernel
theorem dX5_top_174 : decode cX5_top 174 = .ok (.if_icmp .le 8, 3) := by decide +kernel
theorem dX5_top_177 : decode cX5_top 177 = .ok (.bipush (-9), 2) := by decide +kernel
theorem dX5_top_179 : decode cX5_top 179 = .ok (.goto 9, 3) := by decide +kernel
theorem dX5_top_182 : decode cX5_top 182 = .ok (.aload_n 0, 1) := by decide +kernel
theorem dX5_top_183 : decode cX5_top 183 = .ok (.iload_n 3, 1) := by decide +kernel
theorem dX5_top_184 : decode cX5_top 184 = .ok (.iload_n 2, 1) := by decide +kernel
theorem dX5_top_185 : decode cX5_top 185 = .ok (.invokevirtual 132, 3) := by decide +kernel
theorem dX5_top_188 : decode cX5_top 188 = .ok (.ireturn, 1) := by decide +kernel
set_option maxRecDepth 20000 in
theorem ggX5_sees_X5_in : GoodIn wsX5_sees wsX5_in := goodIn_r _ [9] (by decide +kernel) (by decide +kernel)
set_option maxRecDepth 20000 in
theorem gX5_sees_X5_in : GoodIn wsX5_sees (va_wsS RX5 81 yX5_in wsX5_in) := goodIn_app (goodIn_of _ (by decide +kernel)) ggX5_sees_X5_in
theorem dX5_sees_0 : decode cX5_sees 0 = .ok (.aload_n 0, 1) := by decide +kernel
theorem dX5_sees_1 : decode cX5_sees 1 = .ok (.iconst 0, 1) := by decide +kernel
theorem dX5_sees_2 : decode cX5_sees 2 = .ok (.putfield 43, 3) := by decide +kernel
theorem dX5_sees_5 : decode cX5_sees 5 = .ok (.iload_n 1, 1) := by decide +kernel
theorem dX5_sees_6 : decode cX5_sees 6 = .ok (.iconst 0, 1) := by decide +kernel
theorem dX5_sees_7 : decode cX5_sees 7 = .ok (.bipush 6, 2) := by decide +kernel
theorem dX5_sees_9 : decode cX5_sees 9 = .ok (.invokestatic 81, 3) := by decide +kernel
theorem dX5_sees_12 : decode cX5_sees 12 = .ok (.ifCond .eq 23, 3) := by decide +kernel
theorem dX5_sees_15 : decode cX5_sees 15 = .ok (.iload_n 2, 1) := by decide +kernel
theorem dX5_sees_16 : decode cX5_sees 16 = .ok (.bipush 97, 2) := by decide +kernel
theorem dX5_sees_18 : decode cX5_sees 18 = .ok (.bipush 122, 2) := by decide +kernel
theorem dX5_sees_20 : decode cX5_sees 20 = .ok (.invokestatic 81, 3) := by decide +kernel
theorem dX5_sees_23 : decode cX5_sees 23 = .ok (.ifCond .eq 12, 3) := by decide +kernel
theorem dX5_sees_26 : decode cX5_sees 26 = .ok (.iload_n 3, 1) := by decide +kernel
theorem dX5_sees_27 : decode cX5_sees 27 = .ok (.iconst 0, 1) := by decide +kernel
theorem dX5_sees_28 : decode cX5_sees 28 = .ok (.iconst 1, 1) := by decide +kernel
theorem dX5_sees_29 : decode cX5_sees 29 = .ok (.invokestatic 81, 3) := by decide +kernel
theorem dX5_sees_32 : decode cX5_sees 32 = .ok (.ifCond .ne 5, 3) := by decide +kernel
theorem dX5_sees_35 : decode cX5_sees 35 = .ok (.iconst (-1), 1) := by decide +kernel
theorem dX5_sees_36 : decode cX5_sees 36 = .ok (.ireturn, 1) := by decide +kernel
theorem dX5_sees_37 : decode cX5_sees 37 = .ok (.aload_n 0, 1) := by decide +kernel
theorem dX5_sees_38 : decode cX5_sees 38 = .ok (.getfield 135, 3) := by decide +kernel
theorem dX5_sees_41 : decode cX5_sees 41 = .ok (.bipush 8, 2) := by decide +kernel
theorem dX5_sees_43 : decode cX5_sees 43 = .ok (.if_icmp .ne 6, 3) := by decide +kernel
theorem dX5_sees_46 : decode cX5_sees 46 = .ok (.bipush (-3), 2) := by decide +kernel
theorem dX5_sees_48 : decode cX5_sees 48 = .ok (.ireturn, 1) := by decide +kernel
theorem dX5_sees_49 : decode cX5_sees 49 = .ok (.aload_n 0, 1) := by decide +kernel
theorem dX5_sees_50 : decode cX5_sees 50 = .ok (.getfield 30, 3) := by decide +kernel
theorem dX5_sees_53 : decode cX5_sees 53 = .ok (.aload_n 0, 1) := by decide +kernel
theorem dX5_sees_54 : decode cX5_sees 54 = .ok (.getfield 135, 3) := by decide +kernel
theorem dX5_sees_57 : decode cX5_sees 57 = .ok (.iload_n 1, 1) := by decide +kernel
theorem dX5_sees_58 : decode cX5_sees 58 = .ok (.iastore, 1) := by decide +kernel
theorem dX5_sees_59 : decode cX5_sees 59 = .ok (.aload_n 0, 1) := by decide +kernel
theorem dX5_sees_60 : decode cX5_sees 60 = .ok (.getfield 33, 3) := by decide +kernel
theorem dX5_sees_63 : decode cX5_sees 63 = .ok (.aload_n 0, 1) := by decide +kernel
theorem dX5_sees_64 : decode cX5_sees 64 = .ok (.getfield 135, 3) := by decide +kernel
theorem dX5_sees_67 : decode cX5_sees 67 = .ok (.iload_n 2, 1) := by decide +kernel
theorem dX5_sees_68 : decode cX5_sees 68 = .ok (.bipush 97, 2) := by decide +kernel
theorem dX5_sees_70 : decode cX5_sees 70 = .ok (.isub, 1) := by decide +kernel
theorem dX5_sees_71 : decode cX5_sees 71 = .ok (.iconst 1, 1) := by decide +kernel
theorem dX5_sees_72 : decode cX5_sees 72 = .ok (.iadd, 1) := by decide +kernel
theorem dX5_sees_73 : decode cX5_sees 73 = .ok (.iastore, 1) := by decide +kernel
theorem dX5_sees_74 : decode cX5_sees 74 = .ok (.aload_n 0, 1) := by decide +kernel
theorem dX5_sees_75 : decode cX5_sees 75 = .ok (.getfield 36, 3) := by decide +kernel
theorem dX5_sees_78 : decode cX5_sees 78 = .ok (.aload_n 0, 1) := by decide +kernel
theorem dX5_sees_79 : decode cX5_sees 79 = .ok (.getfield 135, 3) := by decide +kernel
theorem dX5_sees_82 : decode cX5_sees 82 = .ok (.iload_n 3, 1) := by decide +kernel
theorem dX5_sees_83 : decode cX5_sees 83 = .ok (.iastore, 1) := by decide +kernel
theorem dX5_sees_84 : decode cX5_sees 84 = .ok (.aload_n 0, 1) := by decide +kernel
theorem dX5_sees_85 : decode cX5_sees 85 = .ok (.dup, 1) := by decide +kernel
theorem dX5_sees_86 : decode cX5_sees 86 = .ok (.getfield 135, 3) := by decide +kernel
theorem dX5_sees_89 : decode cX5_sees 89 = .ok (.iconst 1, 1) := by decide +kernel
theorem dX5_sees_90 : decode cX5_sees 90 = .ok (.iadd, 1) := by decide +kernel
theorem dX5_sees_91 : decode cX5_sees 91 = .ok (.putfield 135, 3) := by decide +kernel
theorem dX5_sees_94 : decode cX5_sees 94 = .ok (.aload_n 0, 1) := by decide +kernel
theorem dX5_sees_95 : decode cX5_sees 95 = .ok (.getfield 135, 3) := by decide +kernel
theorem dX5_sees_98 : decode cX5_sees 98 = .ok (.ireturn, 1) := by decide +kernel
theorem dX5_forget_0 : decode cX5_forget 0 = .ok (.aload_n 0, 1) := by decide +kernel
theorem dX5_forget_1 : decode cX5_forget 1 = .ok (.iconst 0, 1) := by decide +kernel
theorem dX5_forget_2 : decode cX5_forget 2 = .ok (.putfield 43, 3) := by decide +kernel
theorem dX5_forget_5 : decode cX5_forget 5 = .ok (.aload_n 0, 1) := by decide +kernel
theorem dX5_forget_6 : decode cX5_forget 6 = .ok (.getfield 135, 3) := by decide +kernel
theorem dX5_forget_9 : decode cX5_forget 9 = .ok (.istore_n 1, 1) := by decide +kernel
theorem dX5_forget_10 : decode cX5_forget 10 = .ok (.aload_n 0, 1) := by decide +kernel
theorem dX5_forget_11 : decode cX5_forget 11 = .ok (.iconst 0, 1) := by decide +kernel
theorem dX5_forget_12 : decode cX5_forget 12 = .ok (.putfield 135, 3) := by decide +kernel
theorem dX5_forget_15 : decode cX5_forget 15 = .ok (.iload_n 1, 1) := by decide +kernel
theorem dX5_forget_16 : decode cX5_forget 16 = .ok (.ireturn, 1) := by decide +kernel
set_option maxRecDepth 20000 in
theorem ggX5_fits_X5_sign : GoodIn wsX5_fits wsX5_sign := goodIn_r _ [9, 10, 11, 12, 8, 13] (by decide +kernel) (by decide +kernel)
set_option maxRecDepth 20000 in
theorem gX5_fits_X5_sign : GoodIn wsX5_fits (va_wsS RX5 52 yX5_sign wsX5_sign) := goodIn_app (goodIn_of _ (by decide +kernel)) ggX5_fits_X5_sign
theorem dX5_fits_0 : decode cX5_fits 0 = .ok (.iconst 1, 1) := by decide +kernel
theorem dX5_fits_1 : decode cX5_fits 1 = .ok (.istore_n 2, 1) := by decide +kernel
theorem dX5_fits_2 : decode cX5_fits 2 = .ok (.iconst 0, 1) := by decide +kernel
theorem dX5_fits_3 : decode cX5_fits 3 = .ok (.istore_n 3, 1) := by decide +kernel
theorem dX5_fits_4 : decode cX5_fits 4 = .ok (.iload_n 3, 1) := by decide +kernel
theorem dX5_fits_5 : decode cX5_fits 5 = .ok (.aload_n 0, 1) := by decide +kernel
theorem dX5_fits_6 : decode cX5_fits 6 = .ok (.getfield 135, 3) := by decide +kernel
theorem dX5_fits_9 : decode cX5_fits 9 = .ok (.if_icmp .ge 66, 3) := by decide +kernel
theorem dX5_fits_12 : decode cX5_fits 12 = .ok (.iload_n 2, 1) := by decide +kernel
theorem dX5_fits_13 : decode cX5_fits 13 = .ok (.ifCond .eq 54, 3) := by decide +kernel
theorem dX5_fits_16 : decode cX5_fits 16 = .ok (.aload_n 0, 1) := by decide +kernel
theorem dX5_fits_17 : decode cX5_fits 17 = .ok (.getfield 17, 3) := by decide +kernel
theorem dX5_fits_20 : decode cX5_fits 20 = .ok (.iload_n 1, 1) := by decide +kernel
theorem dX5_fits_21 : decode cX5_fits 21 = .ok (.laload, 1) := by decide +kernel
theorem dX5_fits_22 : decode cX5_fits 22 = .ok (.aload_n 0, 1) := by decide +kernel
theorem dX5_fits_23 : decode cX5_fits 23 = .ok (.getfield 30, 3) := by decide +kernel
theorem dX5_fits_26 : decode cX5_fits 26 = .ok (.iload_n 3, 1) := by decide +kernel
theorem dX5_fits_27 : decode cX5_fits 27 = .ok (.iaload, 1) := by decide +kernel
theorem dX5_fits_28 : decode cX5_fits 28 = .ok (.invokestatic 52, 3) := by decide +kernel
theorem dX5_fits_31 : decode cX5_fits 31 = .ok (.aload_n 0, 1) := by decide +kernel
theorem dX5_fits_32 : decode cX5_fits 32 = .ok (.getfield 33, 3) := by decide +kernel
theorem dX5_fits_35 : decode cX5_fits 35 = .ok (.iload_n 3, 1) := by decide +kernel
theorem dX5_fits_36 : decode cX5_fits 36 = .ok (.iaload, 1) := by decide +kernel
theorem dX5_fits_37 : decode cX5_fits 37 = .ok (.if_icmp .ne 7, 3) := by decide +kernel
theorem dX5_fits_40 : decode cX5_fits 40 = .ok (.iconst 1, 1) := by decide +kernel
theorem dX5_fits_41 : decode cX5_fits 41 = .ok (.goto 4, 3) := by decide +kernel
theorem dX5_fits_44 : decode cX5_fits 44 = .ok (.iconst 0, 1) := by decide +kernel
theorem dX5_fits_45 : decode cX5_fits 45 = .ok (.aload_n 0, 1) := by decide +kernel
theorem dX5_fits_46 : decode cX5_fits 46 = .ok (.getfield 36, 3) := by decide +kernel
theorem dX5_fits_49 : decode cX5_fits 49 = .ok (.iload_n 3, 1) := by decide +kernel
theorem dX5_fits_50 : decode cX5_fits 50 = .ok (.iaload, 1) := by decide +kernel
theorem dX5_fits_51 : decode cX5_fits 51 = .ok (.iconst 1, 1) := by decide +kernel
theorem dX5_fits_52 : decode cX5_fits 52 = .ok (.if_icmp .ne 7, 3) := by decide +kernel
theorem dX5_fits_55 : decode cX5_fits 55 = .ok (.iconst 1, 1) := by decide +kernel
theorem dX5_fits_56 : decode cX5_fits 56 = .ok (.goto 4, 3) := by decide +kernel
theorem dX5_fits_59 : decode cX5_fits 59 = .ok (.iconst 0, 1) := by decide +kernel
theorem dX5_fits_60 : decode cX5_fits 60 = .ok (.if_icmp .ne 7, 3) := by decide +kernel
theorem dX5_fits_63 : decode cX5_fits 63 = .ok (.iconst 1, 1) := by decide +kernel
theorem dX5_fits_64 : decode cX5_fits 64 = .ok (.goto 4, 3) := by decide +kernel
theorem dX5_fits_67 : decode cX5_fits 67 = .ok (.iconst 0, 1) := by decide +kernel
theorem dX5_fits_68 : decode cX5_fits 68 = .ok (.istore_n 2, 1) := by decide +kernel
theorem dX5_fits_69 : decode cX5_fits 69 = .ok (.iinc 3 1, 3) := by decide +kernel
theorem dX5_fits_72 : decode cX5_fits 72 = .ok (.goto (-68), 3) := by decide +kernel
theorem dX5_fits_75 : decode cX5_fits 75 = .ok (.iload_n 2, 1) := by decide +kernel
theorem dX5_fits_76 : decode cX5_fits 76 = .ok (.ireturn, 1) := by decide +kernel
set_option maxRecDepth 20000 in
theorem ggX5_fitMany_X5_fits : GoodIn wsX5_fitMany wsX5_fits := goodIn_r _ [6, 7, 8, 9, 10, 11, 12, 13, 5, 14, 15, 16, 17, 18, 19, 20, 21, 22, 23, 24, 25, 26, 27, 28, 29, 30, 31, 32, 33, 34] (by decide +kernel) (by decide +kernel)
set_option maxRecDepth 20000 in
theorem gX5_fitMany_X5_fits : GoodIn wsX5_fitMany (wsV RX5 138 RX5 yX5_fits wsX5_fits) := goodIn_app (goodIn_of _ (by decide +kernel)) ggX5_fitMany_X5_fits
theorem dX5_fitMany_0 : decode cX5_fitMany 0 = .ok (.iconst 0, 1) := by decide +kernel
theorem dX5_fitMany_1 : decode cX5_fitMany 1 = .ok (.istore_n 1, 1) := by decide +kernel
theorem dX5_fitMany_2 : decode cX5_fitMany 2 = .ok (.iconst 0, 1) := by decide +kernel
theorem dX5_fitMany_3 : decode cX5_fitMany 3 = .ok (.istore_n 2, 1) := by decide +kernel
theorem dX5_fitMany_4 : decode cX5_fitMany 4 = .ok (.iload_n 2, 1) := by decide +kernel
theorem dX5_fitMany_5 : decode cX5_fitMany 5 = .ok (.aload_n 0, 1) := by decide +kernel
theorem dX5_fitMany_6 : decode cX5_fitMany 6 = .ok (.getfield 67, 3) := by decide +kernel
theorem dX5_fitMany_9 : decode cX5_fitMany 9 = .ok (.if_icmp .ge 25, 3) := by decide +kernel
theorem dX5_fitMany_12 : decode cX5_fitMany 12 = .ok (.iload_n 1, 1) := by decide +kernel
theorem dX5_fitMany_13 : decode cX5_fitMany 13 = .ok (.aload_n 0, 1) := by decide +kernel
theorem dX5_fitMany_14 : decode cX5_fitMany 14 = .ok (.iload_n 2, 1) := by decide +kernel
theorem dX5_fitMany_15 : decode cX5_fitMany 15 = .ok (.invokevirtual 138, 3) := by decide +kernel
theorem dX5_fitMany_18 : decode cX5_fitMany 18 = .ok (.ifCond .eq 7, 3) := by decide +kernel
theorem dX5_fitMany_21 : decode cX5_fitMany 21 = .ok (.iconst 1, 1) := by decide +kernel
theorem dX5_fitMany_22 : decode cX5_fitMany 22 = .ok (.goto 4, 3) := by decide +kernel
theorem dX5_fitMany_25 : decode cX5_fitMany 25 = .ok (.iconst 0, 1) := by decide +kernel
theorem dX5_fitMany_26 : decode cX5_fitMany 26 = .ok (.iadd, 1) := by decide +kernel
theorem dX5_fitMany_27 : decode cX5_fitMany 27 = .ok (.istore_n 1, 1) := by decide +kernel
theorem dX5_fitMany_28 : decode cX5_fitMany 28 = .ok (.iinc 2 1, 3) := by decide +kernel
theorem dX5_fitMany_31 : decode cX5_fitMany 31 = .ok (.goto (-27), 3) := by decide +kernel
theorem dX5_fitMany_34 : decode cX5_fitMany 34 = .ok (.iload_n 1, 1) := by decide +kernel
theorem dX5_fitMany_35 : decode cX5_fitMany 35 = .ok (.ireturn, 1) := by decide +kernel
set_option maxRecDepth 20000 in
theorem ggX5_fit_X5_in : GoodIn wsX5_fit wsX5_in := goodIn_r _ [6] (by decide +kernel) (by decide +kernel)
set_option maxRecDepth 20000 in
theorem gX5_fit_X5_in : GoodIn wsX5_fit (va_wsS RX5 81 yX5_in wsX5_in) := goodIn_app (goodIn_of _ (by decide +kernel)) ggX5_fit_X5_in
set_option maxRecDepth 20000 in
theorem ggX5_fit_X5_fits : GoodIn wsX5_fit wsX5_fits := goodIn_r _ [10, 11, 12, 13, 14, 15, 16, 17, 5, 18, 19, 20, 21, 22, 27, 28, 29, 30, 31, 32, 33, 34, 35, 36, 37, 38, 39, 40, 41, 42] (by decide +kernel) (by decide +kernel)
set_option maxRecDepth 20000 in
theorem gX5_fit_X5_fits : GoodIn wsX5_fit (wsV RX5 138 RX5 yX5_fits wsX5_fits) := goodIn_app (goodIn_of _ (by decide +kernel)) ggX5_fit_X5_fits
set_option maxRecDepth 20000 in
theorem ggX5_fit_X5_fitMany : GoodIn wsX5_fit wsX5_fitMany := goodIn_r _ [26, 2, 7, 8, 9, 5, 10, 11, 12, 13, 14, 15, 16, 17, 18, 19, 20, 21, 22, 27, 28, 29, 30, 31, 32, 33, 34, 35, 36, 37, 38, 39, 40, 41, 42] (by decide +kernel) (by decide +kernel)
set_option maxRecDepth 20000 in
theorem gX5_fit_X5_fitMany : GoodIn wsX5_fit (wsV RX5 141 RX5 yX5_fitMany wsX5_fitMany) := goodIn_app (goodIn_of _ (by decide +kernel)) ggX5_fit_X5_fitMany
theorem dX5_fit_0 : decode cX5_fit 0 = .ok (.aload_n 0, 1) := by decide +kernel
theorem dX5_fit_1 : decode cX5_fit 1 = .ok (.iconst 0, 1) := by decide +kernel
theorem dX5_fit_2 : decode cX5_fit 2 = .ok (.putfield 43, 3) := by decide +kernel
theorem dX5_fit_5 : decode cX5_fit 5 = .ok (.iload_n 1, 1) := by decide +kernel
theorem dX5_fit_6 : decode cX5_fit 6 = .ok (.iconst 0, 1) := by decide +kernel
theorem dX5_fit_7 : decode cX5_fit 7 = .ok (.iconst 1, 1) := by decide +kernel
theorem dX5_fit_8 : decode cX5_fit 8 = .ok (.invokestatic 81, 3) := by decide +kernel
theorem dX5_fit_11 : decode cX5_fit 11 = .ok (.ifCond .ne 5, 3) := by decide +kernel
theorem dX5_fit_14 : decode cX5_fit 14 = .ok (.iconst (-1), 1) := by decide +kernel
theorem dX5_fit_15 : decode cX5_fit 15 = .ok (.ireturn, 1) := by decide +kernel
theorem dX5_fit_16 : decode cX5_fit 16 = .ok (.iconst 0, 1) := by decide +kernel
theorem dX5_fit_17 : decode cX5_fit 17 = .ok (.istore_n 2, 1) := by decide +kernel
theorem dX5_fit_18 : decode cX5_fit 18 = .ok (.iload_n 2, 1) := by decide +kernel
theorem dX5_fit_19 : decode cX5_fit 19 = .ok (.aload_n 0, 1) := by decide +kernel
theorem dX5_fit_20 : decode cX5_fit 20 = .ok (.getfield 67, 3) := by decide +kernel
theorem dX5_fit_23 : decode cX5_fit 23 = .ok (.if_icmp .ge 17, 3) := by decide +kernel
theorem dX5_fit_26 : decode cX5_fit 26 = .ok (.aload_n 0, 1) := by decide +kernel
theorem dX5_fit_27 : decode cX5_fit 27 = .ok (.iload_n 2, 1) := by decide +kernel
theorem dX5_fit_28 : decode cX5_fit 28 = .ok (.invokevirtual 138, 3) := by decide +kernel
theorem dX5_fit_31 : decode cX5_fit 31 = .ok (.ifCond .ne 9, 3) := by decide +kernel
theorem dX5_fit_34 : decode cX5_fit 34 = .ok (.iinc 2 1, 3) := by decide +kernel
theorem dX5_fit_37 : decode cX5_fit 37 = .ok (.goto (-19), 3) := by decide +kernel
theorem dX5_fit_40 : decode cX5_fit 40 = .ok (.iload_n 1, 1) := by decide +kernel
theorem dX5_fit_41 : decode cX5_fit 41 = .ok (.ifCond .ne 10, 3) := by decide +kernel
theorem dX5_fit_44 : decode cX5_fit 44 = .ok (.aload_n 0, 1) := by decide +kernel
theorem dX5_fit_45 : decode cX5_fit 45 = .ok (.invokevirtual 141, 3) := by decide +kernel
theorem dX5_fit_48 : decode cX5_fit 48 = .ok (.goto 17, 3) := by decide +kernel
theorem dX5_fit_51 : decode cX5_fit 51 = .ok (.iload_n 2, 1) := by decide +kernel
theorem dX5_fit_52 : decode cX5_fit 52 = .ok (.aload_n 0, 1) := by decide +kernel
theorem dX5_fit_53 : decode cX5_fit 53 = .ok (.getfield 67, 3) := by decide +kernel
theorem dX5_fit_56 : decode cX5_fit 56 = .ok (.if_icmp .ne 8, 3) := by decide +kernel
theorem dX5_fit_59 : decode cX5_fit 59 = .ok (.bipush (-9), 2) := by decide +kernel
theorem dX5_fit_61 : decode cX5_fit 61 = .ok (.goto 4, 3) := by decide +kernel
theorem dX5_fit_64 : decode cX5_fit 64 = .ok (.iload_n 2, 1) := by decide +kernel
theorem dX5_fit_65 : decode cX5_fit 65 = .ok (.ireturn, 1) := by decide +kernel
set_option maxRecDepth 20000 in
theorem ggX5_ask_X5_fitMany : GoodIn wsX5_ask wsX5_fitMany := goodIn_r _ [9, 2, 10, 11, 12, 8, 13, 14, 4, 15, 16, 17, 18, 19, 20, 21, 22, 23, 24, 25, 26, 27, 28, 29, 30, 31, 32, 33, 34, 35, 36, 37, 38, 39, 40] (by decide +kernel) (by decide +kernel)
set_option maxRecDepth 20000 in
theorem gX5_ask_X5_fitMany : GoodIn wsX5_ask (wsV RX5 141 RX5 yX5_fitMany wsX5_fitMany) := goodIn_app (goodIn_of _ (by decide +kernel)) ggX5_ask_X5_fitMany
set_option maxRecDepth 20000 in
theorem ggX5_ask_X5_fits : GoodIn wsX5_ask wsX5_fits := goodIn_r _ [13, 14, 4, 15, 16, 17, 18, 19, 8, 20, 21, 22, 23, 24, 25, 26, 27, 28, 29, 30, 31, 32, 33, 34, 35, 36, 37, 38, 39, 40] (by decide +kernel) (by decide +kernel)
set_option maxRecDepth 20000 in
theorem gX5_ask_X5_fits : GoodIn wsX5_ask (wsV RX5 138 RX5 yX5_fits wsX5_fits) := goodIn_app (goodIn_of _ (by decide +kernel)) ggX5_ask_X5_fits
set_option maxRecDepth 20000 in
theorem ggX5_ask_X5_sign : GoodIn wsX5_ask wsX5_sign := goodIn_r _ [20, 21, 22, 23, 8, 24] (by decide +kernel) (by decide +kernel)
set_option maxRecDepth 20000 in
theorem gX5_ask_X5_sign : GoodIn wsX5_ask (va_wsS RX5 52 yX5_sign wsX5_sign) := goodIn_app (goodIn_of _ (by decide +kernel)) ggX5_ask_X5_sign
theorem dX5_ask_0 : decode cX5_ask 0 = .ok (.aload_n 0, 1) := by decide +kernel
theorem dX5_ask_1 : decode cX5_ask 1 = .ok (.iconst 0, 1) := by decide +kernel
theorem dX5_ask_2 : decode cX5_ask 2 = .ok (.putfield 43, 3) := by decide +kernel
theorem dX5_ask_5 : decode cX5_ask 5 = .ok (.aload_n 0, 1) := by decide +kernel
theorem dX5_ask_6 : decode cX5_ask 6 = .ok (.invokevirtual 141, 3) := by decide +kernel
theorem dX5_ask_9 : decode cX5_ask 9 = .ok (.istore_n 1, 1) := by decide +kernel
theorem dX5_ask_10 : decode cX5_ask 10 = .ok (.bipush (-9), 2) := by decide +kernel
theorem dX5_ask_12 : decode cX5_ask 12 = .ok (.istore_n 2, 1) := by decide +kernel
theorem dX5_ask_13 : decode cX5_ask 13 = .ok (.bipush 99, 2) := by decide +kernel
theorem dX5_ask_15 : decode cX5_ask 15 = .ok (.istore_n 3, 1) := by decide +kernel
theorem dX5_ask_16 : decode cX5_ask 16 = .ok (.iconst 0, 1) := by decide +kernel
theorem dX5_ask_17 : decode cX5_ask 17 = .ok (.istore 4, 2) := by decide +kernel
theorem dX5_ask_19 : decode cX5_ask 19 = .ok (.iload 4, 2) := by decide +kernel
theorem dX5_ask_21 : decode cX5_ask 21 = .ok (.aload_n 0, 1) := by decide +kernel
theorem dX5_ask_22 : decode cX5_ask 22 = .ok (.getfield 67, 3) := by decide +kernel
theorem dX5_ask_25 : decode cX5_ask 25 = .ok (.if_icmp .ge 22, 3) := by decide +kernel
theorem dX5_ask_28 : decode cX5_ask 28 = .ok (.aload_n 0, 1) := by decide +kernel
theorem dX5_ask_29 : decode cX5_ask 29 = .ok (.getfield 39, 3) := by decide +kernel
theorem dX5_ask_32 : decode cX5_ask 32 = .ok (.iload 4, 2) := by decide +kernel
theorem dX5_ask_34 : decode cX5_ask 34 = .ok (.aload_n 0, 1) := by decide +kernel
theorem dX5_ask_35 : decode cX5_ask 35 = .ok (.iload 4, 2) := by decide +kernel
theorem dX5_ask_37 : decode cX5_ask 37 = .ok (.invokevirtual 138, 3) := by decide +kernel
theorem dX5_ask_40 : decode cX5_ask 40 = .ok (.bastore, 1) := by decide +kernel
theorem dX5_ask_41 : decode cX5_ask 41 = .ok (.iinc 4 1, 3) := by decide +kernel
theorem dX5_ask_44 : decode cX5_ask 44 = .ok (.goto (-25), 3) := by decide +kernel
theorem dX5_ask_47 : decode cX5_ask 47 = .ok (.iconst 0, 1) := by decide +kernel
theorem dX5_ask_48 : decode cX5_ask 48 = .ok (.istore 4, 2) := by decide +kernel
theorem dX5_ask_50 : decode cX5_ask 50 = .ok (.iload 4, 2) := by decide +kernel
theorem dX5_ask_52 : decode cX5_ask 52 = .ok (.bipush 7, 2) := by decide +kernel
theorem dX5_ask_54 : decode cX5_ask 54 = .ok (.if_icmp .ge 142, 3) := by decide +kernel
theorem dX5_ask_57 : decode cX5_ask 57 = .ok (.iload_n 1, 1) := by decide +kernel
theorem dX5_ask_58 : decode cX5_ask 58 = .ok (.iconst 1, 1) := by decide +kernel
theorem dX5_ask_59 : decode cX5_ask 59 = .ok (.if_icmp .le 137, 3) := by decide +kernel
theorem dX5_ask_62 : decode cX5_ask 62 = .ok (.iconst 1, 1) := by decide +kernel
theorem dX5_ask_63 : decode cX5_ask 63 = .ok (.istore 5, 2) := by decide +kernel
theorem dX5_ask_65 : decode cX5_ask 65 = .ok (.iload 5, 2) := by decide +kernel
theorem dX5_ask_67 : decode cX5_ask 67 = .ok (.bipush 27, 2) := by decide +kernel
theorem dX5_ask_69 : decode cX5_ask 69 = .ok (.if_icmp .ge 121, 3) := by decide +kernel
theorem dX5_ask_72 : decode cX5_ask 72 = .ok (.iconst 0, 1) := by decide +kernel
theorem dX5_ask_73 : decode cX5_ask 73 = .ok (.istore 6, 2) := by decide +kernel
theorem dX5_ask_75 : decode cX5_ask 75 = .ok (.iconst 0, 1) := by decide +kernel
theorem dX5_ask_76 : decode cX5_ask 76 = .ok (.istore 7, 2) := by decide +kernel
theorem dX5_ask_78 : decode cX5_ask 78 = .ok (.iload 7, 2) := by decide +kernel
theorem dX5_ask_80 : decode cX5_ask 80 = .ok (.aload_n 0, 1) := by decide +kernel
theorem dX5_ask_81 : decode cX5_ask 81 = .ok (.getfield 67, 3) := by decide +kernel
theorem dX5_ask_84 : decode cX5_ask 84 = .ok (.if_icmp .ge 46, 3) := by decide +kernel
theorem dX5_ask_87 : decode cX5_ask 87 = .ok (.iload 6, 2) := by decide +kernel
theorem dX5_ask_89 : decode cX5_ask 89 = .ok (.aload_n 0, 1) := by decide +kernel
theorem dX5_ask_90 : decode cX5_ask 90 = .ok (.getfield 39, 3) := by decide +kernel
theorem dX5_ask_93 : decode cX5_ask 93 = .ok (.iload 7, 2) := by decide +kernel
theorem dX5_ask_95 : decode cX5_ask 95 = .ok (.baload, 1) := by decide +kernel
theorem dX5_ask_96 : decode cX5_ask 96 = .ok (.ifCond .eq 24, 3) := by decide +kernel
theorem dX5_ask_99 : decode cX5_ask 99 = .ok (.aload_n 0, 1) := by decide +kernel
theorem dX5_ask_100 : decode cX5_ask 100 = .ok (.getfield 17, 3) := by decide +kernel
theorem dX5_ask_103 : decode cX5_ask 103 = .ok (.iload 7, 2) := by decide +kernel
theorem dX5_ask_105 : decode cX5_ask 105 = .ok (.laload, 1) := by decide +kernel
theorem dX5_ask_106 : decode cX5_ask 106 = .ok (.iload 4, 2) := by decide +kernel
theorem dX5_ask_108 : decode cX5_ask 108 = .ok (.invokestatic 52, 3) := by decide +kernel
theorem dX5_ask_111 : decode cX5_ask 111 = .ok (.iload 5, 2) := by decide +kernel
theorem dX5_ask_113 : decode cX5_ask 113 = .ok (.if_icmp .ne 7, 3) := by decide +kernel
theorem dX5_ask_116 : decode cX5_ask 116 = .ok (.iconst 1, 1) := by decide +kernel
theorem dX5_ask_117 : decode cX5_ask 117 = .ok (.goto 4, 3) := by decide +kernel
theorem dX5_ask_120 : decode cX5_ask 120 = .ok (.iconst 0, 1) := by decide +kernel
theorem dX5_ask_121 : decode cX5_ask 121 = .ok (.iadd, 1) := by decide +kernel
theorem dX5_ask_122 : decode cX5_ask 122 = .ok (.istore 6, 2) := by decide +kernel
theorem dX5_ask_124 : decode cX5_ask 124 = .ok (.iinc 7 1, 3) := by decide +kernel
theorem dX5_ask_127 : decode cX5_ask 127 = .ok (.goto (-49), 3) := by decide +kernel
theorem dX5_ask_130 : decode cX5_ask 130 = .ok (.iload 6, 2) := by decide +kernel
theorem dX5_ask_132 : decode cX5_ask 132 = .ok (.iload_n 1, 1) := by decide +kernel
theorem dX5_ask_133 : decode cX5_ask 133 = .ok (.iload 6, 2) := by decide +kernel
theorem dX5_ask_135 : decode cX5_ask 135 = .ok (.isub, 1) := by decide +kernel
theorem dX5_ask_136 : decode cX5_ask 136 = .ok (.if_icmp .le 8, 3) := by decide +kernel
theorem dX5_ask_139 : decode cX5_ask 139 = .ok (.iload 6, 2) := by decide +kernel
theorem dX5_ask_141 : decode cX5_ask 141 = .ok (.goto 7, 3) := by decide +kernel
theorem dX5_ask_144 : decode cX5_ask 144 = .ok (.iload_n 1, 1) := by decide +kernel
theorem dX5_ask_145 : decode cX5_ask 145 = .ok (.iload 6, 2) := by decide +kernel
theorem dX5_ask_147 : decode cX5_ask 147 = .ok (.isub, 1) := by decide +kernel
theorem dX5_ask_148 : decode cX5_ask 148 = .ok (.istore 7, 2) := by decide +kernel
theorem dX5_ask_150 : decode cX5_ask 150 = .ok (.iload 7, 2) := by decide +kernel
theorem dX5_ask_152 : decode cX5_ask 152 = .ok (.iload_n 3, 1) := by decide +kernel
theorem dX5_ask_153 : decode cX5_ask 153 = .ok (.if_icmp .ge 16, 3) := by decide +kernel
theorem dX5_ask_156 : decode cX5_ask 156 = .ok (.bipush 32, 2) := by decide +kernel
theorem dX5_ask_158 : decode cX5_ask 158 = .ok (.iload 4, 2) := by decide +kernel
theorem dX5_ask_160 : decode cX5_ask 160 = .ok (.imul, 1) := by decide +kernel
theorem dX5_ask_161 : decode cX5_ask 161 = .ok (.iload 5, 2) := by decide +kernel
theorem dX5_ask_163 : decode cX5_ask 163 = .ok (.iadd, 1) := by decide +kernel
theorem dX5_ask_164 : decode cX5_ask 164 = .ok (.iconst 1, 1) := by decide +kernel
theorem dX5_ask_165 : decode cX5_ask 165 = .ok (.isub, 1) := by decide +kernel
theorem dX5_ask_166 : decode cX5_ask 166 = .ok (.goto 4, 3) := by decide +kernel
theorem dX5_ask_169 : decode cX5_ask 169 = .ok (.iload_n 2, 1) := by decide +kernel
theorem dX5_ask_170 : decode cX5_ask 170 = .ok (.istore_n 2, 1) := by decide +kernel
theorem dX5_ask_171 : decode cX5_ask 171 = .ok (.iload 7, 2) := by decide +kernel
theorem dX5_ask_173 : decode cX5_ask 173 = .ok (.iload_n 3, 1) := by decide +kernel
theorem dX5_ask_174 : decode cX5_ask 174 = .ok (.if_icmp .ge 8, 3) := by decide +kernel
theorem dX5_ask_177 : decode cX5_ask 177 = .ok (.iload 7, 2) := by decide +kernel
theorem dX5_ask_179 : decode cX5_ask 179 = .ok (.goto 4, 3) := by decide +kernel
theorem dX5_ask_182 : decode cX5_ask 182 = .ok (.iload_n 3, 1) := by decide +kernel
theorem dX5_ask_183 : decode cX5_ask 183 = .ok (.istore_n 3, 1) := by decide +kernel
theorem dX5_ask_184 : decode cX5_ask 184 = .ok (.iinc 5 1, 3) := by decide +kernel
theorem dX5_ask_187 : decode cX5_ask 187 = .ok (.goto (-122), 3) := by decide +kernel
theorem dX5_ask_190 : decode cX5_ask 190 = .ok (.iinc 4 1, 3) := by decide +kernel
theorem dX5_ask_193 : decode cX5_ask 193 = .ok (.goto (-143), 3) := by decide +kernel
theorem dX5_ask_196 : decode cX5_ask 196 = .ok (.iload_n 2, 1) := by decide +kernel
theorem dX5_ask_197 : decode cX5_ask 197 = .ok (.ireturn, 1) := by decide +kernel
set_option maxRecDepth 20000 in
theorem ggX5_containers_X5_containerSize : GoodIn wsX5_containers wsX5_containerSize := goodIn_r _ [7, 8, 9, 6, 10, 11, 12, 13, 14, 15, 16, 17, 18, 19, 20, 21, 22, 23, 24, 25, 26, 27, 28, 29, 30, 31, 32, 33, 34, 35, 36, 37, 38, 39, 40, 41, 42] (by decide +kernel) (by decide +kernel)
set_option maxRecDepth 20000 in
theorem gX5_containers_X5_containerSize : GoodIn wsX5_containers (wsV RX5 88 RX5 yX5_containerSize wsX5_containerSize) := goodIn_app (goodIn_of _ (by decide +kernel)) ggX5_containers_X5_containerSize
set_option maxRecDepth 20000 in
theorem ggX5_containers_X5_head : GoodIn wsX5_containers wsX5_head := goodIn_r _ [20, 15, 16, 6, 17, 14] (by decide +kernel) (by decide +kernel)
set_option maxRecDepth 20000 in
theorem gX5_containers_X5_head : GoodIn wsX5_containers (va_wsS RX5 63 yX5_head wsX5_head) := goodIn_app (goodIn_of _ (by decide +kernel)) ggX5_containers_X5_head
theorem dX5_containers_0 : decode cX5_containers 0 = .ok (.iconst 0, 1) := by decide +kernel
theorem dX5_containers_1 : decode cX5_containers 1 = .ok (.istore_n 1, 1) := by decide +kernel
theorem dX5_containers_2 : decode cX5_containers 2 = .ok (.iconst 0, 1) := by decide +kernel
theorem dX5_containers_3 : decode cX5_containers 3 = .ok (.istore_n 2, 1) := by decide +kernel
theorem dX5_containers_4 : decode cX5_containers 4 = .ok (.iload_n 2, 1) := by decide +kernel
theorem dX5_containers_5 : decode cX5_containers 5 = .ok (.aload_n 0, 1) := by decide +kernel
theorem dX5_containers_6 : decode cX5_containers 6 = .ok (.getfield 67, 3) := by decide +kernel
theorem dX5_containers_9 : decode cX5_containers 9 = .ok (.if_icmp .ge 90, 3) := by decide +kernel
theorem dX5_containers_12 : decode cX5_containers 12 = .ok (.aload_n 0, 1) := by decide +kernel
theorem dX5_containers_13 : decode cX5_containers 13 = .ok (.aload_n 0, 1) := by decide +kernel
theorem dX5_containers_14 : decode cX5_containers 14 = .ok (.getfield 17, 3) := by decide +kernel
theorem dX5_containers_17 : decode cX5_containers 17 = .ok (.iload_n 2, 1) := by decide +kernel
theorem dX5_containers_18 : decode cX5_containers 18 = .ok (.laload, 1) := by decide +kernel
theorem dX5_containers_19 : decode cX5_containers 19 = .ok (.invokevirtual 88, 3) := by decide +kernel
theorem dX5_containers_22 : decode cX5_containers 22 = .ok (.istore_n 3, 1) := by decide +kernel
theorem dX5_containers_23 : decode cX5_containers 23 = .ok (.iload_n 3, 1) := by decide +kernel
theorem dX5_containers_24 : decode cX5_containers 24 = .ok (.ifCond .lt 53, 3) := by decide +kernel
theorem dX5_containers_27 : decode cX5_containers 27 = .ok (.iload_n 2, 1) := by decide +kernel
theorem dX5_containers_28 : decode cX5_containers 28 = .ok (.ifCond .eq 45, 3) := by decide +kernel
theorem dX5_containers_31 : decode cX5_containers 31 = .ok (.aload_n 0, 1) := by decide +kernel
theorem dX5_containers_32 : decode cX5_containers 32 = .ok (.aload_n 0, 1) := by decide +kernel
theorem dX5_containers_33 : decode cX5_containers 33 = .ok (.getfield 17, 3) := by decide +kernel
theorem dX5_containers_36 : decode cX5_containers 36 = .ok (.iload_n 2, 1) := by decide +kernel
theorem dX5_containers_37 : decode cX5_containers 37 = .ok (.iconst 1, 1) := by decide +kernel
theorem dX5_containers_38 : decode cX5_containers 38 = .ok (.isub, 1) := by decide +kernel
theorem dX5_containers_39 : decode cX5_containers 39 = .ok (.laload, 1) := by decide +kernel
theorem dX5_containers_40 : decode cX5_containers 40 = .ok (.invokevirtual 88, 3) := by decide +kernel
theorem dX5_containers_43 : decode cX5_containers 43 = .ok (.iload_n 3, 1) := by decide +kernel
theorem dX5_containers_44 : decode cX5_containers 44 = .ok (.if_icmp .ne 29, 3) := by decide +kernel
theorem dX5_containers_47 : decode cX5_containers 47 = .ok (.aload_n 0, 1) := by decide +kernel
theorem dX5_containers_48 : decode cX5_containers 48 = .ok (.getfield 17, 3) := by decide +kernel
theorem dX5_containers_51 : decode cX5_containers 51 = .ok (.iload_n 2, 1) := by decide +kernel
theorem dX5_containers_52 : decode cX5_containers 52 = .ok (.iconst 1, 1) := by decide +kernel
theorem dX5_containers_53 : decode cX5_containers 53 = .ok (.isub, 1) := by decide +kernel
theorem dX5_containers_54 : decode cX5_containers 54 = .ok (.laload, 1) := by decide +kernel
theorem dX5_containers_55 : decode cX5_containers 55 = .ok (.iload_n 3, 1) := by decide +kernel
theorem dX5_containers_56 : decode cX5_containers 56 = .ok (.invokestatic 63, 3) := by decide +kernel
theorem dX5_containers_59 : decode cX5_containers 59 = .ok (.aload_n 0, 1) := by decide +kernel
theorem dX5_containers_60 : decode cX5_containers 60 = .ok (.getfield 17, 3) := by decide +kernel
theorem dX5_containers_63 : decode cX5_containers 63 = .ok (.iload_n 2, 1) := by decide +kernel
theorem dX5_containers_64 : decode cX5_containers 64 = .ok (.laload, 1) := by decide +kernel
theorem dX5_containers_65 : decode cX5_containers 65 = .ok (.iload_n 3, 1) := by decide +kernel
theorem dX5_containers_66 : decode cX5_containers 66 = .ok (.invokestatic 63, 3) := by decide +kernel
theorem dX5_containers_69 : decode cX5_containers 69 = .ok (.lcmp, 1) := by decide +kernel
theorem dX5_containers_70 : decode cX5_containers 70 = .ok (.ifCond .eq 7, 3) := by decide +kernel
theorem dX5_containers_73 : decode cX5_containers 73 = .ok (.iconst 1, 1) := by decide +kernel
theorem dX5_containers_74 : decode cX5_containers 74 = .ok (.goto 4, 3) := by decide +kernel
theorem dX5_containers_77 : decode cX5_containers 77 = .ok (.iconst 0, 1) := by decide +kernel
theorem dX5_containers_78 : decode cX5_containers 78 = .ok (.istore 4, 2) := by decide +kernel
theorem dX5_containers_80 : decode cX5_containers 80 = .ok (.iload_n 1, 1) := by decide +kernel
theorem dX5_containers_81 : decode cX5_containers 81 = .ok (.iload 4, 2) := by decide +kernel
theorem dX5_containers_83 : decode cX5_containers 83 = .ok (.ifCond .eq 7, 3) := by decide +kernel
theorem dX5_containers_86 : decode cX5_containers 86 = .ok (.iconst 1, 1) := by decide +kernel
theorem dX5_containers_87 : decode cX5_containers 87 = .ok (.goto 4, 3) := by decide +kernel
theorem dX5_containers_90 : decode cX5_containers 90 = .ok (.iconst 0, 1) := by decide +kernel
theorem dX5_containers_91 : decode cX5_containers 91 = .ok (.iadd, 1) := by decide +kernel
theorem dX5_containers_92 : decode cX5_containers 92 = .ok (.istore_n 1, 1) := by decide +kernel
theorem dX5_containers_93 : decode cX5_containers 93 = .ok (.iinc 2 1, 3) := by decide +kernel
theorem dX5_containers_96 : decode cX5_containers 96 = .ok (.goto (-92), 3) := by decide +kernel
theorem dX5_containers_99 : decode cX5_containers 99 = .ok (.iload_n 1, 1) := by decide +kernel
theorem dX5_containers_100 : decode cX5_containers 100 = .ok (.ireturn, 1) := by decide +kernel
set_option maxRecDepth 20000 in
theorem ggX5_fullest_X5_containerSize : GoodIn wsX5_fullest wsX5_containerSize := goodIn_r _ [7, 8, 9, 6, 10, 11, 12, 13, 14, 15, 16, 17, 18, 19, 20, 21, 22, 23, 24, 25, 26, 34, 35, 36, 37, 38, 39, 40, 41, 42, 43, 44, 45, 46, 47, 48, 49] (by decide +kernel) (by decide +kernel)
set_option maxRecDepth 20000 in
theorem gX5_fullest_X5_containerSize : GoodIn wsX5_fullest (wsV RX5 88 RX5 yX5_containerSize wsX5_containerSize) := goodIn_app (goodIn_of _ (by decide +kernel)) ggX5_fullest_X5_containerSize
set_option maxRecDepth 20000 in
theorem ggX5_fullest_X5_head : GoodIn wsX5_fullest wsX5_head := goodIn_r _ [20, 15, 16, 6, 17, 14] (by decide +kernel) (by decide +kernel)
set_option maxRecDepth 20000 in
theorem gX5_fullest_X5_head : GoodIn wsX5_fullest (va_wsS RX5 63 yX5_head wsX5_head) := goodIn_app (goodIn_of _ (by decide +kernel)) ggX5_fullest_X5_head
set_option maxRecDepth 20000 in
theorem ggX5_fullest_X5_beginning : GoodIn wsX5_fullest wsX5_beginning := goodIn_r _ [30, 1, 2, 31, 32, 6, 33, 8, 9, 10, 11, 12, 13, 14, 15, 16, 17, 18, 19, 20, 34, 35, 36, 37, 38, 39, 40, 41, 42, 43, 44, 45, 46, 47, 48, 49] (by decide +kernel) (by decide +kernel)
set_option maxRecDepth 20000 in
theorem gX5_fullest_X5_beginning : GoodIn wsX5_fullest (wsV RX5 91 RX5 yX5_beginning wsX5_beginning) := goodIn_app (goodIn_of _ (by decide +kernel)) ggX5_fullest_X5_beginning
theorem dX5_fullest_0 : decode cX5_fullest 0 = .ok (.iconst 0, 1) := by decide +kernel
theorem dX5_fullest_1 : decode cX5_fullest 1 = .ok (.istore_n 1, 1) := by decide +kernel
theorem dX5_fullest_2 : decode cX5_fullest 2 = .ok (.iconst 0, 1) := by decide +kernel
theorem dX5_fullest_3 : decode cX5_fullest 3 = .ok (.istore_n 2, 1) := by decide +kernel
theorem dX5_fullest_4 : decode cX5_fullest 4 = .ok (.iload_n 2, 1) := by decide +kernel
theorem dX5_fullest_5 : decode cX5_fullest 5 = .ok (.aload_n 0, 1) := by decide +kernel
theorem dX5_fullest_6 : decode cX5_fullest 6 = .ok (.getfield 67, 3) := by decide +kernel
theorem dX5_fullest_9 : decode cX5_fullest 9 = .ok (.if_icmp .ge 57, 3) := by decide +kernel
theorem dX5_fullest_12 : decode cX5_fullest 12 = .ok (.aload_n 0, 1) := by decide +kernel
theorem dX5_fullest_13 : decode cX5_fullest 13 = .ok (.aload_n 0, 1) := by decide +kernel
theorem dX5_fullest_14 : decode cX5_fullest 14 = .ok (.getfield 17, 3) := by decide +kernel
theorem dX5_fullest_17 : decode cX5_fullest 17 = .ok (.iload_n 2, 1) := by decide +kernel
theorem dX5_fullest_18 : decode cX5_fullest 18 = .ok (.laload, 1) := by decide +kernel
theorem dX5_fullest_19 : decode cX5_fullest 19 = .ok (.invokevirtual 88, 3) := by decide +kernel
theorem dX5_fullest_22 : decode cX5_fullest 22 = .ok (.istore_n 3, 1) := by decide +kernel
theorem dX5_fullest_23 : decode cX5_fullest 23 = .ok (.iload_n 3, 1) := by decide +kernel
theorem dX5_fullest_24 : decode cX5_fullest 24 = .ok (.ifCond .ge 7, 3) := by decide +kernel
theorem dX5_fullest_27 : decode cX5_fullest 27 = .ok (.iconst 0, 1) := by decide +kernel
theorem dX5_fullest_28 : decode cX5_fullest 28 = .ok (.goto 17, 3) := by decide +kernel
theorem dX5_fullest_31 : decode cX5_fullest 31 = .ok (.aload_n 0, 1) := by decide +kernel
theorem dX5_fullest_32 : decode cX5_fullest 32 = .ok (.aload_n 0, 1) := by decide +kernel
theorem dX5_fullest_33 : decode cX5_fullest 33 = .ok (.getfield 17, 3) := by decide +kernel
theorem dX5_fullest_36 : decode cX5_fullest 36 = .ok (.iload_n 2, 1) := by decide +kernel
theorem dX5_fullest_37 : decode cX5_fullest 37 = .ok (.laload, 1) := by decide +kernel
theorem dX5_fullest_38 : decode cX5_fullest 38 = .ok (.iload_n 3, 1) := by decide +kernel
theorem dX5_fullest_39 : decode cX5_fullest 39 = .ok (.invokestatic 63, 3) := by decide +kernel
theorem dX5_fullest_42 : decode cX5_fullest 42 = .ok (.invokevirtual 91, 3) := by decide +kernel
theorem dX5_fullest_45 : decode cX5_fullest 45 = .ok (.istore 4, 2) := by decide +kernel
theorem dX5_fullest_47 : decode cX5_fullest 47 = .ok (.iload 4, 2) := by decide +kernel
theorem dX5_fullest_49 : decode cX5_fullest 49 = .ok (.iload_n 1, 1) := by decide +kernel
theorem dX5_fullest_50 : decode cX5_fullest 50 = .ok (.if_icmp .le 8, 3) := by decide +kernel
theorem dX5_fullest_53 : decode cX5_fullest 53 = .ok (.iload 4, 2) := by decide +kernel
theorem dX5_fullest_55 : decode cX5_fullest 55 = .ok (.goto 4, 3) := by decide +kernel
theorem dX5_fullest_58 : decode cX5_fullest 58 = .ok (.iload_n 1, 1) := by decide +kernel
theorem dX5_fullest_59 : decode cX5_fullest 59 = .ok (.istore_n 1, 1) := by decide +kernel
theorem dX5_fullest_60 : decode cX5_fullest 60 = .ok (.iinc 2 1, 3) := by decide +kernel
theorem dX5_fullest_63 : decode cX5_fullest 63 = .ok (.goto (-59), 3) := by decide +kernel
theorem dX5_fullest_66 : decode cX5_fullest 66 = .ok (.iload_n 1, 1) := by decide +kernel
theorem dX5_fullest_67 : decode cX5_fullest 67 = .ok (.ireturn, 1) := by decide +kernel
set_option maxRecDepth 20000 in
theorem ggX5_deepest_X5_depthOf : GoodIn wsX5_deepest wsX5_depthOf := goodIn_r _ [7, 8, 9, 6, 10, 11, 12, 13, 14, 15, 16, 17, 18, 19, 20, 21, 22, 23, 24, 25, 26, 27, 28, 29, 30, 31, 32, 33, 34, 35, 36, 37, 38, 39, 40, 41, 42] (by decide +kernel) (by decide +kernel)
set_option maxRecDepth 20000 in
theorem gX5_deepest_X5_depthOf : GoodIn wsX5_deepest (wsV RX5 117 RX5 yX5_depthOf wsX5_depthOf) := goodIn_app (goodIn_of _ (by decide +kernel)) ggX5_deepest_X5_depthOf
theorem dX5_deepest_0 : decode cX5_deepest 0 = .ok (.iconst 0, 1) := by decide +kernel
theorem dX5_deepest_1 : decode cX5_deepest 1 = .ok (.istore_n 1, 1) := by decide +kernel
theorem dX5_deepest_2 : decode cX5_deepest 2 = .ok (.iconst 0, 1) := by decide +kernel
theorem dX5_deepest_3 : decode cX5_deepest 3 = .ok (.istore_n 2, 1) := by decide +kernel
theorem dX5_deepest_4 : decode cX5_deepest 4 = .ok (.iload_n 2, 1) := by decide +kernel
theorem dX5_deepest_5 : decode cX5_deepest 5 = .ok (.aload_n 0, 1) := by decide +kernel
theorem dX5_deepest_6 : decode cX5_deepest 6 = .ok (.getfield 67, 3) := by decide +kernel
theorem dX5_deepest_9 : decode cX5_deepest 9 = .ok (.if_icmp .ge 38, 3) := by decide +kernel
theorem dX5_deepest_12 : decode cX5_deepest 12 = .ok (.aload_n 0, 1) := by decide +kernel
theorem dX5_deepest_13 : decode cX5_deepest 13 = .ok (.aload_n 0, 1) := by decide +kernel
theorem dX5_deepest_14 : decode cX5_deepest 14 = .ok (.getfield 17, 3) := by decide +kernel
theorem dX5_deepest_17 : decode cX5_deepest 17 = .ok (.iload_n 2, 1) := by decide +kernel
theorem dX5_deepest_18 : decode cX5_deepest 18 = .ok (.laload, 1) := by decide +kernel
theorem dX5_deepest_19 : decode cX5_deepest 19 = .ok (.invokevirtual 117, 3) := by decide +kernel
theorem dX5_deepest_22 : decode cX5_deepest 22 = .ok (.iload_n 1, 1) := by decide +kernel
theorem dX5_deepest_23 : decode cX5_deepest 23 = .ok (.if_icmp .le 16, 3) := by decide +kernel
theorem dX5_deepest_26 : decode cX5_deepest 26 = .ok (.aload_n 0, 1) := by decide +kernel
theorem dX5_deepest_27 : decode cX5_deepest 27 = .ok (.aload_n 0, 1) := by decide +kernel
theorem dX5_deepest_28 : decode cX5_deepest 28 = .ok (.getfield 17, 3) := by decide +kernel
theorem dX5_deepest_31 : decode cX5_deepest 31 = .ok (.iload_n 2, 1) := by decide +kernel
theorem dX5_deepest_32 : decode cX5_deepest 32 = .ok (.laload, 1) := by decide +kernel
theorem dX5_deepest_33 : decode cX5_deepest 33 = .ok (.invokevirtual 117, 3) := by decide +kernel
theorem dX5_deepest_36 : decode cX5_deepest 36 = .ok (.goto 4, 3) := by decide +kernel
theorem dX5_deepest_39 : decode cX5_deepest 39 = .ok (.iload_n 1, 1) := by decide +kernel
theorem dX5_deepest_40 : decode cX5_deepest 40 = .ok (.istore_n 1, 1) := by decide +kernel
theorem dX5_deepest_41 : decode cX5_deepest 41 = .ok (.iinc 2 1, 3) := by decide +kernel
theorem dX5_deepest_44 : decode cX5_deepest 44 = .ok (.goto (-40), 3) := by decide +kernel
theorem dX5_deepest_47 : decode cX5_deepest 47 = .ok (.iload_n 1, 1) := by decide +kernel
theorem dX5_deepest_48 : decode cX5_deepest 48 = .ok (.ireturn, 1) := by decide +kernel
set_option maxRecDepth 20000 in
theorem ggX5_letters_X5_containerSize : GoodIn wsX5_letters wsX5_containerSize := goodIn_r _ [7, 8, 9, 6, 10, 11, 12, 13, 14, 15, 16, 17, 18, 19, 20, 21, 22, 23, 24, 25, 26, 27, 28, 29, 30, 31, 32, 33, 34, 35, 36, 37, 38, 39, 40, 41, 42] (by decide +kernel) (by decide +kernel)
set_option maxRecDepth 20000 in
theorem gX5_letters_X5_containerSize : GoodIn wsX5_letters (wsV RX5 88 RX5 yX5_containerSize wsX5_containerSize) := goodIn_app (goodIn_of _ (by decide +kernel)) ggX5_letters_X5_containerSize
set_option maxRecDepth 20000 in
theorem ggX5_letters_X5_size : GoodIn wsX5_letters wsX5_size := goodIn_r _ [10, 11, 12, 6, 13, 14, 15, 16, 17] (by decide +kernel) (by decide +kernel)
set_option maxRecDepth 20000 in
theorem gX5_letters_X5_size : GoodIn wsX5_letters (va_wsS RX5 59 yX5_size wsX5_size) := goodIn_app (goodIn_of _ (by decide +kernel)) ggX5_letters_X5_size
theorem dX5_letters_0 : decode cX5_letters 0 = .ok (.iconst 0, 1) := by decide +kernel
theorem dX5_letters_1 : decode cX5_letters 1 = .ok (.istore_n 1, 1) := by decide +kernel
theorem dX5_letters_2 : decode cX5_letters 2 = .ok (.iconst 0, 1) := by decide +kernel
theorem dX5_letters_3 : decode cX5_letters 3 = .ok (.istore_n 2, 1) := by decide +kernel
theorem dX5_letters_4 : decode cX5_letters 4 = .ok (.iload_n 2, 1) := by decide +kernel
theorem dX5_letters_5 : decode cX5_letters 5 = .ok (.aload_n 0, 1) := by decide +kernel
theorem dX5_letters_6 : decode cX5_letters 6 = .ok (.getfield 67, 3) := by decide +kernel
theorem dX5_letters_9 : decode cX5_letters 9 = .ok (.if_icmp .ge 42, 3) := by decide +kernel
theorem dX5_letters_12 : decode cX5_letters 12 = .ok (.aload_n 0, 1) := by decide +kernel
theorem dX5_letters_13 : decode cX5_letters 13 = .ok (.aload_n 0, 1) := by decide +kernel
theorem dX5_letters_14 : decode cX5_letters 14 = .ok (.getfield 17, 3) := by decide +kernel
theorem dX5_letters_17 : decode cX5_letters 17 = .ok (.iload_n 2, 1) := by decide +kernel
theorem dX5_letters_18 : decode cX5_letters 18 = .ok (.laload, 1) := by decide +kernel
theorem dX5_letters_19 : decode cX5_letters 19 = .ok (.invokevirtual 88, 3) := by decide +kernel
theorem dX5_letters_22 : decode cX5_letters 22 = .ok (.istore_n 3, 1) := by decide +kernel
theorem dX5_letters_23 : decode cX5_letters 23 = .ok (.iload_n 1, 1) := by decide +kernel
theorem dX5_letters_24 : decode cX5_letters 24 = .ok (.iload_n 3, 1) := by decide +kernel
theorem dX5_letters_25 : decode cX5_letters 25 = .ok (.ifCond .ge 7, 3) := by decide +kernel
theorem dX5_letters_28 : decode cX5_letters 28 = .ok (.iconst 0, 1) := by decide +kernel
theorem dX5_letters_29 : decode cX5_letters 29 = .ok (.goto 14, 3) := by decide +kernel
theorem dX5_letters_32 : decode cX5_letters 32 = .ok (.aload_n 0, 1) := by decide +kernel
theorem dX5_letters_33 : decode cX5_letters 33 = .ok (.getfield 17, 3) := by decide +kernel
theorem dX5_letters_36 : decode cX5_letters 36 = .ok (.iload_n 2, 1) := by decide +kernel
theorem dX5_letters_37 : decode cX5_letters 37 = .ok (.laload, 1) := by decide +kernel
theorem dX5_letters_38 : decode cX5_letters 38 = .ok (.invokestatic 59, 3) := by decide +kernel
theorem dX5_letters_41 : decode cX5_letters 41 = .ok (.iload_n 3, 1) := by decide +kernel
theorem dX5_letters_42 : decode cX5_letters 42 = .ok (.isub, 1) := by decide +kernel
theorem dX5_letters_43 : decode cX5_letters 43 = .ok (.iadd, 1) := by decide +kernel
theorem dX5_letters_44 : decode cX5_letters 44 = .ok (.istore_n 1, 1) := by decide +kernel
theorem dX5_letters_45 : decode cX5_letters 45 = .ok (.iinc 2 1, 3) := by decide +kernel
theorem dX5_letters_48 : decode cX5_letters 48 = .ok (.goto (-44), 3) := by decide +kernel
theorem dX5_letters_51 : decode cX5_letters 51 = .ok (.iload_n 1, 1) := by decide +kernel
theorem dX5_letters_52 : decode cX5_letters 52 = .ok (.ireturn, 1) := by decide +kernel
set_option maxRecDepth 20000 in
theorem ggX5_sharedBy_X5_sign : GoodIn wsX5_sharedBy wsX5_sign := goodIn_r _ [5, 6, 7, 8, 4, 9] (by decide +kernel) (by decide +kernel)
set_option maxRecDepth 20000 in
theorem gX5_sharedBy_X5_sign : GoodIn wsX5_sharedBy (va_wsS RX5 52 yX5_sign wsX5_sign) := goodIn_app (goodIn_of _ (by decide +kernel)) ggX5_sharedBy_X5_sign
theorem dX5_sharedBy_0 : decode cX5_sharedBy 0 = .ok (.iconst 0, 1) := by decide +kernel
theorem dX5_sharedBy_1 : decode cX5_sharedBy 1 = .ok (.istore_n 2, 1) := by decide +kernel
theorem dX5_sharedBy_2 : decode cX5_sharedBy 2 = .ok (.iload_n 2, 1) := by decide +kernel
theorem dX5_sharedBy_3 : decode cX5_sharedBy 3 = .ok (.bipush 7, 2) := by decide +kernel
theorem dX5_sharedBy_5 : decode cX5_sharedBy 5 = .ok (.if_icmp .ge 47, 3) := by decide +kernel
theorem dX5_sharedBy_8 : decode cX5_sharedBy 8 = .ok (.aload_n 0, 1) := by decide +kernel
theorem dX5_sharedBy_9 : decode cX5_sharedBy 9 = .ok (.getfield 17, 3) := by decide +kernel
theorem dX5_sharedBy_12 : decode cX5_sharedBy 12 = .ok (.iload_n 1, 1) := by decide +kernel
theorem dX5_sharedBy_13 : decode cX5_sharedBy 13 = .ok (.laload, 1) := by decide +kernel
theorem dX5_sharedBy_14 : decode cX5_sharedBy 14 = .ok (.iload_n 2, 1) := by decide +kernel
theorem dX5_sharedBy_15 : decode cX5_sharedBy 15 = .ok (.invokestatic 52, 3) := by decide +kernel
theorem dX5_sharedBy_18 : decode cX5_sharedBy 18 = .ok (.ifCond .le 34, 3) := by decide +kernel
theorem dX5_sharedBy_21 : decode cX5_sharedBy 21 = .ok (.aload_n 0, 1) := by decide +kernel
theorem dX5_sharedBy_22 : decode cX5_sharedBy 22 = .ok (.getfield 17, 3) := by decide +kernel
theorem dX5_sharedBy_25 : decode cX5_sharedBy 25 = .ok (.iload_n 1, 1) := by decide +kernel
theorem dX5_sharedBy_26 : decode cX5_sharedBy 26 = .ok (.laload, 1) := by decide +kernel
theorem dX5_sharedBy_27 : decode cX5_sharedBy 27 = .ok (.iload_n 2, 1) := by decide +kernel
theorem dX5_sharedBy_28 : decode cX5_sharedBy 28 = .ok (.invokestatic 52, 3) := by decide +kernel
theorem dX5_sharedBy_31 : decode cX5_sharedBy 31 = .ok (.aload_n 0, 1) := by decide +kernel
theorem dX5_sharedBy_32 : decode cX5_sharedBy 32 = .ok (.getfield 17, 3) := by decide +kernel
theorem dX5_sharedBy_35 : decode cX5_sharedBy 35 = .ok (.iload_n 1, 1) := by decide +kernel
theorem dX5_sharedBy_36 : decode cX5_sharedBy 36 = .ok (.iconst 1, 1) := by decide +kernel
theorem dX5_sharedBy_37 : decode cX5_sharedBy 37 = .ok (.iadd, 1) := by decide +kernel
theorem dX5_sharedBy_38 : decode cX5_sharedBy 38 = .ok (.laload, 1) := by decide +kernel
theorem dX5_sharedBy_39 : decode cX5_sharedBy 39 = .ok (.iload_n 2, 1) := by decide +kernel
theorem dX5_sharedBy_40 : decode cX5_sharedBy 40 = .ok (.invokestatic 52, 3) := by decide +kernel
theorem dX5_sharedBy_43 : decode cX5_sharedBy 43 = .ok (.if_icmp .ne 9, 3) := by decide +kernel
theorem dX5_sharedBy_46 : decode cX5_sharedBy 46 = .ok (.iinc 2 1, 3) := by decide +kernel
theorem dX5_sharedBy_49 : decode cX5_sharedBy 49 = .ok (.goto (-47), 3) := by decide +kernel
theorem dX5_sharedBy_52 : decode cX5_sharedBy 52 = .ok (.iload_n 2, 1) := by decide +kernel
theorem dX5_sharedBy_53 : decode cX5_sharedBy 53 = .ok (.ireturn, 1) := by decide +kernel
set_option maxRecDepth 20000 in
theorem ggX5_shared_X5_sharedBy : GoodIn wsX5_shared wsX5_sharedBy := goodIn_r _ [6, 7, 8, 9, 5, 10, 11, 12, 13, 14, 15, 16, 17, 18, 19, 20, 21, 22, 23, 24, 25, 26, 27, 28, 29, 30] (by decide +kernel) (by decide +kernel)
set_option maxRecDepth 20000 in
theorem gX5_shared_X5_sharedBy : GoodIn wsX5_shared (wsV RX5 144 RX5 yX5_sharedBy wsX5_sharedBy) := goodIn_app (goodIn_of _ (by decide +kernel)) ggX5_shared_X5_sharedBy
theorem dX5_shared_0 : decode cX5_shared 0 = .ok (.bipush (-9), 2) := by decide +kernel
theorem dX5_shared_2 : decode cX5_shared 2 = .ok (.istore_n 2, 1) := by decide +kernel
theorem dX5_shared_3 : decode cX5_shared 3 = .ok (.iconst 0, 1) := by decide +kernel
theorem dX5_shared_4 : decode cX5_shared 4 = .ok (.istore_n 3, 1) := by decide +kernel
theorem dX5_shared_5 : decode cX5_shared 5 = .ok (.iconst 0, 1) := by decide +kernel
theorem dX5_shared_6 : decode cX5_shared 6 = .ok (.istore 4, 2) := by decide +kernel
theorem dX5_shared_8 : decode cX5_shared 8 = .ok (.iload 4, 2) := by decide +kernel
theorem dX5_shared_10 : decode cX5_shared 10 = .ok (.iconst 1, 1) := by decide +kernel
theorem dX5_shared_11 : decode cX5_shared 11 = .ok (.iadd, 1) := by decide +kernel
theorem dX5_shared_12 : decode cX5_shared 12 = .ok (.aload_n 0, 1) := by decide +kernel
theorem dX5_shared_13 : decode cX5_shared 13 = .ok (.getfield 67, 3) := by decide +kernel
theorem dX5_shared_16 : decode cX5_shared 16 = .ok (.if_icmp .ge 54, 3) := by decide +kernel
theorem dX5_shared_19 : decode cX5_shared 19 = .ok (.aload_n 0, 1) := by decide +kernel
theorem dX5_shared_20 : decode cX5_shared 20 = .ok (.iload 4, 2) := by decide +kernel
theorem dX5_shared_22 : decode cX5_shared 22 = .ok (.invokevirtual 144, 3) := by decide +kernel
theorem dX5_shared_25 : decode cX5_shared 25 = .ok (.istore 5, 2) := by decide +kernel
theorem dX5_shared_27 : decode cX5_shared 27 = .ok (.iload 5, 2) := by decide +kernel
theorem dX5_shared_29 : decode cX5_shared 29 = .ok (.iload_n 2, 1) := by decide +kernel
theorem dX5_shared_30 : decode cX5_shared 30 = .ok (.if_icmp .le 7, 3) := by decide +kernel
theorem dX5_shared_33 : decode cX5_shared 33 = .ok (.iconst 1, 1) := by decide +kernel
theorem dX5_shared_34 : decode cX5_shared 34 = .ok (.goto 16, 3) := by decide +kernel
theorem dX5_shared_37 : decode cX5_shared 37 = .ok (.iload 5, 2) := by decide +kernel
theorem dX5_shared_39 : decode cX5_shared 39 = .ok (.iload_n 2, 1) := by decide +kernel
theorem dX5_shared_40 : decode cX5_shared 40 = .ok (.if_icmp .ne 9, 3) := by decide +kernel
theorem dX5_shared_43 : decode cX5_shared 43 = .ok (.iload_n 3, 1) := by decide +kernel
theorem dX5_shared_44 : decode cX5_shared 44 = .ok (.iconst 1, 1) := by decide +kernel
theorem dX5_shared_45 : decode cX5_shared 45 = .ok (.iadd, 1) := by decide +kernel
theorem dX5_shared_46 : decode cX5_shared 46 = .ok (.goto 4, 3) := by decide +kernel
theorem dX5_shared_49 : decode cX5_shared 49 = .ok (.iload_n 3, 1) := by decide +kernel
theorem dX5_shared_50 : decode cX5_shared 50 = .ok (.istore_n 3, 1) := by decide +kernel
theorem dX5_shared_51 : decode cX5_shared 51 = .ok (.iload 5, 2) := by decide +kernel
theorem dX5_shared_53 : decode cX5_shared 53 = .ok (.iload_n 2, 1) := by decide +kernel
theorem dX5_shared_54 : decode cX5_shared 54 = .ok (.if_icmp .le 8, 3) := by decide +kernel
theorem dX5_shared_57 : decode cX5_shared 57 = .ok (.iload 5, 2) := by decide +kernel
theorem dX5_shared_59 : decode cX5_shared 59 = .ok (.goto 4, 3) := by decide +kernel
theorem dX5_shared_62 : decode cX5_shared 62 = .ok (.iload_n 2, 1) := by decide +kernel
theorem dX5_shared_63 : decode cX5_shared 63 = .ok (.istore_n 2, 1) := by decide +kernel
theorem dX5_shared_64 : decode cX5_shared 64 = .ok (.iinc 4 1, 3) := by decide +kernel
theorem dX5_shared_67 : decode cX5_shared 67 = .ok (.goto (-59), 3) := by decide +kernel
theorem dX5_shared_70 : decode cX5_shared 70 = .ok (.iload_n 1, 1) := by decide +kernel
theorem dX5_shared_71 : decode cX5_shared 71 = .ok (.ifCond .eq 7, 3) := by decide +kernel
theorem dX5_shared_74 : decode cX5_shared 74 = .ok (.iload_n 2, 1) := by decide +kernel
theorem dX5_shared_75 : decode cX5_shared 75 = .ok (.goto 4, 3) := by decide +kernel
theorem dX5_shared_78 : decode cX5_shared 78 = .ok (.iload_n 3, 1) := by decide +kernel
theorem dX5_shared_79 : decode cX5_shared 79 = .ok (.ireturn, 1) := by decide +kernel
set_option maxRecDepth 20000 in
theorem ggX5_count_X5_in : GoodIn wsX5_count wsX5_in := goodIn_r _ [10] (by decide +kernel) (by decide +kernel)
set_option maxRecDepth 20000 in
theorem gX5_count_X5_in : GoodIn wsX5_count (va_wsS RX5 81 yX5_in wsX5_in) := goodIn_app (goodIn_of _ (by decide +kernel)) ggX5_count_X5_in
set_option maxRecDepth 20000 in
theorem ggX5_count_X5_all : GoodIn wsX5_count wsX5_all := goodIn_r _ [14, 2, 15, 74, 75, 76, 77, 78, 79, 80, 81, 82, 83, 84, 85, 86, 87, 88, 89] (by decide +kernel) (by decide +kernel)
set_option maxRecDepth 20000 in
theorem gX5_count_X5_all : GoodIn wsX5_count (wsV RX5 120 RX5 yX5_all wsX5_all) := goodIn_app (goodIn_of _ (by decide +kernel)) ggX5_count_X5_all
set_option maxRecDepth 20000 in
theorem ggX5_count_X5_containers : GoodIn wsX5_count wsX5_containers := goodIn_r _ [19, 2, 20, 21, 22, 23, 9, 24, 25, 26, 27, 28, 29, 30, 31, 32, 33, 34, 35, 36, 37, 38, 39, 40, 41, 3, 42, 74, 75, 76, 77, 78, 79, 80, 81, 82, 83, 84, 85, 86, 87, 88, 89] (by decide +kernel) (by decide +kernel)
set_option maxRecDepth 20000 in
theorem gX5_count_X5_containers : GoodIn wsX5_count (wsV RX5 148 RX5 yX5_containers wsX5_containers) := goodIn_app (goodIn_of _ (by decide +kernel)) ggX5_count_X5_containers
set_option maxRecDepth 20000 in
theorem ggX5_count_X5_fullest : GoodIn wsX5_count wsX5_fullest := goodIn_r _ [46, 2, 20, 21, 22, 23, 9, 24, 25, 26, 27, 28, 29, 30, 31, 32, 33, 34, 35, 36, 37, 38, 39, 40, 41, 3, 42, 47, 48, 49, 50, 51, 52, 53, 74, 75, 76, 77, 78, 79, 80, 81, 82, 83, 84, 85, 86, 87, 88, 89] (by decide +kernel) (by decide +kernel)
set_option maxRecDepth 20000 in
theorem gX5_count_X5_fullest : GoodIn wsX5_count (wsV RX5 151 RX5 yX5_fullest wsX5_fullest) := goodIn_app (goodIn_of _ (by decide +kernel)) ggX5_count_X5_fullest
set_option maxRecDepth 20000 in
theorem ggX5_count_X5_deepest : GoodIn wsX5_count wsX5_deepest := goodIn_r _ [57, 2, 20, 58, 59, 60, 9, 61, 25, 26, 27, 28, 29, 30, 31, 32, 33, 34, 35, 36, 37, 38, 39, 40, 41, 3, 42, 74, 75, 76, 77, 78, 79, 80, 81, 82, 83, 84, 85, 86, 87, 88, 89] (by decide +kernel) (by decide +kernel)
set_option maxRecDepth 20000 in
theorem gX5_count_X5_deepest : GoodIn wsX5_count (wsV RX5 154 RX5 yX5_deepest wsX5_deepest) := goodIn_app (goodIn_of _ (by decide +kernel)) ggX5_count_X5_deepest
set_option maxRecDepth 20000 in
theorem ggX5_count_X5_letters : GoodIn wsX5_count wsX5_letters := goodIn_r _ [65, 2, 20, 21, 22, 23, 9, 24, 25, 26, 27, 28, 29, 30, 31, 32, 33, 34, 35, 36, 37, 38, 39, 40, 41, 3, 42, 74, 75, 76, 77, 78, 79, 80, 81, 82, 83, 84, 85, 86, 87, 88, 89] (by decide +kernel) (by decide +kernel)
set_option maxRecDepth 20000 in
theorem gX5_count_X5_letters : GoodIn wsX5_count (wsV RX5 157 RX5 yX5_letters wsX5_letters) := goodIn_app (goodIn_of _ (by decide +kernel)) ggX5_count_X5_letters
set_option maxRecDepth 20000 in
theorem ggX5_count_X5_shared : GoodIn wsX5_count wsX5_shared := goodIn_r _ [69, 2, 70, 71, 72, 9, 73, 20, 28, 29, 30, 31, 32, 33, 34, 74, 75, 76, 77, 78, 79, 80, 81, 82, 83, 84, 85, 86, 87, 88, 89] (by decide +kernel) (by decide +kernel)
set_option maxRecDepth 20000 in
theorem gX5_count_X5_shared : GoodIn wsX5_count (wsV RX5 160 RX5 yX5_shared wsX5_shared) := goodIn_app (goodIn_of _ (by decide +kernel)) ggX5_count_X5_shared
theorem dX5_count_0 : decode cX5_count 0 = .ok (.aload_n 0, 1) := by decide +kernel
theorem dX5_count_1 : decode cX5_count 1 = .ok (.iconst 0, 1) := by decide +kernel
theorem dX5_count_2 : decode cX5_count 2 = .ok (.putfield 43, 3) := by decide +kernel
theorem dX5_count_5 : decode cX5_count 5 = .ok (.iload_n 1, 1) := by decide +kernel
theorem dX5_count_6 : decode cX5_count 6 = .ok (.iconst 0, 1) := by decide +kernel
theorem dX5_count_7 : decode cX5_count 7 = .ok (.bipush 11, 2) := by decide +kernel
theorem dX5_count_9 : decode cX5_count 9 = .ok (.invokestatic 81, 3) := by decide +kernel
theorem dX5_count_12 : decode cX5_count 12 = .ok (.ifCond .ne 5, 3) := by decide +kernel
theorem dX5_count_15 : decode cX5_count 15 = .ok (.iconst (-1), 1) := by decide +kernel
theorem dX5_count_16 : decode cX5_count 16 = .ok (.ireturn, 1) := by decide +kernel
theorem dX5_count_17 : decode cX5_count 17 = .ok (.iload_n 1, 1) := by decide +kernel
theorem dX5_count_18 : decode cX5_count 18 = .ok (.iconst 4, 1) := by decide +kernel
theorem dX5_count_19 : decode cX5_count 19 = .ok (.if_icmp .ge 43, 3) := by decide +kernel
theorem dX5_count_22 : decode cX5_count 22 = .ok (.iload_n 1, 1) := by decide +kernel
theorem dX5_count_23 : decode cX5_count 23 = .ok (.ifCond .ne 10, 3) := by decide +kernel
theorem dX5_count_26 : decode cX5_count 26 = .ok (.aload_n 0, 1) := by decide +kernel
theorem dX5_count_27 : decode cX5_count 27 = .ok (.getfield 67, 3) := by decide +kernel
theorem dX5_count_30 : decode cX5_count 30 = .ok (.goto 31, 3) := by decide +kernel
theorem dX5_count_33 : decode cX5_count 33 = .ok (.iload_n 1, 1) := by decide +kernel
theorem dX5_count_34 : decode cX5_count 34 = .ok (.iconst 1, 1) := by decide +kernel
theorem dX5_count_35 : decode cX5_count 35 = .ok (.if_icmp .ne 10, 3) := by decide +kernel
theorem dX5_count_38 : decode cX5_count 38 = .ok (.aload_n 0, 1) := by decide +kernel
theorem dX5_count_39 : decode cX5_count 39 = .ok (.invokevirtual 120, 3) := by decide +kernel
theorem dX5_count_42 : decode cX5_count 42 = .ok (.goto 19, 3) := by decide +kernel
theorem dX5_count_45 : decode cX5_count 45 = .ok (.iload_n 1, 1) := by decide +kernel
theorem dX5_count_46 : decode cX5_count 46 = .ok (.iconst 2, 1) := by decide +kernel
theorem dX5_count_47 : decode cX5_count 47 = .ok (.if_icmp .ne 10, 3) := by decide +kernel
theorem dX5_count_50 : decode cX5_count 50 = .ok (.aload_n 0, 1) := by decide +kernel
theorem dX5_count_51 : decode cX5_count 51 = .ok (.getfield 74, 3) := by decide +kernel
theorem dX5_count_54 : decode cX5_count 54 = .ok (.goto 7, 3) := by decide +kernel
theorem dX5_count_57 : decode cX5_count 57 = .ok (.aload_n 0, 1) := by decide +kernel
theorem dX5_count_58 : decode cX5_count 58 = .ok (.invokevirtual 148, 3) := by decide +kernel
theorem dX5_count_61 : decode cX5_count 61 = .ok (.ireturn, 1) := by decide +kernel
theorem dX5_count_62 : decode cX5_count 62 = .ok (.iload_n 1, 1) := by decide +kernel
theorem dX5_count_63 : decode cX5_count 63 = .ok (.bipush 7, 2) := by decide +kernel
theorem dX5_count_65 : decode cX5_count 65 = .ok (.if_icmp .ge 32, 3) := by decide +kernel
theorem dX5_count_68 : decode cX5_count 68 = .ok (.iload_n 1, 1) := by decide +kernel
theorem dX5_count_69 : decode cX5_count 69 = .ok (.iconst 4, 1) := by decide +kernel
theorem dX5_count_70 : decode cX5_count 70 = .ok (.if_icmp .ne 10, 3) := by decide +kernel
theorem dX5_count_73 : decode cX5_count 73 = .ok (.aload_n 0, 1) := by decide +kernel
theorem dX5_count_74 : decode cX5_count 74 = .ok (.invokevirtual 151, 3) := by decide +kernel
theorem dX5_count_77 : decode cX5_count 77 = .ok (.goto 19, 3) := by decide +kernel
theorem dX5_count_80 : decode cX5_count 80 = .ok (.iload_n 1, 1) := by decide +kernel
theorem dX5_count_81 : decode cX5_count 81 = .ok (.iconst 5, 1) := by decide +kernel
theorem dX5_count_82 : decode cX5_count 82 = .ok (.if_icmp .ne 10, 3) := by decide +kernel
theorem dX5_count_85 : decode cX5_count 85 = .ok (.aload_n 0, 1) := by decide +kernel
theorem dX5_count_86 : decode cX5_count 86 = .ok (.invokevirtual 154, 3) := by decide +kernel
theorem dX5_count_89 : decode cX5_count 89 = .ok (.goto 7, 3) := by decide +kernel
theorem dX5_count_92 : decode cX5_count 92 = .ok (.aload_n 0, 1) := by decide +kernel
theorem dX5_count_93 : decode cX5_count 93 = .ok (.invokevirtual 157, 3) := by decide +kernel
theorem dX5_count_96 : decode cX5_count 96 = .ok (.ireturn, 1) := by decide +kernel
theorem dX5_count_97 : decode cX5_count 97 = .ok (.iload_n 1, 1) := by decide +kernel
theorem dX5_count_98 : decode cX5_count 98 = .ok (.bipush 9, 2) := by decide +kernel
theorem dX5_count_100 : decode cX5_count 100 = .ok (.if_icmp .ge 19, 3) := by decide +kernel
theorem dX5_count_103 : decode cX5_count 103 = .ok (.aload_n 0, 1) := by decide +kernel
theorem dX5_count_104 : decode cX5_count 104 = .ok (.iload_n 1, 1) := by decide +kernel
theorem dX5_count_105 : decode cX5_count 105 = .ok (.bipush 7, 2) := by decide +kernel
theorem dX5_count_107 : decode cX5_count 107 = .ok (.if_icmp .ne 7, 3) := by decide +kernel
theorem dX5_count_110 : decode cX5_count 110 = .ok (.iconst 1, 1) := by decide +kernel
theorem dX5_count_111 : decode cX5_count 111 = .ok (.goto 4, 3) := by decide +kernel
theorem dX5_count_114 : decode cX5_count 114 = .ok (.iconst 0, 1) := by decide +kernel
theorem dX5_count_115 : decode cX5_count 115 = .ok (.invokevirtual 160, 3) := by decide +kernel
theorem dX5_count_118 : decode cX5_count 118 = .ok (.ireturn, 1) := by decide +kernel
theorem dX5_count_119 : decode cX5_count 119 = .ok (.iload_n 1, 1) := by decide +kernel
theorem dX5_count_120 : decode cX5_count 120 = .ok (.bipush 9, 2) := by decide +kernel
theorem dX5_count_122 : decode cX5_count 122 = .ok (.if_icmp .ne 10, 3) := by decide +kernel
theorem dX5_count_125 : decode cX5_count 125 = .ok (.aload_n 0, 1) := by decide +kernel
theorem dX5_count_126 : decode cX5_count 126 = .ok (.getfield 13, 3) := by decide +kernel
theorem dX5_count_129 : decode cX5_count 129 = .ok (.goto 20, 3) := by decide +kernel
theorem dX5_count_132 : decode cX5_count 132 = .ok (.iload_n 1, 1) := by decide +kernel
theorem dX5_count_133 : decode cX5_count 133 = .ok (.bipush 10, 2) := by decide +kernel
theorem dX5_count_135 : decode cX5_count 135 = .ok (.if_icmp .ne 10, 3) := by decide +kernel
theorem dX5_count_138 : decode cX5_count 138 = .ok (.aload_n 0, 1) := by decide +kernel
theorem dX5_count_139 : decode cX5_count 139 = .ok (.getfield 56, 3) := by decide +kernel
theorem dX5_count_142 : decode cX5_count 142 = .ok (.goto 7, 3) := by decide +kernel
theorem dX5_count_145 : decode cX5_count 145 = .ok (.aload_n 0, 1) := by decide +kernel
theorem dX5_count_146 : decode cX5_count 146 = .ok (.getfield 85, 3) := by decide +kernel
theorem dX5_count_149 : decode cX5_count 149 = .ok (.ireturn, 1) := by decide +kernel
set_option maxRecDepth 20000 in
theorem ggX5_digest_X5_size : GoodIn wsX5_digest wsX5_size := goodIn_r _ [11, 12, 13, 10, 14, 15, 16, 17, 18] (by decide +kernel) (by decide +kernel)
set_option maxRecDepth 20000 in
theorem gX5_digest_X5_size : GoodIn wsX5_digest (va_wsS RX5 59 yX5_size wsX5_size) := goodIn_app (goodIn_of _ (by decide +kernel)) ggX5_digest_X5_size
set_option maxRecDepth 20000 in
theorem ggX5_digest_X5_sign : GoodIn wsX5_digest wsX5_sign := goodIn_r _ [14, 15, 16, 17, 10, 18] (by decide +kernel) (by decide +kernel)
set_option maxRecDepth 20000 in
theorem gX5_digest_X5_sign : GoodIn wsX5_digest (va_wsS RX5 52 yX5_sign wsX5_sign) := goodIn_app (goodIn_of _ (by decide +kernel)) ggX5_digest_X5_sign
set_option maxRecDepth 20000 in
theorem ggX5_digest_X5_depthOf : GoodIn wsX5_digest wsX5_depthOf := goodIn_r _ [22, 8, 9, 10, 11, 12, 13, 14, 15, 16, 17, 18, 23, 24, 25, 26, 27, 28, 29, 30, 31, 32, 33, 34, 35, 36, 37, 38, 39, 40, 41, 42, 43, 44, 45, 46, 47] (by decide +kernel) (by decide +kernel)
set_option maxRecDepth 20000 in
theorem gX5_digest_X5_depthOf : GoodIn wsX5_digest (wsV RX5 117 RX5 yX5_depthOf wsX5_depthOf) := goodIn_app (goodIn_of _ (by decide +kernel)) ggX5_digest_X5_depthOf
theorem dX5_digest_0 : decode cX5_digest 0 = .ok (.aload_n 0, 1) := by decide +kernel
theorem dX5_digest_1 : decode cX5_digest 1 = .ok (.iconst 0, 1) := by decide +kernel
theorem dX5_digest_2 : decode cX5_digest 2 = .ok (.putfield 43, 3) := by decide +kernel
theorem dX5_digest_5 : decode cX5_digest 5 = .ok (.ldc2_w 164, 3) := by decide +kernel
theorem dX5_digest_8 : decode cX5_digest 8 = .ok (.lstore_n 1, 1) := by decide +kernel
theorem dX5_digest_9 : decode cX5_digest 9 = .ok (.iconst 0, 1) := by decide +kernel
theorem dX5_digest_10 : decode cX5_digest 10 = .ok (.istore_n 3, 1) := by decide +kernel
theorem dX5_digest_11 : decode cX5_digest 11 = .ok (.iload_n 3, 1) := by decide +kernel
theorem dX5_digest_12 : decode cX5_digest 12 = .ok (.aload_n 0, 1) := by decide +kernel
theorem dX5_digest_13 : decode cX5_digest 13 = .ok (.getfield 67, 3) := by decide +kernel
theorem dX5_digest_16 : decode cX5_digest 16 = .ok (.if_icmp .ge 89, 3) := by decide +kernel
theorem dX5_digest_19 : decode cX5_digest 19 = .ok (.iconst 0, 1) := by decide +kernel
theorem dX5_digest_20 : decode cX5_digest 20 = .ok (.istore 4, 2) := by decide +kernel
theorem dX5_digest_22 : decode cX5_digest 22 = .ok (.iload 4, 2) := by decide +kernel
theorem dX5_digest_24 : decode cX5_digest 24 = .ok (.aload_n 0, 1) := by decide +kernel
theorem dX5_digest_25 : decode cX5_digest 25 = .ok (.getfield 17, 3) := by decide +kernel
theorem dX5_digest_28 : decode cX5_digest 28 = .ok (.iload_n 3, 1) := by decide +kernel
theorem dX5_digest_29 : decode cX5_digest 29 = .ok (.laload, 1) := by decide +kernel
theorem dX5_digest_30 : decode cX5_digest 30 = .ok (.invokestatic 59, 3) := by decide +kernel
theorem dX5_digest_33 : decode cX5_digest 33 = .ok (.if_icmp .ge 34, 3) := by decide +kernel
theorem dX5_digest_36 : decode cX5_digest 36 = .ok (.ldc2_w 166, 3) := by decide +kernel
theorem dX5_digest_39 : decode cX5_digest 39 = .ok (.lload_n 1, 1) := by decide +kernel
theorem dX5_digest_40 : decode cX5_digest 40 = .ok (.lmul, 1) := by decide +kernel
theorem dX5_digest_41 : decode cX5_digest 41 = .ok (.aload_n 0, 1) := by decide +kernel
theorem dX5_digest_42 : decode cX5_digest 42 = .ok (.getfield 17, 3) := by decide +kernel
theorem dX5_digest_45 : decode cX5_digest 45 = .ok (.iload_n 3, 1) := by decide +kernel
theorem dX5_digest_46 : decode cX5_digest 46 = .ok (.laload, 1) := by decide +kernel
theorem dX5_digest_47 : decode cX5_digest 47 = .ok (.iload 4, 2) := by decide +kernel
theorem dX5_digest_49 : decode cX5_digest 49 = .ok (.invokestatic 52, 3) := by decide +kernel
theorem dX5_digest_52 : decode cX5_digest 52 = .ok (.i2l, 1) := by decide +kernel
theorem dX5_digest_53 : decode cX5_digest 53 = .ok (.ladd, 1) := by decide +kernel
theorem dX5_digest_54 : decode cX5_digest 54 = .ok (.ldc2_w 168, 3) := by decide +kernel
theorem dX5_digest_57 : decode cX5_digest 57 = .ok (.ladd, 1) := by decide +kernel
theorem dX5_digest_58 : decode cX5_digest 58 = .ok (.lconst 1, 1) := by decide +kernel
theorem dX5_digest_59 : decode cX5_digest 59 = .ok (.lsub, 1) := by decide +kernel
theorem dX5_digest_60 : decode cX5_digest 60 = .ok (.lstore_n 1, 1) := by decide +kernel
theorem dX5_digest_61 : decode cX5_digest 61 = .ok (.iinc 4 1, 3) := by decide +kernel
theorem dX5_digest_64 : decode cX5_digest 64 = .ok (.goto (-42), 3) := by decide +kernel
theorem dX5_digest_67 : decode cX5_digest 67 = .ok (.ldc2_w 166, 3) := by decide +kernel
theorem dX5_digest_70 : decode cX5_digest 70 = .ok (.lload_n 1, 1) := by decide +kernel
theorem dX5_digest_71 : decode cX5_digest 71 = .ok (.lmul, 1) := by decide +kernel
theorem dX5_digest_72 : decode cX5_digest 72 = .ok (.aload_n 0, 1) := by decide +kernel
theorem dX5_digest_73 : decode cX5_digest 73 = .ok (.getfield 21, 3) := by decide +kernel
theorem dX5_digest_76 : decode cX5_digest 76 = .ok (.iload_n 3, 1) := by decide +kernel
theorem dX5_digest_77 : decode cX5_digest 77 = .ok (.iaload, 1) := by decide +kernel
theorem dX5_digest_78 : decode cX5_digest 78 = .ok (.i2l, 1) := by decide +kernel
theorem dX5_digest_79 : decode cX5_digest 79 = .ok (.ladd, 1) := by decide +kernel
theorem dX5_digest_80 : decode cX5_digest 80 = .ok (.lstore_n 1, 1) := by decide +kernel
theorem dX5_digest_81 : decode cX5_digest 81 = .ok (.ldc2_w 166, 3) := by decide +kernel
theorem dX5_digest_84 : decode cX5_digest 84 = .ok (.lload_n 1, 1) := by decide +kernel
theorem dX5_digest_85 : decode cX5_digest 85 = .ok (.lmul, 1) := by decide +kernel
theorem dX5_digest_86 : decode cX5_digest 86 = .ok (.aload_n 0, 1) := by decide +kernel
theorem dX5_digest_87 : decode cX5_digest 87 = .ok (.aload_n 0, 1) := by decide +kernel
theorem dX5_digest_88 : decode cX5_digest 88 = .ok (.getfield 17, 3) := by decide +kernel
theorem dX5_digest_91 : decode cX5_digest 91 = .ok (.iload_n 3, 1) := by decide +kernel
theorem dX5_digest_92 : decode cX5_digest 92 = .ok (.laload, 1) := by decide +kernel
theorem dX5_digest_93 : decode cX5_digest 93 = .ok (.invokevirtual 117, 3) := by decide +kernel
theorem dX5_digest_96 : decode cX5_digest 96 = .ok (.i2l, 1) := by decide +kernel
theorem dX5_digest_97 : decode cX5_digest 97 = .ok (.ladd, 1) := by decide +kernel
theorem dX5_digest_98 : decode cX5_digest 98 = .ok (.lstore_n 1, 1) := by decide +kernel
theorem dX5_digest_99 : decode cX5_digest 99 = .ok (.iinc 3 1, 3) := by decide +kernel
theorem dX5_digest_102 : decode cX5_digest 102 = .ok (.goto (-91), 3) := by decide +kernel
theorem dX5_digest_105 : decode cX5_digest 105 = .ok (.lload_n 1, 1) := by decide +kernel
theorem dX5_digest_106 : decode cX5_digest 106 = .ok (.lreturn, 1) := by decide +kernel
