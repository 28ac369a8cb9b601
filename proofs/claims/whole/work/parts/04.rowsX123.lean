theorem dX1_init_0 : decode cX1_init 0 = .ok (.aload_n 0, 1) := by decide +kernel
theorem dX1_init_1 : decode cX1_init 1 = .ok (.invokespecial 3, 3) := by decide +kernel
theorem dX1_init_4 : decode cX1_init 4 = .ok (.aload_n 0, 1) := by decide +kernel
theorem dX1_init_5 : decode cX1_init 5 = .ok (.bipush 12, 2) := by decide +kernel
theorem dX1_init_7 : decode cX1_init 7 = .ok (.newarray .long, 2) := by decide +kernel
theorem dX1_init_9 : decode cX1_init 9 = .ok (.putfield 9, 3) := by decide +kernel
theorem dX1_init_12 : decode cX1_init 12 = .ok (.aload_n 0, 1) := by decide +kernel
theorem dX1_init_13 : decode cX1_init 13 = .ok (.bipush 12, 2) := by decide +kernel
theorem dX1_init_15 : decode cX1_init 15 = .ok (.newarray .int, 2) := by decide +kernel
theorem dX1_init_17 : decode cX1_init 17 = .ok (.putfield 15, 3) := by decide +kernel
theorem dX1_init_20 : decode cX1_init 20 = .ok (.aload_n 0, 1) := by decide +kernel
theorem dX1_init_21 : decode cX1_init 21 = .ok (.bipush 12, 2) := by decide +kernel
theorem dX1_init_23 : decode cX1_init 23 = .ok (.newarray .int, 2) := by decide +kernel
theorem dX1_init_25 : decode cX1_init 25 = .ok (.putfield 19, 3) := by decide +kernel
theorem dX1_init_28 : decode cX1_init 28 = .ok (.aload_n 0, 1) := by decide +kernel
theorem dX1_init_29 : decode cX1_init 29 = .ok (.iconst 0, 1) := by decide +kernel
theorem dX1_init_30 : decode cX1_init 30 = .ok (.putfield 22, 3) := by decide +kernel
theorem dX1_init_33 : decode cX1_init 33 = .ok (.return_, 1) := by decide +kernel
theorem dX1_size_0 : decode cX1_size 0 = .ok (.aload_n 0, 1) := by decide +kernel
theorem dX1_size_1 : decode cX1_size 1 = .ok (.getfield 22, 3) := by decide +kernel
theorem dX1_size_4 : decode cX1_size 4 = .ok (.ireturn, 1) := by decide +kernel
theorem dX1_empty_0 : decode cX1_empty 0 = .ok (.aload_n 0, 1) := by decide +kernel
theorem dX1_empty_1 : decode cX1_empty 1 = .ok (.iconst 0, 1) := by decide +kernel
theorem dX1_empty_2 : decode cX1_empty 2 = .ok (.putfield 22, 3) := by decide +kernel
theorem dX1_empty_5 : decode cX1_empty 5 = .ok (.return_, 1) := by decide +kernel
set_option maxRecDepth 20000 in
theorem ggX1_push_X1_loseOldest : GoodIn wsX1_push wsX1_loseOldest := goodIn_r _ [9, 1, 2, 10, 11, 12, 13, 3, 4, 14, 15, 16, 17] (by decide +kernel) (by decide +kernel)
set_option maxRecDepth 20000 in
theorem gX1_push_X1_loseOldest : GoodIn wsX1_push (wsV RX1 26 RX1 yX1_loseOldest wsX1_loseOldest) := goodIn_app (goodIn_of _ (by decide +kernel)) ggX1_push_X1_loseOldest
theorem dX1_push_0 : decode cX1_push 0 = .ok (.aload_n 0, 1) := by decide +kernel
theorem dX1_push_1 : decode cX1_push 1 = .ok (.getfield 22, 3) := by decide +kernel
theorem dX1_push_4 : decode cX1_push 4 = .ok (.bipush 12, 2) := by decide +kernel
theorem dX1_push_6 : decode cX1_push 6 = .ok (.if_icmp .lt 7, 3) := by decide +kernel
theorem dX1_push_9 : decode cX1_push 9 = .ok (.aload_n 0, 1) := by decide +kernel
theorem dX1_push_10 : decode cX1_push 10 = .ok (.invokevirtual 26, 3) := by decide +kernel
theorem dX1_push_13 : decode cX1_push 13 = .ok (.aload_n 0, 1) := by decide +kernel
theorem dX1_push_14 : decode cX1_push 14 = .ok (.getfield 9, 3) := by decide +kernel
theorem dX1_push_17 : decode cX1_push 17 = .ok (.aload_n 0, 1) := by decide +kernel
theorem dX1_push_18 : decode cX1_push 18 = .ok (.getfield 22, 3) := by decide +kernel
theorem dX1_push_21 : decode cX1_push 21 = .ok (.lload_n 1, 1) := by decide +kernel
theorem dX1_push_22 : decode cX1_push 22 = .ok (.lastore, 1) := by decide +kernel
theorem dX1_push_23 : decode cX1_push 23 = .ok (.aload_n 0, 1) := by decide +kernel
theorem dX1_push_24 : decode cX1_push 24 = .ok (.getfield 15, 3) := by decide +kernel
theorem dX1_push_27 : decode cX1_push 27 = .ok (.aload_n 0, 1) := by decide +kernel
theorem dX1_push_28 : decode cX1_push 28 = .ok (.getfield 22, 3) := by decide +kernel
theorem dX1_push_31 : decode cX1_push 31 = .ok (.iload_n 3, 1) := by decide +kernel
theorem dX1_push_32 : decode cX1_push 32 = .ok (.iastore, 1) := by decide +kernel
theorem dX1_push_33 : decode cX1_push 33 = .ok (.aload_n 0, 1) := by decide +kernel
theorem dX1_push_34 : decode cX1_push 34 = .ok (.getfield 19, 3) := by decide +kernel
theorem dX1_push_37 : decode cX1_push 37 = .ok (.aload_n 0, 1) := by decide +kernel
theorem dX1_push_38 : decode cX1_push 38 = .ok (.getfield 22, 3) := by decide +kernel
theorem dX1_push_41 : decode cX1_push 41 = .ok (.iload 4, 2) := by decide +kernel
theorem dX1_push_43 : decode cX1_push 43 = .ok (.iastore, 1) := by decide +kernel
theorem dX1_push_44 : decode cX1_push 44 = .ok (.aload_n 0, 1) := by decide +kernel
theorem dX1_push_45 : decode cX1_push 45 = .ok (.dup, 1) := by decide +kernel
theorem dX1_push_46 : decode cX1_push 46 = .ok (.getfield 22, 3) := by decide +kernel
theorem dX1_push_49 : decode cX1_push 49 = .ok (.iconst 1, 1) := by decide +kernel
theorem dX1_push_50 : decode cX1_push 50 = .ok (.iadd, 1) := by decide +kernel
theorem dX1_push_51 : decode cX1_push 51 = .ok (.putfield 22, 3) := by decide +kernel
theorem dX1_push_54 : decode cX1_push 54 = .ok (.return_, 1) := by decide +kernel
theorem dX1_loseOldest_0 : decode cX1_loseOldest 0 = .ok (.aload_n 0, 1) := by decide +kernel
theorem dX1_loseOldest_1 : decode cX1_loseOldest 1 = .ok (.bipush 11, 2) := by decide +kernel
theorem dX1_loseOldest_3 : decode cX1_loseOldest 3 = .ok (.putfield 22, 3) := by decide +kernel
theorem dX1_loseOldest_6 : decode cX1_loseOldest 6 = .ok (.aload_n 0, 1) := by decide +kernel
theorem dX1_loseOldest_7 : decode cX1_loseOldest 7 = .ok (.getfield 9, 3) := by decide +kernel
theorem dX1_loseOldest_10 : decode cX1_loseOldest 10 = .ok (.iconst 1, 1) := by decide +kernel
theorem dX1_loseOldest_11 : decode cX1_loseOldest 11 = .ok (.aload_n 0, 1) := by decide +kernel
theorem dX1_loseOldest_12 : decode cX1_loseOldest 12 = .ok (.getfield 9, 3) := by decide +kernel
theorem dX1_loseOldest_15 : decode cX1_loseOldest 15 = .ok (.iconst 0, 1) := by decide +kernel
theorem dX1_loseOldest_16 : decode cX1_loseOldest 16 = .ok (.aload_n 0, 1) := by decide +kernel
theorem dX1_loseOldest_17 : decode cX1_loseOldest 17 = .ok (.getfield 22, 3) := by decide +kernel
theorem dX1_loseOldest_20 : decode cX1_loseOldest 20 = .ok (.invokestatic 29, 3) := by decide +kernel
theorem dX1_loseOldest_23 : decode cX1_loseOldest 23 = .ok (.aload_n 0, 1) := by decide +kernel
theorem dX1_loseOldest_24 : decode cX1_loseOldest 24 = .ok (.getfield 15, 3) := by decide +kernel
theorem dX1_loseOldest_27 : decode cX1_loseOldest 27 = .ok (.iconst 1, 1) := by decide +kernel
theorem dX1_loseOldest_28 : decode cX1_loseOldest 28 = .ok (.aload_n 0, 1) := by decide +kernel
theorem dX1_loseOldest_29 : decode cX1_loseOldest 29 = .ok (.getfield 15, 3) := by decide +kernel
theorem dX1_loseOldest_32 : decode cX1_loseOldest 32 = .ok (.iconst 0, 1) := by decide +kernel
theorem dX1_loseOldest_33 : decode cX1_loseOldest 33 = .ok (.aload_n 0, 1) := by decide +kernel
theorem dX1_loseOldest_34 : decode cX1_loseOldest 34 = .ok (.getfield 22, 3) := by decide +kernel
theorem dX1_loseOldest_37 : decode cX1_loseOldest 37 = .ok (.invokestatic 29, 3) := by decide +kernel
theorem dX1_loseOldest_40 : decode cX1_loseOldest 40 = .ok (.aload_n 0, 1) := by decide +kernel
theorem dX1_loseOldest_41 : decode cX1_loseOldest 41 = .ok (.getfield 19, 3) := by decide +kernel
theorem dX1_loseOldest_44 : decode cX1_loseOldest 44 = .ok (.iconst 1, 1) := by decide +kernel
theorem dX1_loseOldest_45 : decode cX1_loseOldest 45 = .ok (.aload_n 0, 1) := by decide +kernel
theorem dX1_loseOldest_46 : decode cX1_loseOldest 46 = .ok (.getfield 19, 3) := by decide +kernel
theorem dX1_loseOldest_49 : decode cX1_loseOldest 49 = .ok (.iconst 0, 1) := by decide +kernel
theorem dX1_loseOldest_50 : decode cX1_loseOldest 50 = .ok (.aload_n 0, 1) := by decide +kernel
theorem dX1_loseOldest_51 : decode cX1_loseOldest 51 = .ok (.getfield 22, 3) := by decide +kernel
theorem dX1_loseOldest_54 : decode cX1_loseOldest 54 = .ok (.invokestatic 29, 3) := by decide +kernel
theorem dX1_loseOldest_57 : decode cX1_loseOldest 57 = .ok (.return_, 1) := by decide +kernel
theorem dX1_hasLast_0 : decode cX1_hasLast 0 = .ok (.aload_n 0, 1) := by decide +kernel
theorem dX1_hasLast_1 : decode cX1_hasLast 1 = .ok (.getfield 22, 3) := by decide +kernel
theorem dX1_hasLast_4 : decode cX1_hasLast 4 = .ok (.ifCond .le 16, 3) := by decide +kernel
theorem dX1_hasLast_7 : decode cX1_hasLast 7 = .ok (.aload_n 0, 1) := by decide +kernel
theorem dX1_hasLast_8 : decode cX1_hasLast 8 = .ok (.getfield 22, 3) := by decide +kernel
theorem dX1_hasLast_11 : decode cX1_hasLast 11 = .ok (.bipush 12, 2) := by decide +kernel
theorem dX1_hasLast_13 : decode cX1_hasLast 13 = .ok (.if_icmp .gt 7, 3) := by decide +kernel
theorem dX1_hasLast_16 : decode cX1_hasLast 16 = .ok (.iconst 1, 1) := by decide +kernel
theorem dX1_hasLast_17 : decode cX1_hasLast 17 = .ok (.goto 4, 3) := by decide +kernel
theorem dX1_hasLast_20 : decode cX1_hasLast 20 = .ok (.iconst 0, 1) := by decide +kernel
theorem dX1_hasLast_21 : decode cX1_hasLast 21 = .ok (.ireturn, 1) := by decide +kernel
set_option maxRecDepth 20000 in
theorem ggX1_lastWord_X1_hasLast : GoodIn wsX1_lastWord wsX1_hasLast := goodIn_r _ [7, 2, 8, 9, 10, 11] (by decide +kernel) (by decide +kernel)
set_option maxRecDepth 20000 in
theorem gX1_lastWord_X1_hasLast : GoodIn wsX1_lastWord (wsV RX1 35 RX1 yX1_hasLast wsX1_hasLast) := goodIn_app (goodIn_of _ (by decide +kernel)) ggX1_lastWord_X1_hasLast
theorem dX1_lastWord_0 : decode cX1_lastWord 0 = .ok (.aload_n 0, 1) := by decide +kernel
theorem dX1_lastWord_1 : decode cX1_lastWord 1 = .ok (.invokevirtual 35, 3) := by decide +kernel
theorem dX1_lastWord_4 : decode cX1_lastWord 4 = .ok (.ifCond .eq 17, 3) := by decide +kernel
theorem dX1_lastWord_7 : decode cX1_lastWord 7 = .ok (.aload_n 0, 1) := by decide +kernel
theorem dX1_lastWord_8 : decode cX1_lastWord 8 = .ok (.getfield 9, 3) := by decide +kernel
theorem dX1_lastWord_11 : decode cX1_lastWord 11 = .ok (.aload_n 0, 1) := by decide +kernel
theorem dX1_lastWord_12 : decode cX1_lastWord 12 = .ok (.getfield 22, 3) := by decide +kernel
theorem dX1_lastWord_15 : decode cX1_lastWord 15 = .ok (.iconst 1, 1) := by decide +kernel
theorem dX1_lastWord_16 : decode cX1_lastWord 16 = .ok (.isub, 1) := by decide +kernel
theorem dX1_lastWord_17 : decode cX1_lastWord 17 = .ok (.laload, 1) := by decide +kernel
theorem dX1_lastWord_18 : decode cX1_lastWord 18 = .ok (.goto 4, 3) := by decide +kernel
theorem dX1_lastWord_21 : decode cX1_lastWord 21 = .ok (.lconst 0, 1) := by decide +kernel
theorem dX1_lastWord_22 : decode cX1_lastWord 22 = .ok (.lreturn, 1) := by decide +kernel
set_option maxRecDepth 20000 in
theorem ggX1_lastOften_X1_hasLast : GoodIn wsX1_lastOften wsX1_hasLast := goodIn_r _ [7, 2, 8, 9, 10, 11] (by decide +kernel) (by decide +kernel)
set_option maxRecDepth 20000 in
theorem gX1_lastOften_X1_hasLast : GoodIn wsX1_lastOften (wsV RX1 35 RX1 yX1_hasLast wsX1_hasLast) := goodIn_app (goodIn_of _ (by decide +kernel)) ggX1_lastOften_X1_hasLast
theorem dX1_lastOften_0 : decode cX1_lastOften 0 = .ok (.aload_n 0, 1) := by decide +kernel
theorem dX1_lastOften_1 : decode cX1_lastOften 1 = .ok (.invokevirtual 35, 3) := by decide +kernel
theorem dX1_lastOften_4 : decode cX1_lastOften 4 = .ok (.ifCond .eq 17, 3) := by decide +kernel
theorem dX1_lastOften_7 : decode cX1_lastOften 7 = .ok (.aload_n 0, 1) := by decide +kernel
theorem dX1_lastOften_8 : decode cX1_lastOften 8 = .ok (.getfield 15, 3) := by decide +kernel
theorem dX1_lastOften_11 : decode cX1_lastOften 11 = .ok (.aload_n 0, 1) := by decide +kernel
theorem dX1_lastOften_12 : decode cX1_lastOften 12 = .ok (.getfield 22, 3) := by decide +kernel
theorem dX1_lastOften_15 : decode cX1_lastOften 15 = .ok (.iconst 1, 1) := by decide +kernel
theorem dX1_lastOften_16 : decode cX1_lastOften 16 = .ok (.isub, 1) := by decide +kernel
theorem dX1_lastOften_17 : decode cX1_lastOften 17 = .ok (.iaload, 1) := by decide +kernel
theorem dX1_lastOften_18 : decode cX1_lastOften 18 = .ok (.goto 4, 3) := by decide +kernel
theorem dX1_lastOften_21 : decode cX1_lastOften 21 = .ok (.iconst 0, 1) := by decide +kernel
theorem dX1_lastOften_22 : decode cX1_lastOften 22 = .ok (.ireturn, 1) := by decide +kernel
set_option maxRecDepth 20000 in
theorem ggX1_lastDepth_X1_hasLast : GoodIn wsX1_lastDepth wsX1_hasLast := goodIn_r _ [7, 2, 8, 9, 10, 11] (by decide +kernel) (by decide +kernel)
set_option maxRecDepth 20000 in
theorem gX1_lastDepth_X1_hasLast : GoodIn wsX1_lastDepth (wsV RX1 35 RX1 yX1_hasLast wsX1_hasLast) := goodIn_app (goodIn_of _ (by decide +kernel)) ggX1_lastDepth_X1_hasLast
theorem dX1_lastDepth_0 : decode cX1_lastDepth 0 = .ok (.aload_n 0, 1) := by decide +kernel
theorem dX1_lastDepth_1 : decode cX1_lastDepth 1 = .ok (.invokevirtual 35, 3) := by decide +kernel
theorem dX1_lastDepth_4 : decode cX1_lastDepth 4 = .ok (.ifCond .eq 17, 3) := by decide +kernel
theorem dX1_lastDepth_7 : decode cX1_lastDepth 7 = .ok (.aload_n 0, 1) := by decide +kernel
theorem dX1_lastDepth_8 : decode cX1_lastDepth 8 = .ok (.getfield 19, 3) := by decide +kernel
theorem dX1_lastDepth_11 : decode cX1_lastDepth 11 = .ok (.aload_n 0, 1) := by decide +kernel
theorem dX1_lastDepth_12 : decode cX1_lastDepth 12 = .ok (.getfield 22, 3) := by decide +kernel
theorem dX1_lastDepth_15 : decode cX1_lastDepth 15 = .ok (.iconst 1, 1) := by decide +kernel
theorem dX1_lastDepth_16 : decode cX1_lastDepth 16 = .ok (.isub, 1) := by decide +kernel
theorem dX1_lastDepth_17 : decode cX1_lastDepth 17 = .ok (.iaload, 1) := by decide +kernel
theorem dX1_lastDepth_18 : decode cX1_lastDepth 18 = .ok (.goto 4, 3) := by decide +kernel
theorem dX1_lastDepth_21 : decode cX1_lastDepth 21 = .ok (.iconst 0, 1) := by decide +kernel
theorem dX1_lastDepth_22 : decode cX1_lastDepth 22 = .ok (.ireturn, 1) := by decide +kernel
set_option maxRecDepth 20000 in
theorem ggX1_drop_X1_hasLast : GoodIn wsX1_drop wsX1_hasLast := goodIn_r _ [6, 1, 7, 8, 9, 10] (by decide +kernel) (by decide +kernel)
set_option maxRecDepth 20000 in
theorem gX1_drop_X1_hasLast : GoodIn wsX1_drop (wsV RX1 35 RX1 yX1_hasLast wsX1_hasLast) := goodIn_app (goodIn_of _ (by decide +kernel)) ggX1_drop_X1_hasLast
theorem dX1_drop_0 : decode cX1_drop 0 = .ok (.aload_n 0, 1) := by decide +kernel
theorem dX1_drop_1 : decode cX1_drop 1 = .ok (.invokevirtual 35, 3) := by decide +kernel
theorem dX1_drop_4 : decode cX1_drop 4 = .ok (.ifCond .eq 13, 3) := by decide +kernel
theorem dX1_drop_7 : decode cX1_drop 7 = .ok (.aload_n 0, 1) := by decide +kernel
theorem dX1_drop_8 : decode cX1_drop 8 = .ok (.dup, 1) := by decide +kernel
theorem dX1_drop_9 : decode cX1_drop 9 = .ok (.getfield 22, 3) := by decide +kernel
theorem dX1_drop_12 : decode cX1_drop 12 = .ok (.iconst 1, 1) := by decide +kernel
theorem dX1_drop_13 : decode cX1_drop 13 = .ok (.isub, 1) := by decide +kernel
theorem dX1_drop_14 : decode cX1_drop 14 = .ok (.putfield 22, 3) := by decide +kernel
theorem dX1_drop_17 : decode cX1_drop 17 = .ok (.return_, 1) := by decide +kernel
theorem dX2_init_0 : decode cX2_init 0 = .ok (.aload_n 0, 1) := by decide +kernel
theorem dX2_init_1 : decode cX2_init 1 = .ok (.invokespecial 3, 3) := by decide +kernel
theorem dX2_init_4 : decode cX2_init 4 = .ok (.aload_n 0, 1) := by decide +kernel
theorem dX2_init_5 : decode cX2_init 5 = .ok (.bipush 8, 2) := by decide +kernel
theorem dX2_init_7 : decode cX2_init 7 = .ok (.newarray .int, 2) := by decide +kernel
theorem dX2_init_9 : decode cX2_init 9 = .ok (.putfield 9, 3) := by decide +kernel
theorem dX2_init_12 : decode cX2_init 12 = .ok (.aload_n 0, 1) := by decide +kernel
theorem dX2_init_13 : decode cX2_init 13 = .ok (.bipush 8, 2) := by decide +kernel
theorem dX2_init_15 : decode cX2_init 15 = .ok (.newarray .int, 2) := by decide +kernel
theorem dX2_init_17 : decode cX2_init 17 = .ok (.putfield 15, 3) := by decide +kernel
theorem dX2_init_20 : decode cX2_init 20 = .ok (.aload_n 0, 1) := by decide +kernel
theorem dX2_init_21 : decode cX2_init 21 = .ok (.bipush 8, 2) := by decide +kernel
theorem dX2_init_23 : decode cX2_init 23 = .ok (.newarray .boolean, 2) := by decide +kernel
theorem dX2_init_25 : decode cX2_init 25 = .ok (.putfield 18, 3) := by decide +kernel
theorem dX2_init_28 : decode cX2_init 28 = .ok (.aload_n 0, 1) := by decide +kernel
theorem dX2_init_29 : decode cX2_init 29 = .ok (.iconst 0, 1) := by decide +kernel
theorem dX2_init_30 : decode cX2_init 30 = .ok (.putfield 22, 3) := by decide +kernel
theorem dX2_init_33 : decode cX2_init 33 = .ok (.return_, 1) := by decide +kernel
theorem dX2_size_0 : decode cX2_size 0 = .ok (.aload_n 0, 1) := by decide +kernel
theorem dX2_size_1 : decode cX2_size 1 = .ok (.getfield 22, 3) := by decide +kernel
theorem dX2_size_4 : decode cX2_size 4 = .ok (.ireturn, 1) := by decide +kernel
theorem dX2_empty_0 : decode cX2_empty 0 = .ok (.aload_n 0, 1) := by decide +kernel
theorem dX2_empty_1 : decode cX2_empty 1 = .ok (.iconst 0, 1) := by decide +kernel
theorem dX2_empty_2 : decode cX2_empty 2 = .ok (.putfield 22, 3) := by decide +kernel
theorem dX2_empty_5 : decode cX2_empty 5 = .ok (.return_, 1) := by decide +kernel
theorem dX2_push_0 : decode cX2_push 0 = .ok (.aload_n 0, 1) := by decide +kernel
theorem dX2_push_1 : decode cX2_push 1 = .ok (.getfield 22, 3) := by decide +kernel
theorem dX2_push_4 : decode cX2_push 4 = .ok (.bipush 8, 2) := by decide +kernel
theorem dX2_push_6 : decode cX2_push 6 = .ok (.if_icmp .lt 4, 3) := by decide +kernel
theorem dX2_push_9 : decode cX2_push 9 = .ok (.return_, 1) := by decide +kernel
theorem dX2_push_10 : decode cX2_push 10 = .ok (.aload_n 0, 1) := by decide +kernel
theorem dX2_push_11 : decode cX2_push 11 = .ok (.getfield 9, 3) := by decide +kernel
theorem dX2_push_14 : decode cX2_push 14 = .ok (.aload_n 0, 1) := by decide +kernel
theorem dX2_push_15 : decode cX2_push 15 = .ok (.getfield 22, 3) := by decide +kernel
theorem dX2_push_18 : decode cX2_push 18 = .ok (.iload_n 1, 1) := by decide +kernel
theorem dX2_push_19 : decode cX2_push 19 = .ok (.iastore, 1) := by decide +kernel
theorem dX2_push_20 : decode cX2_push 20 = .ok (.aload_n 0, 1) := by decide +kernel
theorem dX2_push_21 : decode cX2_push 21 = .ok (.getfield 15, 3) := by decide +kernel
theorem dX2_push_24 : decode cX2_push 24 = .ok (.aload_n 0, 1) := by decide +kernel
theorem dX2_push_25 : decode cX2_push 25 = .ok (.getfield 22, 3) := by decide +kernel
theorem dX2_push_28 : decode cX2_push 28 = .ok (.iload_n 2, 1) := by decide +kernel
theorem dX2_push_29 : decode cX2_push 29 = .ok (.iastore, 1) := by decide +kernel
theorem dX2_push_30 : decode cX2_push 30 = .ok (.aload_n 0, 1) := by decide +kernel
theorem dX2_push_31 : decode cX2_push 31 = .ok (.getfield 18, 3) := by decide +kernel
theorem dX2_push_34 : decode cX2_push 34 = .ok (.aload_n 0, 1) := by decide +kernel
theorem dX2_push_35 : decode cX2_push 35 = .ok (.getfield 22, 3) := by decide +kernel
theorem dX2_push_38 : decode cX2_push 38 = .ok (.iload_n 3, 1) := by decide +kernel
theorem dX2_push_39 : decode cX2_push 39 = .ok (.bastore, 1) := by decide +kernel
theorem dX2_push_40 : decode cX2_push 40 = .ok (.aload_n 0, 1) := by decide +kernel
theorem dX2_push_41 : decode cX2_push 41 = .ok (.dup, 1) := by decide +kernel
theorem dX2_push_42 : decode cX2_push 42 = .ok (.getfield 22, 3) := by decide +kernel
theorem dX2_push_45 : decode cX2_push 45 = .ok (.iconst 1, 1) := by decide +kernel
theorem dX2_push_46 : decode cX2_push 46 = .ok (.iadd, 1) := by decide +kernel
theorem dX2_push_47 : decode cX2_push 47 = .ok (.putfield 22, 3) := by decide +kernel
theorem dX2_push_50 : decode cX2_push 50 = .ok (.return_, 1) := by decide +kernel
set_option maxRecDepth 20000 in
theorem ggX2_allow_X3_letterAt : GoodIn wsX2_allow wsX3_letterAt := goodIn_r _ [8, 9, 10, 7, 11] (by decide +kernel) (by decide +kernel)
set_option maxRecDepth 20000 in
theorem gX2_allow_X3_letterAt : GoodIn wsX2_allow (va_wsS RX2 26 yX3_letterAt wsX3_letterAt) := goodIn_app (goodIn_of _ (by decide +kernel)) ggX2_allow_X3_letterAt
theorem dX2_allow_0 : decode cX2_allow 0 = .ok (.iconst 0, 1) := by decide +kernel
theorem dX2_allow_1 : decode cX2_allow 1 = .ok (.istore_n 3, 1) := by decide +kernel
theorem dX2_allow_2 : decode cX2_allow 2 = .ok (.iload_n 3, 1) := by decide +kernel
theorem dX2_allow_3 : decode cX2_allow 3 = .ok (.aload_n 0, 1) := by decide +kernel
theorem dX2_allow_4 : decode cX2_allow 4 = .ok (.getfield 22, 3) := by decide +kernel
theorem dX2_allow_7 : decode cX2_allow 7 = .ok (.if_icmp .ge 54, 3) := by decide +kernel
theorem dX2_allow_10 : decode cX2_allow 10 = .ok (.iload_n 3, 1) := by decide +kernel
theorem dX2_allow_11 : decode cX2_allow 11 = .ok (.bipush 8, 2) := by decide +kernel
theorem dX2_allow_13 : decode cX2_allow 13 = .ok (.if_icmp .ge 48, 3) := by decide +kernel
theorem dX2_allow_16 : decode cX2_allow 16 = .ok (.lload_n 1, 1) := by decide +kernel
theorem dX2_allow_17 : decode cX2_allow 17 = .ok (.aload_n 0, 1) := by decide +kernel
theorem dX2_allow_18 : decode cX2_allow 18 = .ok (.getfield 9, 3) := by decide +kernel
theorem dX2_allow_21 : decode cX2_allow 21 = .ok (.iload_n 3, 1) := by decide +kernel
theorem dX2_allow_22 : decode cX2_allow 22 = .ok (.iaload, 1) := by decide +kernel
theorem dX2_allow_23 : decode cX2_allow 23 = .ok (.invokestatic 26, 3) := by decide +kernel
theorem dX2_allow_26 : decode cX2_allow 26 = .ok (.aload_n 0, 1) := by decide +kernel
theorem dX2_allow_27 : decode cX2_allow 27 = .ok (.getfield 15, 3) := by decide +kernel
theorem dX2_allow_30 : decode cX2_allow 30 = .ok (.iload_n 3, 1) := by decide +kernel
theorem dX2_allow_31 : decode cX2_allow 31 = .ok (.iaload, 1) := by decide +kernel
theorem dX2_allow_32 : decode cX2_allow 32 = .ok (.if_icmp .ne 7, 3) := by decide +kernel
theorem dX2_allow_35 : decode cX2_allow 35 = .ok (.iconst 1, 1) := by decide +kernel
theorem dX2_allow_36 : decode cX2_allow 36 = .ok (.goto 4, 3) := by decide +kernel
theorem dX2_allow_39 : decode cX2_allow 39 = .ok (.iconst 0, 1) := by decide +kernel
theorem dX2_allow_40 : decode cX2_allow 40 = .ok (.istore 4, 2) := by decide +kernel
theorem dX2_allow_42 : decode cX2_allow 42 = .ok (.iload 4, 2) := by decide +kernel
theorem dX2_allow_44 : decode cX2_allow 44 = .ok (.aload_n 0, 1) := by decide +kernel
theorem dX2_allow_45 : decode cX2_allow 45 = .ok (.getfield 18, 3) := by decide +kernel
theorem dX2_allow_48 : decode cX2_allow 48 = .ok (.iload_n 3, 1) := by decide +kernel
theorem dX2_allow_49 : decode cX2_allow 49 = .ok (.baload, 1) := by decide +kernel
theorem dX2_allow_50 : decode cX2_allow 50 = .ok (.if_icmp .eq 5, 3) := by decide +kernel
theorem dX2_allow_53 : decode cX2_allow 53 = .ok (.iconst 0, 1) := by decide +kernel
theorem dX2_allow_54 : decode cX2_allow 54 = .ok (.ireturn, 1) := by decide +kernel
theorem dX2_allow_55 : decode cX2_allow 55 = .ok (.iinc 3 1, 3) := by decide +kernel
theorem dX2_allow_58 : decode cX2_allow 58 = .ok (.goto (-56), 3) := by decide +kernel
theorem dX2_allow_61 : decode cX2_allow 61 = .ok (.iconst 1, 1) := by decide +kernel
theorem dX2_allow_62 : decode cX2_allow 62 = .ok (.ireturn, 1) := by decide +kernel
theorem dX3_isLetter_0 : decode cX3_isLetter 0 = .ok (.iload_n 0, 1) := by decide +kernel
theorem dX3_isLetter_1 : decode cX3_isLetter 1 = .ok (.bipush 97, 2) := by decide +kernel
theorem dX3_isLetter_3 : decode cX3_isLetter 3 = .ok (.if_icmp .lt 13, 3) := by decide +kernel
theorem dX3_isLetter_6 : decode cX3_isLetter 6 = .ok (.iload_n 0, 1) := by decide +kernel
theorem dX3_isLetter_7 : decode cX3_isLetter 7 = .ok (.bipush 122, 2) := by decide +kernel
theorem dX3_isLetter_9 : decode cX3_isLetter 9 = .ok (.if_icmp .gt 7, 3) := by decide +kernel
theorem dX3_isLetter_12 : decode cX3_isLetter 12 = .ok (.iconst 1, 1) := by decide +kernel
theorem dX3_isLetter_13 : decode cX3_isLetter 13 = .ok (.goto 4, 3) := by decide +kernel
theorem dX3_isLetter_16 : decode cX3_isLetter 16 = .ok (.iconst 0, 1) := by decide +kernel
theorem dX3_isLetter_17 : decode cX3_isLetter 17 = .ok (.ireturn, 1) := by decide +kernel
set_option maxRecDepth 20000 in
theorem ggX3_letterAt_X3_shiftOf : GoodIn wsX3_letterAt wsX3_shiftOf := goodIn_r _ [4] (by decide +kernel) (by decide +kernel)
set_option maxRecDepth 20000 in
theorem gX3_letterAt_X3_shiftOf : GoodIn wsX3_letterAt (va_wsS RX3 9 yX3_shiftOf wsX3_shiftOf) := goodIn_app (goodIn_of _ (by decide +kernel)) ggX3_letterAt_X3_shiftOf
theorem dX3_letterAt_0 : decode cX3_letterAt 0 = .ok (.iload_n 2, 1) := by decide +kernel
theorem dX3_letterAt_1 : decode cX3_letterAt 1 = .ok (.ifCond .lt 9, 3) := by decide +kernel
theorem dX3_letterAt_4 : decode cX3_letterAt 4 = .ok (.iload_n 2, 1) := by decide +kernel
theorem dX3_letterAt_5 : decode cX3_letterAt 5 = .ok (.bipush 7, 2) := by decide +kernel
theorem dX3_letterAt_7 : decode cX3_letterAt 7 = .ok (.if_icmp .lt 5, 3) := by decide +kernel
theorem dX3_letterAt_10 : decode cX3_letterAt 10 = .ok (.iconst 0, 1) := by decide +kernel
theorem dX3_letterAt_11 : decode cX3_letterAt 11 = .ok (.ireturn, 1) := by decide +kernel
theorem dX3_letterAt_12 : decode cX3_letterAt 12 = .ok (.lload_n 0, 1) := by decide +kernel
theorem dX3_letterAt_13 : decode cX3_letterAt 13 = .ok (.iload_n 2, 1) := by decide +kernel
theorem dX3_letterAt_14 : decode cX3_letterAt 14 = .ok (.invokestatic 9, 3) := by decide +kernel
theorem dX3_letterAt_17 : decode cX3_letterAt 17 = .ok (.lushr, 1) := by decide +kernel
theorem dX3_letterAt_18 : decode cX3_letterAt 18 = .ok (.l2i, 1) := by decide +kernel
theorem dX3_letterAt_19 : decode cX3_letterAt 19 = .ok (.sipush 255, 3) := by decide +kernel
theorem dX3_letterAt_22 : decode cX3_letterAt 22 = .ok (.iand, 1) := by decide +kernel
theorem dX3_letterAt_23 : decode cX3_letterAt 23 = .ok (.ireturn, 1) := by decide +kernel
set_option maxRecDepth 20000 in
theorem ggX3_lengthOf_X3_letterAt : GoodIn wsX3_lengthOf wsX3_letterAt := goodIn_r _ [4, 5, 6, 3, 7] (by decide +kernel) (by decide +kernel)
set_option maxRecDepth 20000 in
theorem gX3_lengthOf_X3_letterAt : GoodIn wsX3_lengthOf (va_wsS RX3 15 yX3_letterAt wsX3_letterAt) := goodIn_app (goodIn_of _ (by decide +kernel)) ggX3_lengthOf_X3_letterAt
theorem dX3_lengthOf_0 : decode cX3_lengthOf 0 = .ok (.iconst 0, 1) := by decide +kernel
theorem dX3_lengthOf_1 : decode cX3_lengthOf 1 = .ok (.istore_n 2, 1) := by decide +kernel
theorem dX3_lengthOf_2 : decode cX3_lengthOf 2 = .ok (.iload_n 2, 1) := by decide +kernel
theorem dX3_lengthOf_3 : decode cX3_lengthOf 3 = .ok (.bipush 7, 2) := by decide +kernel
theorem dX3_lengthOf_5 : decode cX3_lengthOf 5 = .ok (.if_icmp .ge 17, 3) := by decide +kernel
theorem dX3_lengthOf_8 : decode cX3_lengthOf 8 = .ok (.lload_n 0, 1) := by decide +kernel
theorem dX3_lengthOf_9 : decode cX3_lengthOf 9 = .ok (.iload_n 2, 1) := by decide +kernel
theorem dX3_lengthOf_10 : decode cX3_lengthOf 10 = .ok (.invokestatic 15, 3) := by decide +kernel
theorem dX3_lengthOf_13 : decode cX3_lengthOf 13 = .ok (.ifCond .eq 9, 3) := by decide +kernel
theorem dX3_lengthOf_16 : decode cX3_lengthOf 16 = .ok (.iinc 2 1, 3) := by decide +kernel
theorem dX3_lengthOf_19 : decode cX3_lengthOf 19 = .ok (.goto (-17), 3) := by decide +kernel
theorem dX3_lengthOf_22 : decode cX3_lengthOf 22 = .ok (.iload_n 2, 1) := by decide +kernel
theorem dX3_lengthOf_23 : decode cX3_lengthOf 23 = .ok (.ireturn, 1) := by decide +kernel
set_option maxRecDepth 20000 in
theorem ggX3_extended_X3_shiftOf : GoodIn wsX3_extended wsX3_shiftOf := goodIn_r _ [4] (by decide +kernel) (by decide +kernel)
set_option maxRecDepth 20000 in
theorem gX3_extended_X3_shiftOf : GoodIn wsX3_extended (va_wsS RX3 9 yX3_shiftOf wsX3_shiftOf) := goodIn_app (goodIn_of _ (by decide +kernel)) ggX3_extended_X3_shiftOf
theorem dX3_extended_0 : decode cX3_extended 0 = .ok (.iload_n 2, 1) := by decide +kernel
theorem dX3_extended_1 : decode cX3_extended 1 = .ok (.ifCond .lt 9, 3) := by decide +kernel
theorem dX3_extended_4 : decode cX3_extended 4 = .ok (.iload_n 2, 1) := by decide +kernel
theorem dX3_extended_5 : decode cX3_extended 5 = .ok (.bipush 7, 2) := by decide +kernel
theorem dX3_extended_7 : decode cX3_extended 7 = .ok (.if_icmp .lt 5, 3) := by decide +kernel
theorem dX3_extended_10 : decode cX3_extended 10 = .ok (.lload_n 0, 1) := by decide +kernel
theorem dX3_extended_11 : decode cX3_extended 11 = .ok (.lreturn, 1) := by decide +kernel
theorem dX3_extended_12 : decode cX3_extended 12 = .ok (.lload_n 0, 1) := by decide +kernel
theorem dX3_extended_13 : decode cX3_extended 13 = .ok (.iload_n 3, 1) := by decide +kernel
theorem dX3_extended_14 : decode cX3_extended 14 = .ok (.i2l, 1) := by decide +kernel
theorem dX3_extended_15 : decode cX3_extended 15 = .ok (.iload_n 2, 1) := by decide +kernel
theorem dX3_extended_16 : decode cX3_extended 16 = .ok (.invokestatic 9, 3) := by decide +kernel
theorem dX3_extended_19 : decode cX3_extended 19 = .ok (.lshl, 1) := by decide +kernel
theorem dX3_extended_20 : decode cX3_extended 20 = .ok (.lor, 1) := by decide +kernel
theorem dX3_extended_21 : decode cX3_extended 21 = .ok (.lreturn, 1) := by decide +kernel
set_option maxRecDepth 20000 in
theorem ggX3_sharedBy_X3_letterAt : GoodIn wsX3_sharedBy wsX3_letterAt := goodIn_r _ [4, 5, 6, 3, 7] (by decide +kernel) (by decide +kernel)
set_option maxRecDepth 20000 in
theorem gX3_sharedBy_X3_letterAt : GoodIn wsX3_sharedBy (va_wsS RX3 15 yX3_letterAt wsX3_letterAt) := goodIn_app (goodIn_of _ (by decide +kernel)) ggX3_sharedBy_X3_letterAt
theorem dX3_sharedBy_0 : decode cX3_sharedBy 0 = .ok (.iconst 0, 1) := by decide +kernel
theorem dX3_sharedBy_1 : decode cX3_sharedBy 1 = .ok (.istore 4, 2) := by decide +kernel
theorem dX3_sharedBy_3 : decode cX3_sharedBy 3 = .ok (.iload 4, 2) := by decide +kernel
theorem dX3_sharedBy_5 : decode cX3_sharedBy 5 = .ok (.bipush 7, 2) := by decide +kernel
theorem dX3_sharedBy_7 : decode cX3_sharedBy 7 = .ok (.if_icmp .ge 33, 3) := by decide +kernel
theorem dX3_sharedBy_10 : decode cX3_sharedBy 10 = .ok (.lload_n 0, 1) := by decide +kernel
theorem dX3_sharedBy_11 : decode cX3_sharedBy 11 = .ok (.iload 4, 2) := by decide +kernel
theorem dX3_sharedBy_13 : decode cX3_sharedBy 13 = .ok (.invokestatic 15, 3) := by decide +kernel
theorem dX3_sharedBy_16 : decode cX3_sharedBy 16 = .ok (.ifCond .eq 24, 3) := by decide +kernel
theorem dX3_sharedBy_19 : decode cX3_sharedBy 19 = .ok (.lload_n 0, 1) := by decide +kernel
theorem dX3_sharedBy_20 : decode cX3_sharedBy 20 = .ok (.iload 4, 2) := by decide +kernel
theorem dX3_sharedBy_22 : decode cX3_sharedBy 22 = .ok (.invokestatic 15, 3) := by decide +kernel
theorem dX3_sharedBy_25 : decode cX3_sharedBy 25 = .ok (.lload_n 2, 1) := by decide +kernel
theorem dX3_sharedBy_26 : decode cX3_sharedBy 26 = .ok (.iload 4, 2) := by decide +kernel
theorem dX3_sharedBy_28 : decode cX3_sharedBy 28 = .ok (.invokestatic 15, 3) := by decide +kernel
theorem dX3_sharedBy_31 : decode cX3_sharedBy 31 = .ok (.if_icmp .ne 9, 3) := by decide +kernel
theorem dX3_sharedBy_34 : decode cX3_sharedBy 34 = .ok (.iinc 4 1, 3) := by decide +kernel
theorem dX3_sharedBy_37 : decode cX3_sharedBy 37 = .ok (.goto (-34), 3) := by decide +kernel
theorem dX3_sharedBy_40 : decode cX3_sharedBy 40 = .ok (.iload 4, 2) := by decide +kernel
theorem dX3_sharedBy_42 : decode cX3_sharedBy 42 = .ok (.ireturn, 1) := by decide +kernel
set_option maxRecDepth 20000 in
theorem ggX3_begins_X3_sharedBy : GoodIn wsX3_begins wsX3_sharedBy := goodIn_r _ [4, 5, 6, 3, 7, 8, 9, 10] (by decide +kernel) (by decide +kernel)
set_option maxRecDepth 20000 in
theorem gX3_begins_X3_sharedBy : GoodIn wsX3_begins (va_wsS RX3 19 yX3_sharedBy wsX3_sharedBy) := goodIn_app (goodIn_of _ (by decide +kernel)) ggX3_begins_X3_sharedBy
set_option maxRecDepth 20000 in
theorem ggX3_begins_X3_lengthOf : GoodIn wsX3_begins wsX3_lengthOf := goodIn_r _ [13, 5, 6, 3, 7, 8, 9, 10] (by decide +kernel) (by decide +kernel)
set_option maxRecDepth 20000 in
theorem gX3_begins_X3_lengthOf : GoodIn wsX3_begins (va_wsS RX3 23 yX3_lengthOf wsX3_lengthOf) := goodIn_app (goodIn_of _ (by decide +kernel)) ggX3_begins_X3_lengthOf
theorem dX3_begins_0 : decode cX3_begins 0 = .ok (.lload_n 0, 1) := by decide +kernel
theorem dX3_begins_1 : decode cX3_begins 1 = .ok (.lload_n 2, 1) := by decide +kernel
theorem dX3_begins_2 : decode cX3_begins 2 = .ok (.invokestatic 19, 3) := by decide +kernel
theorem dX3_begins_5 : decode cX3_begins 5 = .ok (.lload_n 0, 1) := by decide +kernel
theorem dX3_begins_6 : decode cX3_begins 6 = .ok (.invokestatic 23, 3) := by decide +kernel
theorem dX3_begins_9 : decode cX3_begins 9 = .ok (.if_icmp .ne 7, 3) := by decide +kernel
theorem dX3_begins_12 : decode cX3_begins 12 = .ok (.iconst 1, 1) := by decide +kernel
theorem dX3_begins_13 : decode cX3_begins 13 = .ok (.goto 4, 3) := by decide +kernel
theorem dX3_begins_16 : decode cX3_begins 16 = .ok (.iconst 0, 1) := by decide +kernel
theorem dX3_begins_17 : decode cX3_begins 17 = .ok (.ireturn, 1) := by decide +kernel
set_option maxRecDepth 20000 in
theorem ggX3_differences_X3_letterAt : GoodIn wsX3_differences wsX3_letterAt := goodIn_r _ [4, 5, 6, 3, 7] (by decide +kernel) (by decide +kernel)
set_option maxRecDepth 20000 in
theorem gX3_differences_X3_letterAt : GoodIn wsX3_differences (va_wsS RX3 15 yX3_letterAt wsX3_letterAt) := goodIn_app (goodIn_of _ (by decide +kernel)) ggX3_differences_X3_letterAt
theorem dX3_differences_0 : decode cX3_differences 0 = .ok (.iconst 0, 1) := by decide +kernel
theorem dX3_differences_1 : decode cX3_differences 1 = .ok (.istore 4, 2) := by decide +kernel
theorem dX3_differences_3 : decode cX3_differences 3 = .ok (.iconst 0, 1) := by decide +kernel
theorem dX3_differences_4 : decode cX3_differences 4 = .ok (.istore 5, 2) := by decide +kernel
theorem dX3_differences_6 : decode cX3_differences 6 = .ok (.iload 5, 2) := by decide +kernel
theorem dX3_differences_8 : decode cX3_differences 8 = .ok (.bipush 7, 2) := by decide +kernel
theorem dX3_differences_10 : decode cX3_differences 10 = .ok (.if_icmp .ge 27, 3) := by decide +kernel
theorem dX3_differences_13 : decode cX3_differences 13 = .ok (.lload_n 0, 1) := by decide +kernel
theorem dX3_differences_14 : decode cX3_differences 14 = .ok (.iload 5, 2) := by decide +kernel
theorem dX3_differences_16 : decode cX3_differences 16 = .ok (.invokestatic 15, 3) := by decide +kernel
theorem dX3_differences_19 : decode cX3_differences 19 = .ok (.lload_n 2, 1) := by decide +kernel
theorem dX3_differences_20 : decode cX3_differences 20 = .ok (.iload 5, 2) := by decide +kernel
theorem dX3_differences_22 : decode cX3_differences 22 = .ok (.invokestatic 15, 3) := by decide +kernel
theorem dX3_differences_25 : decode cX3_differences 25 = .ok (.if_icmp .eq 6, 3) := by decide +kernel
theorem dX3_differences_28 : decode cX3_differences 28 = .ok (.iinc 4 1, 3) := by decide +kernel
theorem dX3_differences_31 : decode cX3_differences 31 = .ok (.iinc 5 1, 3) := by decide +kernel
theorem dX3_differences_34 : decode cX3_differences 34 = .ok (.goto (-28), 3) := by decide +kernel
theorem dX3_differences_37 : decode cX3_differences 37 = .ok (.iload 4, 2) := by decide +kernel
theorem dX3_differences_39 : decode cX3_differences 39 = .ok (.ireturn, 1) := by decide +kernel
theorem dX3_shiftOf_0 : decode cX3_shiftOf 0 = .ok (.bipush 8, 2) := by decide +kernel
theorem dX3_shiftOf_2 : decode cX3_shiftOf 2 = .ok (.bipush 6, 2) := by decide +kernel
theorem dX3_shiftOf_4 : decode cX3_shiftOf 4 = .ok (.iload_n 0, 1) := by decide +kernel
theorem dX3_shiftOf_5 : decode cX3_shiftOf 5 = .ok (.isub, 1) := by decide +kernel
theorem dX3_shiftOf_6 : decode cX3_shiftOf 6 = .ok (.imul, 1) := by decide +kernel
theorem dX3_shiftOf_7 : decode cX3_shiftOf 7 = .ok (.ireturn, 1) := by decide +kernel
set_option maxRecDepth 20000 in
theorem ggX4_init_X0_init : GoodIn wsX4_init wsX0_init := goodIn_r _ [21, 22, 2, 3, 23, 24, 16, 25, 26, 27, 43, 44, 45, 46] (by decide +kernel) (by decide +kernel)
set_option maxRecDepth 20000 in
theorem gX4_init_X0_init_n9 : GoodIn wsX4_init (wsX0_init) := ggX4_init_X0_init
set_option maxRecDepth 20000 in
theorem ggX4_init_X1_init : GoodIn wsX4_init wsX1_init := goodIn_r _ [29, 30, 2, 3, 23, 31, 16, 32, 33, 34, 53, 54, 55, 56] (by decide +kernel) (by decide +kernel)
set_option maxRecDepth 20000 in
theorem gX4_init_X1_init_n18 : GoodIn wsX4_init (wsX1_init) := ggX4_init_X1_init
set_option maxRecDepth 20000 in
theorem ggX4_init_X2_init : GoodIn wsX4_init wsX2_init := goodIn_r _ [36, 37, 2, 3, 16, 38, 39, 40, 41, 42, 57, 58, 59, 60] (by decide +kernel) (by decide +kernel)
set_option maxRecDepth 20000 in
theorem gX4_init_X2_init_n25 : GoodIn wsX4_init (wsX2_init) := ggX4_init_X2_init
