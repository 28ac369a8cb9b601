theorem dX0_init_0 : decode cX0_init 0 = .ok (.aload_n 0, 1) := by decide +kernel
theorem dX0_init_1 : decode cX0_init 1 = .ok (.invokespecial 3, 3) := by decide +kernel
theorem dX0_init_4 : decode cX0_init 4 = .ok (.aload_n 0, 1) := by decide +kernel
theorem dX0_init_5 : decode cX0_init 5 = .ok (.bipush 40, 2) := by decide +kernel
theorem dX0_init_7 : decode cX0_init 7 = .ok (.newarray .long, 2) := by decide +kernel
theorem dX0_init_9 : decode cX0_init 9 = .ok (.putfield 9, 3) := by decide +kernel
theorem dX0_init_12 : decode cX0_init 12 = .ok (.aload_n 0, 1) := by decide +kernel
theorem dX0_init_13 : decode cX0_init 13 = .ok (.bipush 40, 2) := by decide +kernel
theorem dX0_init_15 : decode cX0_init 15 = .ok (.newarray .int, 2) := by decide +kernel
theorem dX0_init_17 : decode cX0_init 17 = .ok (.putfield 15, 3) := by decide +kernel
theorem dX0_init_20 : decode cX0_init 20 = .ok (.aload_n 0, 1) := by decide +kernel
theorem dX0_init_21 : decode cX0_init 21 = .ok (.bipush 40, 2) := by decide +kernel
theorem dX0_init_23 : decode cX0_init 23 = .ok (.newarray .int, 2) := by decide +kernel
theorem dX0_init_25 : decode cX0_init 25 = .ok (.putfield 19, 3) := by decide +kernel
theorem dX0_init_28 : decode cX0_init 28 = .ok (.aload_n 0, 1) := by decide +kernel
theorem dX0_init_29 : decode cX0_init 29 = .ok (.iconst 0, 1) := by decide +kernel
theorem dX0_init_30 : decode cX0_init 30 = .ok (.putfield 22, 3) := by decide +kernel
theorem dX0_init_33 : decode cX0_init 33 = .ok (.return_, 1) := by decide +kernel
theorem dX0_size_0 : decode cX0_size 0 = .ok (.aload_n 0, 1) := by decide +kernel
theorem dX0_size_1 : decode cX0_size 1 = .ok (.getfield 22, 3) := by decide +kernel
theorem dX0_size_4 : decode cX0_size 4 = .ok (.ireturn, 1) := by decide +kernel
theorem dX0_has_0 : decode cX0_has 0 = .ok (.iload_n 1, 1) := by decide +kernel
theorem dX0_has_1 : decode cX0_has 1 = .ok (.ifCond .lt 21, 3) := by decide +kernel
theorem dX0_has_4 : decode cX0_has 4 = .ok (.iload_n 1, 1) := by decide +kernel
theorem dX0_has_5 : decode cX0_has 5 = .ok (.aload_n 0, 1) := by decide +kernel
theorem dX0_has_6 : decode cX0_has 6 = .ok (.getfield 22, 3) := by decide +kernel
theorem dX0_has_9 : decode cX0_has 9 = .ok (.if_icmp .ge 13, 3) := by decide +kernel
theorem dX0_has_12 : decode cX0_has 12 = .ok (.iload_n 1, 1) := by decide +kernel
theorem dX0_has_13 : decode cX0_has 13 = .ok (.bipush 40, 2) := by decide +kernel
theorem dX0_has_15 : decode cX0_has 15 = .ok (.if_icmp .ge 7, 3) := by decide +kernel
theorem dX0_has_18 : decode cX0_has 18 = .ok (.iconst 1, 1) := by decide +kernel
theorem dX0_has_19 : decode cX0_has 19 = .ok (.goto 4, 3) := by decide +kernel
theorem dX0_has_22 : decode cX0_has 22 = .ok (.iconst 0, 1) := by decide +kernel
theorem dX0_has_23 : decode cX0_has 23 = .ok (.ireturn, 1) := by decide +kernel
set_option maxRecDepth 20000 in
theorem ggX0_wordAt_X0_has : GoodIn wsX0_wordAt wsX0_has := goodIn_r _ [6, 7, 8, 9, 10, 11] (by decide +kernel) (by decide +kernel)
set_option maxRecDepth 20000 in
theorem gX0_wordAt_X0_has : GoodIn wsX0_wordAt (wsV RX0 26 RX0 yX0_has wsX0_has) := goodIn_app (goodIn_of _ (by decide +kernel)) ggX0_wordAt_X0_has
theorem dX0_wordAt_0 : decode cX0_wordAt 0 = .ok (.aload_n 0, 1) := by decide +kernel
theorem dX0_wordAt_1 : decode cX0_wordAt 1 = .ok (.iload_n 1, 1) := by decide +kernel
theorem dX0_wordAt_2 : decode cX0_wordAt 2 = .ok (.invokevirtual 26, 3) := by decide +kernel
theorem dX0_wordAt_5 : decode cX0_wordAt 5 = .ok (.ifCond .eq 12, 3) := by decide +kernel
theorem dX0_wordAt_8 : decode cX0_wordAt 8 = .ok (.aload_n 0, 1) := by decide +kernel
theorem dX0_wordAt_9 : decode cX0_wordAt 9 = .ok (.getfield 9, 3) := by decide +kernel
theorem dX0_wordAt_12 : decode cX0_wordAt 12 = .ok (.iload_n 1, 1) := by decide +kernel
theorem dX0_wordAt_13 : decode cX0_wordAt 13 = .ok (.laload, 1) := by decide +kernel
theorem dX0_wordAt_14 : decode cX0_wordAt 14 = .ok (.goto 4, 3) := by decide +kernel
theorem dX0_wordAt_17 : decode cX0_wordAt 17 = .ok (.lconst 0, 1) := by decide +kernel
theorem dX0_wordAt_18 : decode cX0_wordAt 18 = .ok (.lreturn, 1) := by decide +kernel
set_option maxRecDepth 20000 in
theorem ggX0_oftenAt_X0_has : GoodIn wsX0_oftenAt wsX0_has := goodIn_r _ [6, 7, 8, 9, 10, 11] (by decide +kernel) (by decide +kernel)
set_option maxRecDepth 20000 in
theorem gX0_oftenAt_X0_has : GoodIn wsX0_oftenAt (wsV RX0 26 RX0 yX0_has wsX0_has) := goodIn_app (goodIn_of _ (by decide +kernel)) ggX0_oftenAt_X0_has
theorem dX0_oftenAt_0 : decode cX0_oftenAt 0 = .ok (.aload_n 0, 1) := by decide +kernel
theorem dX0_oftenAt_1 : decode cX0_oftenAt 1 = .ok (.iload_n 1, 1) := by decide +kernel
theorem dX0_oftenAt_2 : decode cX0_oftenAt 2 = .ok (.invokevirtual 26, 3) := by decide +kernel
theorem dX0_oftenAt_5 : decode cX0_oftenAt 5 = .ok (.ifCond .eq 12, 3) := by decide +kernel
theorem dX0_oftenAt_8 : decode cX0_oftenAt 8 = .ok (.aload_n 0, 1) := by decide +kernel
theorem dX0_oftenAt_9 : decode cX0_oftenAt 9 = .ok (.getfield 15, 3) := by decide +kernel
theorem dX0_oftenAt_12 : decode cX0_oftenAt 12 = .ok (.iload_n 1, 1) := by decide +kernel
theorem dX0_oftenAt_13 : decode cX0_oftenAt 13 = .ok (.iaload, 1) := by decide +kernel
theorem dX0_oftenAt_14 : decode cX0_oftenAt 14 = .ok (.goto 4, 3) := by decide +kernel
theorem dX0_oftenAt_17 : decode cX0_oftenAt 17 = .ok (.iconst 0, 1) := by decide +kernel
theorem dX0_oftenAt_18 : decode cX0_oftenAt 18 = .ok (.ireturn, 1) := by decide +kernel
set_option maxRecDepth 20000 in
theorem ggX0_depthAt_X0_has : GoodIn wsX0_depthAt wsX0_has := goodIn_r _ [6, 7, 8, 9, 10, 11] (by decide +kernel) (by decide +kernel)
set_option maxRecDepth 20000 in
theorem gX0_depthAt_X0_has : GoodIn wsX0_depthAt (wsV RX0 26 RX0 yX0_has wsX0_has) := goodIn_app (goodIn_of _ (by decide +kernel)) ggX0_depthAt_X0_has
theorem dX0_depthAt_0 : decode cX0_depthAt 0 = .ok (.aload_n 0, 1) := by decide +kernel
theorem dX0_depthAt_1 : decode cX0_depthAt 1 = .ok (.iload_n 1, 1) := by decide +kernel
theorem dX0_depthAt_2 : decode cX0_depthAt 2 = .ok (.invokevirtual 26, 3) := by decide +kernel
theorem dX0_depthAt_5 : decode cX0_depthAt 5 = .ok (.ifCond .eq 12, 3) := by decide +kernel
theorem dX0_depthAt_8 : decode cX0_depthAt 8 = .ok (.aload_n 0, 1) := by decide +kernel
theorem dX0_depthAt_9 : decode cX0_depthAt 9 = .ok (.getfield 19, 3) := by decide +kernel
theorem dX0_depthAt_12 : decode cX0_depthAt 12 = .ok (.iload_n 1, 1) := by decide +kernel
theorem dX0_depthAt_13 : decode cX0_depthAt 13 = .ok (.iaload, 1) := by decide +kernel
theorem dX0_depthAt_14 : decode cX0_depthAt 14 = .ok (.goto 4, 3) := by decide +kernel
theorem dX0_depthAt_17 : decode cX0_depthAt 17 = .ok (.iconst 0, 1) := by decide +kernel
theorem dX0_depthAt_18 : decode cX0_depthAt 18 = .ok (.ireturn, 1) := by decide +kernel
set_option maxRecDepth 20000 in
theorem ggX0_placeOf_X0_wordAt : GoodIn wsX0_placeOf wsX0_wordAt := goodIn_r _ [6, 7, 8, 9, 10, 5, 11, 1, 12, 13, 14, 15] (by decide +kernel) (by decide +kernel)
set_option maxRecDepth 20000 in
theorem gX0_placeOf_X0_wordAt : GoodIn wsX0_placeOf (wsV RX0 32 RX0 yX0_wordAt wsX0_wordAt) := goodIn_app (goodIn_of _ (by decide +kernel)) ggX0_placeOf_X0_wordAt
theorem dX0_placeOf_0 : decode cX0_placeOf 0 = .ok (.iconst 0, 1) := by decide +kernel
theorem dX0_placeOf_1 : decode cX0_placeOf 1 = .ok (.istore_n 3, 1) := by decide +kernel
theorem dX0_placeOf_2 : decode cX0_placeOf 2 = .ok (.iload_n 3, 1) := by decide +kernel
theorem dX0_placeOf_3 : decode cX0_placeOf 3 = .ok (.aload_n 0, 1) := by decide +kernel
theorem dX0_placeOf_4 : decode cX0_placeOf 4 = .ok (.getfield 22, 3) := by decide +kernel
theorem dX0_placeOf_7 : decode cX0_placeOf 7 = .ok (.if_icmp .ge 19, 3) := by decide +kernel
theorem dX0_placeOf_10 : decode cX0_placeOf 10 = .ok (.aload_n 0, 1) := by decide +kernel
theorem dX0_placeOf_11 : decode cX0_placeOf 11 = .ok (.iload_n 3, 1) := by decide +kernel
theorem dX0_placeOf_12 : decode cX0_placeOf 12 = .ok (.invokevirtual 32, 3) := by decide +kernel
theorem dX0_placeOf_15 : decode cX0_placeOf 15 = .ok (.lload_n 1, 1) := by decide +kernel
theorem dX0_placeOf_16 : decode cX0_placeOf 16 = .ok (.lcmp, 1) := by decide +kernel
theorem dX0_placeOf_17 : decode cX0_placeOf 17 = .ok (.ifCond .ge 9, 3) := by decide +kernel
theorem dX0_placeOf_20 : decode cX0_placeOf 20 = .ok (.iinc 3 1, 3) := by decide +kernel
theorem dX0_placeOf_23 : decode cX0_placeOf 23 = .ok (.goto (-21), 3) := by decide +kernel
theorem dX0_placeOf_26 : decode cX0_placeOf 26 = .ok (.iload_n 3, 1) := by decide +kernel
theorem dX0_placeOf_27 : decode cX0_placeOf 27 = .ok (.ireturn, 1) := by decide +kernel
set_option maxRecDepth 20000 in
theorem ggX0_oftenOf_X0_placeOf : GoodIn wsX0_oftenOf wsX0_placeOf := goodIn_r _ [5, 6, 7, 8, 9, 4, 10, 11, 12, 13, 14, 15, 21, 22, 23, 24] (by decide +kernel) (by decide +kernel)
set_option maxRecDepth 20000 in
theorem gX0_oftenOf_X0_placeOf : GoodIn wsX0_oftenOf (wsV RX0 36 RX0 yX0_placeOf wsX0_placeOf) := goodIn_app (goodIn_of _ (by decide +kernel)) ggX0_oftenOf_X0_placeOf
set_option maxRecDepth 20000 in
theorem ggX0_oftenOf_X0_wordAt : GoodIn wsX0_oftenOf wsX0_wordAt := goodIn_r _ [10, 11, 12, 13, 14, 4, 15, 6, 21, 22, 23, 24] (by decide +kernel) (by decide +kernel)
set_option maxRecDepth 20000 in
theorem gX0_oftenOf_X0_wordAt : GoodIn wsX0_oftenOf (wsV RX0 32 RX0 yX0_wordAt wsX0_wordAt) := goodIn_app (goodIn_of _ (by decide +kernel)) ggX0_oftenOf_X0_wordAt
set_option maxRecDepth 20000 in
theorem ggX0_oftenOf_X0_oftenAt : GoodIn wsX0_oftenOf wsX0_oftenAt := goodIn_r _ [19, 20, 12, 13, 14, 4, 15, 6, 21, 22, 23, 24] (by decide +kernel) (by decide +kernel)
set_option maxRecDepth 20000 in
theorem gX0_oftenOf_X0_oftenAt : GoodIn wsX0_oftenOf (wsV RX0 40 RX0 yX0_oftenAt wsX0_oftenAt) := goodIn_app (goodIn_of _ (by decide +kernel)) ggX0_oftenOf_X0_oftenAt
theorem dX0_oftenOf_0 : decode cX0_oftenOf 0 = .ok (.aload_n 0, 1) := by decide +kernel
theorem dX0_oftenOf_1 : decode cX0_oftenOf 1 = .ok (.lload_n 1, 1) := by decide +kernel
theorem dX0_oftenOf_2 : decode cX0_oftenOf 2 = .ok (.invokevirtual 36, 3) := by decide +kernel
theorem dX0_oftenOf_5 : decode cX0_oftenOf 5 = .ok (.istore_n 3, 1) := by decide +kernel
theorem dX0_oftenOf_6 : decode cX0_oftenOf 6 = .ok (.aload_n 0, 1) := by decide +kernel
theorem dX0_oftenOf_7 : decode cX0_oftenOf 7 = .ok (.iload_n 3, 1) := by decide +kernel
theorem dX0_oftenOf_8 : decode cX0_oftenOf 8 = .ok (.invokevirtual 32, 3) := by decide +kernel
theorem dX0_oftenOf_11 : decode cX0_oftenOf 11 = .ok (.lload_n 1, 1) := by decide +kernel
theorem dX0_oftenOf_12 : decode cX0_oftenOf 12 = .ok (.lcmp, 1) := by decide +kernel
theorem dX0_oftenOf_13 : decode cX0_oftenOf 13 = .ok (.ifCond .ne 11, 3) := by decide +kernel
theorem dX0_oftenOf_16 : decode cX0_oftenOf 16 = .ok (.aload_n 0, 1) := by decide +kernel
theorem dX0_oftenOf_17 : decode cX0_oftenOf 17 = .ok (.iload_n 3, 1) := by decide +kernel
theorem dX0_oftenOf_18 : decode cX0_oftenOf 18 = .ok (.invokevirtual 40, 3) := by decide +kernel
theorem dX0_oftenOf_21 : decode cX0_oftenOf 21 = .ok (.goto 4, 3) := by decide +kernel
theorem dX0_oftenOf_24 : decode cX0_oftenOf 24 = .ok (.iconst 0, 1) := by decide +kernel
theorem dX0_oftenOf_25 : decode cX0_oftenOf 25 = .ok (.ireturn, 1) := by decide +kernel
set_option maxRecDepth 20000 in
theorem ggX0_put_X0_placeOf : GoodIn wsX0_put wsX0_placeOf := goodIn_r _ [7, 8, 9, 10, 11, 6, 12, 1, 13, 14, 15, 16, 55, 56, 57, 58] (by decide +kernel) (by decide +kernel)
set_option maxRecDepth 20000 in
theorem gX0_put_X0_placeOf : GoodIn wsX0_put (wsV RX0 36 RX0 yX0_placeOf wsX0_placeOf) := goodIn_app (goodIn_of _ (by decide +kernel)) ggX0_put_X0_placeOf
set_option maxRecDepth 20000 in
theorem ggX0_put_X0_has : GoodIn wsX0_put wsX0_has := goodIn_r _ [16, 8, 55, 56, 57, 58] (by decide +kernel) (by decide +kernel)
set_option maxRecDepth 20000 in
theorem gX0_put_X0_has : GoodIn wsX0_put (wsV RX0 26 RX0 yX0_has wsX0_has) := goodIn_app (goodIn_of _ (by decide +kernel)) ggX0_put_X0_has
set_option maxRecDepth 20000 in
theorem ggX0_put_X0_insert : GoodIn wsX0_put wsX0_insert := goodIn_r _ [20, 8, 1, 21, 22, 23, 24, 2, 25, 26, 27, 28, 6, 29, 30, 31, 32, 33, 34, 35, 36, 9, 10, 11, 12, 13, 14, 15, 16, 37, 38, 39, 40, 41, 42, 43, 44, 45, 46, 47, 48, 49, 50, 55, 56, 57, 58] (by decide +kernel) (by decide +kernel)
set_option maxRecDepth 20000 in
theorem gX0_put_X0_insert : GoodIn wsX0_put (wsV RX0 44 RX0 yX0_insert wsX0_insert) := goodIn_app (goodIn_of _ (by decide +kernel)) ggX0_put_X0_insert
set_option maxRecDepth 20000 in
theorem ggX0_put_X0_remove : GoodIn wsX0_put wsX0_remove := goodIn_r _ [54, 8, 1, 21, 22, 23, 24, 2, 25, 13, 14, 15, 6, 16, 55, 56, 57, 58] (by decide +kernel) (by decide +kernel)
set_option maxRecDepth 20000 in
theorem gX0_put_X0_remove : GoodIn wsX0_put (wsV RX0 48 RX0 yX0_remove wsX0_remove) := goodIn_app (goodIn_of _ (by decide +kernel)) ggX0_put_X0_remove
theorem dX0_put_0 : decode cX0_put 0 = .ok (.aload_n 0, 1) := by decide +kernel
theorem dX0_put_1 : decode cX0_put 1 = .ok (.lload_n 1, 1) := by decide +kernel
theorem dX0_put_2 : decode cX0_put 2 = .ok (.invokevirtual 36, 3) := by decide +kernel
theorem dX0_put_5 : decode cX0_put 5 = .ok (.istore 4, 2) := by decide +kernel
theorem dX0_put_7 : decode cX0_put 7 = .ok (.aload_n 0, 1) := by decide +kernel
theorem dX0_put_8 : decode cX0_put 8 = .ok (.iload 4, 2) := by decide +kernel
theorem dX0_put_10 : decode cX0_put 10 = .ok (.invokevirtual 26, 3) := by decide +kernel
theorem dX0_put_13 : decode cX0_put 13 = .ok (.ifCond .eq 19, 3) := by decide +kernel
theorem dX0_put_16 : decode cX0_put 16 = .ok (.aload_n 0, 1) := by decide +kernel
theorem dX0_put_17 : decode cX0_put 17 = .ok (.getfield 9, 3) := by decide +kernel
theorem dX0_put_20 : decode cX0_put 20 = .ok (.iload 4, 2) := by decide +kernel
theorem dX0_put_22 : decode cX0_put 22 = .ok (.laload, 1) := by decide +kernel
theorem dX0_put_23 : decode cX0_put 23 = .ok (.lload_n 1, 1) := by decide +kernel
theorem dX0_put_24 : decode cX0_put 24 = .ok (.lcmp, 1) := by decide +kernel
theorem dX0_put_25 : decode cX0_put 25 = .ok (.ifCond .ne 7, 3) := by decide +kernel
theorem dX0_put_28 : decode cX0_put 28 = .ok (.iconst 1, 1) := by decide +kernel
theorem dX0_put_29 : decode cX0_put 29 = .ok (.goto 4, 3) := by decide +kernel
theorem dX0_put_32 : decode cX0_put 32 = .ok (.iconst 0, 1) := by decide +kernel
theorem dX0_put_33 : decode cX0_put 33 = .ok (.istore 5, 2) := by decide +kernel
theorem dX0_put_35 : decode cX0_put 35 = .ok (.iload 5, 2) := by decide +kernel
theorem dX0_put_37 : decode cX0_put 37 = .ok (.ifCond .ne 18, 3) := by decide +kernel
theorem dX0_put_40 : decode cX0_put 40 = .ok (.iload_n 3, 1) := by decide +kernel
theorem dX0_put_41 : decode cX0_put 41 = .ok (.ifCond .le 14, 3) := by decide +kernel
theorem dX0_put_44 : decode cX0_put 44 = .ok (.aload_n 0, 1) := by decide +kernel
theorem dX0_put_45 : decode cX0_put 45 = .ok (.iload 4, 2) := by decide +kernel
theorem dX0_put_47 : decode cX0_put 47 = .ok (.lload_n 1, 1) := by decide +kernel
theorem dX0_put_48 : decode cX0_put 48 = .ok (.iload_n 3, 1) := by decide +kernel
theorem dX0_put_49 : decode cX0_put 49 = .ok (.invokevirtual 44, 3) := by decide +kernel
theorem dX0_put_52 : decode cX0_put 52 = .ok (.goto 34, 3) := by decide +kernel
theorem dX0_put_55 : decode cX0_put 55 = .ok (.iload 5, 2) := by decide +kernel
theorem dX0_put_57 : decode cX0_put 57 = .ok (.ifCond .eq 18, 3) := by decide +kernel
theorem dX0_put_60 : decode cX0_put 60 = .ok (.iload_n 3, 1) := by decide +kernel
theorem dX0_put_61 : decode cX0_put 61 = .ok (.ifCond .le 14, 3) := by decide +kernel
theorem dX0_put_64 : decode cX0_put 64 = .ok (.aload_n 0, 1) := by decide +kernel
theorem dX0_put_65 : decode cX0_put 65 = .ok (.getfield 15, 3) := by decide +kernel
theorem dX0_put_68 : decode cX0_put 68 = .ok (.iload 4, 2) := by decide +kernel
theorem dX0_put_70 : decode cX0_put 70 = .ok (.iload_n 3, 1) := by decide +kernel
theorem dX0_put_71 : decode cX0_put 71 = .ok (.iastore, 1) := by decide +kernel
theorem dX0_put_72 : decode cX0_put 72 = .ok (.goto 14, 3) := by decide +kernel
theorem dX0_put_75 : decode cX0_put 75 = .ok (.iload 5, 2) := by decide +kernel
theorem dX0_put_77 : decode cX0_put 77 = .ok (.ifCond .eq 9, 3) := by decide +kernel
theorem dX0_put_80 : decode cX0_put 80 = .ok (.aload_n 0, 1) := by decide +kernel
theorem dX0_put_81 : decode cX0_put 81 = .ok (.iload 4, 2) := by decide +kernel
theorem dX0_put_83 : decode cX0_put 83 = .ok (.invokevirtual 48, 3) := by decide +kernel
theorem dX0_put_86 : decode cX0_put 86 = .ok (.return_, 1) := by decide +kernel
set_option maxRecDepth 20000 in
theorem ggX0_insert_X0_depthOf : GoodIn wsX0_insert wsX0_depthOf := goodIn_r _ [13, 1, 14, 15, 16, 17, 18, 19, 20, 21, 22, 23, 12, 24, 2, 25, 26, 27, 28, 29, 30, 31, 32, 33, 34, 35, 36, 37, 38, 39, 40, 41, 42, 8, 43, 44, 45, 46] (by decide +kernel) (by decide +kernel)
set_option maxRecDepth 20000 in
theorem gX0_insert_X0_depthOf : GoodIn wsX0_insert (wsV RX0 52 RX0 yX0_depthOf wsX0_depthOf) := goodIn_app (goodIn_of _ (by decide +kernel)) ggX0_insert_X0_depthOf
theorem dX0_insert_0 : decode cX0_insert 0 = .ok (.iload_n 1, 1) := by decide +kernel
theorem dX0_insert_1 : decode cX0_insert 1 = .ok (.ifCond .lt 20, 3) := by decide +kernel
theorem dX0_insert_4 : decode cX0_insert 4 = .ok (.iload_n 1, 1) := by decide +kernel
theorem dX0_insert_5 : decode cX0_insert 5 = .ok (.aload_n 0, 1) := by decide +kernel
theorem dX0_insert_6 : decode cX0_insert 6 = .ok (.getfield 22, 3) := by decide +kernel
theorem dX0_insert_9 : decode cX0_insert 9 = .ok (.if_icmp .gt 12, 3) := by decide +kernel
theorem dX0_insert_12 : decode cX0_insert 12 = .ok (.aload_n 0, 1) := by decide +kernel
theorem dX0_insert_13 : decode cX0_insert 13 = .ok (.getfield 22, 3) := by decide +kernel
theorem dX0_insert_16 : decode cX0_insert 16 = .ok (.bipush 40, 2) := by decide +kernel
theorem dX0_insert_18 : decode cX0_insert 18 = .ok (.if_icmp .lt 4, 3) := by decide +kernel
theorem dX0_insert_21 : decode cX0_insert 21 = .ok (.return_, 1) := by decide +kernel
theorem dX0_insert_22 : decode cX0_insert 22 = .ok (.aload_n 0, 1) := by decide +kernel
theorem dX0_insert_23 : decode cX0_insert 23 = .ok (.lload_n 2, 1) := by decide +kernel
theorem dX0_insert_24 : decode cX0_insert 24 = .ok (.invokevirtual 52, 3) := by decide +kernel
theorem dX0_insert_27 : decode cX0_insert 27 = .ok (.istore 5, 2) := by decide +kernel
theorem dX0_insert_29 : decode cX0_insert 29 = .ok (.aload_n 0, 1) := by decide +kernel
theorem dX0_insert_30 : decode cX0_insert 30 = .ok (.getfield 22, 3) := by decide +kernel
theorem dX0_insert_33 : decode cX0_insert 33 = .ok (.iload_n 1, 1) := by decide +kernel
theorem dX0_insert_34 : decode cX0_insert 34 = .ok (.isub, 1) := by decide +kernel
theorem dX0_insert_35 : decode cX0_insert 35 = .ok (.istore 6, 2) := by decide +kernel
theorem dX0_insert_37 : decode cX0_insert 37 = .ok (.aload_n 0, 1) := by decide +kernel
theorem dX0_insert_38 : decode cX0_insert 38 = .ok (.getfield 9, 3) := by decide +kernel
theorem dX0_insert_41 : decode cX0_insert 41 = .ok (.iload_n 1, 1) := by decide +kernel
theorem dX0_insert_42 : decode cX0_insert 42 = .ok (.aload_n 0, 1) := by decide +kernel
theorem dX0_insert_43 : decode cX0_insert 43 = .ok (.getfield 9, 3) := by decide +kernel
theorem dX0_insert_46 : decode cX0_insert 46 = .ok (.iload_n 1, 1) := by decide +kernel
theorem dX0_insert_47 : decode cX0_insert 47 = .ok (.iconst 1, 1) := by decide +kernel
theorem dX0_insert_48 : decode cX0_insert 48 = .ok (.iadd, 1) := by decide +kernel
theorem dX0_insert_49 : decode cX0_insert 49 = .ok (.iload 6, 2) := by decide +kernel
theorem dX0_insert_51 : decode cX0_insert 51 = .ok (.invokestatic 55, 3) := by decide +kernel
theorem dX0_insert_54 : decode cX0_insert 54 = .ok (.aload_n 0, 1) := by decide +kernel
theorem dX0_insert_55 : decode cX0_insert 55 = .ok (.getfield 15, 3) := by decide +kernel
theorem dX0_insert_58 : decode cX0_insert 58 = .ok (.iload_n 1, 1) := by decide +kernel
theorem dX0_insert_59 : decode cX0_insert 59 = .ok (.aload_n 0, 1) := by decide +kernel
theorem dX0_insert_60 : decode cX0_insert 60 = .ok (.getfield 15, 3) := by decide +kernel
theorem dX0_insert_63 : decode cX0_insert 63 = .ok (.iload_n 1, 1) := by decide +kernel
theorem dX0_insert_64 : decode cX0_insert 64 = .ok (.iconst 1, 1) := by decide +kernel
theorem dX0_insert_65 : decode cX0_insert 65 = .ok (.iadd, 1) := by decide +kernel
theorem dX0_insert_66 : decode cX0_insert 66 = .ok (.iload 6, 2) := by decide +kernel
theorem dX0_insert_68 : decode cX0_insert 68 = .ok (.invokestatic 55, 3) := by decide +kernel
theorem dX0_insert_71 : decode cX0_insert 71 = .ok (.aload_n 0, 1) := by decide +kernel
theorem dX0_insert_72 : decode cX0_insert 72 = .ok (.getfield 19, 3) := by decide +kernel
theorem dX0_insert_75 : decode cX0_insert 75 = .ok (.iload_n 1, 1) := by decide +kernel
theorem dX0_insert_76 : decode cX0_insert 76 = .ok (.aload_n 0, 1) := by decide +kernel
theorem dX0_insert_77 : decode cX0_insert 77 = .ok (.getfield 19, 3) := by decide +kernel
theorem dX0_insert_80 : decode cX0_insert 80 = .ok (.iload_n 1, 1) := by decide +kernel
theorem dX0_insert_81 : decode cX0_insert 81 = .ok (.iconst 1, 1) := by decide +kernel
theorem dX0_insert_82 : decode cX0_insert 82 = .ok (.iadd, 1) := by decide +kernel
theorem dX0_insert_83 : decode cX0_insert 83 = .ok (.iload 6, 2) := by decide +kernel
theorem dX0_insert_85 : decode cX0_insert 85 = .ok (.invokestatic 55, 3) := by decide +kernel
theorem dX0_insert_88 : decode cX0_insert 88 = .ok (.aload_n 0, 1) := by decide +kernel
theorem dX0_insert_89 : decode cX0_insert 89 = .ok (.getfield 9, 3) := by decide +kernel
theorem dX0_insert_92 : decode cX0_insert 92 = .ok (.iload_n 1, 1) := by decide +kernel
theorem dX0_insert_93 : decode cX0_insert 93 = .ok (.lload_n 2, 1) := by decide +kernel
theorem dX0_insert_94 : decode cX0_insert 94 = .ok (.lastore, 1) := by decide +kernel
theorem dX0_insert_95 : decode cX0_insert 95 = .ok (.aload_n 0, 1) := by decide +kernel
theorem dX0_insert_96 : decode cX0_insert 96 = .ok (.getfield 15, 3) := by decide +kernel
theorem dX0_insert_99 : decode cX0_insert 99 = .ok (.iload_n 1, 1) := by decide +kernel
theorem dX0_insert_100 : decode cX0_insert 100 = .ok (.iload 4, 2) := by decide +kernel
theorem dX0_insert_102 : decode cX0_insert 102 = .ok (.iastore, 1) := by decide +kernel
theorem dX0_insert_103 : decode cX0_insert 103 = .ok (.aload_n 0, 1) := by decide +kernel
theorem dX0_insert_104 : decode cX0_insert 104 = .ok (.getfield 19, 3) := by decide +kernel
theorem dX0_insert_107 : decode cX0_insert 107 = .ok (.iload_n 1, 1) := by decide +kernel
theorem dX0_insert_108 : decode cX0_insert 108 = .ok (.iload 5, 2) := by decide +kernel
theorem dX0_insert_110 : decode cX0_insert 110 = .ok (.iastore, 1) := by decide +kernel
theorem dX0_insert_111 : decode cX0_insert 111 = .ok (.aload_n 0, 1) := by decide +kernel
theorem dX0_insert_112 : decode cX0_insert 112 = .ok (.dup, 1) := by decide +kernel
theorem dX0_insert_113 : decode cX0_insert 113 = .ok (.getfield 22, 3) := by decide +kernel
theorem dX0_insert_116 : decode cX0_insert 116 = .ok (.iconst 1, 1) := by decide +kernel
theorem dX0_insert_117 : decode cX0_insert 117 = .ok (.iadd, 1) := by decide +kernel
theorem dX0_insert_118 : decode cX0_insert 118 = .ok (.putfield 22, 3) := by decide +kernel
theorem dX0_insert_121 : decode cX0_insert 121 = .ok (.return_, 1) := by decide +kernel
set_option maxRecDepth 20000 in
theorem ggX0_remove_X0_has : GoodIn wsX0_remove wsX0_has := goodIn_r _ [13, 1, 14, 15, 16, 17] (by decide +kernel) (by decide +kernel)
set_option maxRecDepth 20000 in
theorem gX0_remove_X0_has : GoodIn wsX0_remove (wsV RX0 26 RX0 yX0_has wsX0_has) := goodIn_app (goodIn_of _ (by decide +kernel)) ggX0_remove_X0_has
theorem dX0_remove_0 : decode cX0_remove 0 = .ok (.aload_n 0, 1) := by decide +kernel
theorem dX0_remove_1 : decode cX0_remove 1 = .ok (.iload_n 1, 1) := by decide +kernel
theorem dX0_remove_2 : decode cX0_remove 2 = .ok (.invokevirtual 26, 3) := by decide +kernel
theorem dX0_remove_5 : decode cX0_remove 5 = .ok (.ifCond .ne 4, 3) := by decide +kernel
theorem dX0_remove_8 : decode cX0_remove 8 = .ok (.return_, 1) := by decide +kernel
theorem dX0_remove_9 : decode cX0_remove 9 = .ok (.aload_n 0, 1) := by decide +kernel
theorem dX0_remove_10 : decode cX0_remove 10 = .ok (.getfield 22, 3) := by decide +kernel
theorem dX0_remove_13 : decode cX0_remove 13 = .ok (.iload_n 1, 1) := by decide +kernel
theorem dX0_remove_14 : decode cX0_remove 14 = .ok (.isub, 1) := by decide +kernel
theorem dX0_remove_15 : decode cX0_remove 15 = .ok (.iconst 1, 1) := by decide +kernel
theorem dX0_remove_16 : decode cX0_remove 16 = .ok (.isub, 1) := by decide +kernel
theorem dX0_remove_17 : decode cX0_remove 17 = .ok (.istore_n 2, 1) := by decide +kernel
theorem dX0_remove_18 : decode cX0_remove 18 = .ok (.aload_n 0, 1) := by decide +kernel
theorem dX0_remove_19 : decode cX0_remove 19 = .ok (.getfield 9, 3) := by decide +kernel
theorem dX0_remove_22 : decode cX0_remove 22 = .ok (.iload_n 1, 1) := by decide +kernel
theorem dX0_remove_23 : decode cX0_remove 23 = .ok (.iconst 1, 1) := by decide +kernel
theorem dX0_remove_24 : decode cX0_remove 24 = .ok (.iadd, 1) := by decide +kernel
theorem dX0_remove_25 : decode cX0_remove 25 = .ok (.aload_n 0, 1) := by decide +kernel
theorem dX0_remove_26 : decode cX0_remove 26 = .ok (.getfield 9, 3) := by decide +kernel
theorem dX0_remove_29 : decode cX0_remove 29 = .ok (.iload_n 1, 1) := by decide +kernel
theorem dX0_remove_30 : decode cX0_remove 30 = .ok (.iload_n 2, 1) := by decide +kernel
theorem dX0_remove_31 : decode cX0_remove 31 = .ok (.invokestatic 55, 3) := by decide +kernel
theorem dX0_remove_34 : decode cX0_remove 34 = .ok (.aload_n 0, 1) := by decide +kernel
theorem dX0_remove_35 : decode cX0_remove 35 = .ok (.getfield 15, 3) := by decide +kernel
theorem dX0_remove_38 : decode cX0_remove 38 = .ok (.iload_n 1, 1) := by decide +kernel
theorem dX0_remove_39 : decode cX0_remove 39 = .ok (.iconst 1, 1) := by decide +kernel
theorem dX0_remove_40 : decode cX0_remove 40 = .ok (.iadd, 1) := by decide +kernel
theorem dX0_remove_41 : decode cX0_remove 41 = .ok (.aload_n 0, 1) := by decide +kernel
theorem dX0_remove_42 : decode cX0_remove 42 = .ok (.getfield 15, 3) := by decide +kernel
theorem dX0_remove_45 : decode cX0_remove 45 = .ok (.iload_n 1, 1) := by decide +kernel
theorem dX0_remove_46 : decode cX0_remove 46 = .ok (.iload_n 2, 1) := by decide +kernel
theorem dX0_remove_47 : decode cX0_remove 47 = .ok (.invokestatic 55, 3) := by decide +kernel
theorem dX0_remove_50 : decode cX0_remove 50 = .ok (.aload_n 0, 1) := by decide +kernel
theorem dX0_remove_51 : decode cX0_remove 51 = .ok (.getfield 19, 3) := by decide +kernel
theorem dX0_remove_54 : decode cX0_remove 54 = .ok (.iload_n 1, 1) := by decide +kernel
theorem dX0_remove_55 : decode cX0_remove 55 = .ok (.iconst 1, 1) := by decide +kernel
theorem dX0_remove_56 : decode cX0_remove 56 = .ok (.iadd, 1) := by decide +kernel
theorem dX0_remove_57 : decode cX0_remove 57 = .ok (.aload_n 0, 1) := by decide +kernel
theorem dX0_remove_58 : decode cX0_remove 58 = .ok (.getfield 19, 3) := by decide +kernel
theorem dX0_remove_61 : decode cX0_remove 61 = .ok (.iload_n 1, 1) := by decide +kernel
theorem dX0_remove_62 : decode cX0_remove 62 = .ok (.iload_n 2, 1) := by decide +kernel
theorem dX0_remove_63 : decode cX0_remove 63 = .ok (.invokestatic 55, 3) := by decide +kernel
theorem dX0_remove_66 : decode cX0_remove 66 = .ok (.aload_n 0, 1) := by decide +kernel
theorem dX0_remove_67 : decode cX0_remove 67 = .ok (.dup, 1) := by decide +kernel
theorem dX0_remove_68 : decode cX0_remove 68 = .ok (.getfield 22, 3) := by decide +kernel
theorem dX0_remove_71 : decode cX0_remove 71 = .ok (.iconst 1, 1) := by decide +kernel
theorem dX0_remove_72 : decode cX0_remove 72 = .ok (.isub, 1) := by decide +kernel
theorem dX0_remove_73 : decode cX0_remove 73 = .ok (.putfield 22, 3) := by decide +kernel
theorem dX0_remove_76 : decode cX0_remove 76 = .ok (.return_, 1) := by decide +kernel
set_option maxRecDepth 20000 in
theorem ggX0_depthOf_X0_wordAt : GoodIn wsX0_depthOf wsX0_wordAt := goodIn_r _ [13, 14, 15, 16, 17, 12, 18, 1, 34, 35, 36, 37] (by decide +kernel) (by decide +kernel)
set_option maxRecDepth 20000 in
theorem gX0_depthOf_X0_wordAt : GoodIn wsX0_depthOf (wsV RX0 32 RX0 yX0_wordAt wsX0_wordAt) := goodIn_app (goodIn_of _ (by decide +kernel)) ggX0_depthOf_X0_wordAt
set_option maxRecDepth 20000 in
theorem ggX0_depthOf_X3_sharedBy : GoodIn wsX0_depthOf wsX3_sharedBy := goodIn_r _ [22, 23, 24, 21, 25, 26, 27, 28] (by decide +kernel) (by decide +kernel)
set_option maxRecDepth 20000 in
theorem gX0_depthOf_X3_sharedBy : GoodIn wsX0_depthOf (va_wsS RX0 61 yX3_sharedBy wsX3_sharedBy) := goodIn_app (goodIn_of _ (by decide +kernel)) ggX0_depthOf_X3_sharedBy
set_option maxRecDepth 20000 in
theorem ggX0_depthOf_X0_depthAt : GoodIn wsX0_depthOf wsX0_depthAt := goodIn_r _ [32, 33, 15, 16, 17, 12, 18, 1, 34, 35, 36, 37] (by decide +kernel) (by decide +kernel)
set_option maxRecDepth 20000 in
theorem gX0_depthOf_X0_depthAt : GoodIn wsX0_depthOf (wsV RX0 65 RX0 yX0_depthAt wsX0_depthAt) := goodIn_app (goodIn_of _ (by decide +kernel)) ggX0_depthOf_X0_depthAt
theorem dX0_depthOf_0 : decode cX0_depthOf 0 = .ok (.iconst 0, 1) := by decide +kernel
theorem dX0_depthOf_1 : decode cX0_depthOf 1 = .ok (.istore_n 3, 1) := by decide +kernel
theorem dX0_depthOf_2 : decode cX0_depthOf 2 = .ok (.iconst 0, 1) := by decide +kernel
theorem dX0_depthOf_3 : decode cX0_depthOf 3 = .ok (.istore 4, 2) := by decide +kernel
theorem dX0_depthOf_5 : decode cX0_depthOf 5 = .ok (.iload 4, 2) := by decide +kernel
theorem dX0_depthOf_7 : decode cX0_depthOf 7 = .ok (.aload_n 0, 1) := by decide +kernel
theorem dX0_depthOf_8 : decode cX0_depthOf 8 = .ok (.getfield 22, 3) := by decide +kernel
theorem dX0_depthOf_11 : decode cX0_depthOf 11 = .ok (.if_icmp .ge 39, 3) := by decide +kernel
theorem dX0_depthOf_14 : decode cX0_depthOf 14 = .ok (.aload_n 0, 1) := by decide +kernel
theorem dX0_depthOf_15 : decode cX0_depthOf 15 = .ok (.iload 4, 2) := by decide +kernel
theorem dX0_depthOf_17 : decode cX0_depthOf 17 = .ok (.invokevirtual 32, 3) := by decide +kernel
theorem dX0_depthOf_20 : decode cX0_depthOf 20 = .ok (.lload_n 1, 1) := by decide +kernel
theorem dX0_depthOf_21 : decode cX0_depthOf 21 = .ok (.invokestatic 61, 3) := by decide +kernel
theorem dX0_depthOf_24 : decode cX0_depthOf 24 = .ok (.iconst 1, 1) := by decide +kernel
theorem dX0_depthOf_25 : decode cX0_depthOf 25 = .ok (.iadd, 1) := by decide +kernel
theorem dX0_depthOf_26 : decode cX0_depthOf 26 = .ok (.istore 5, 2) := by decide +kernel
theorem dX0_depthOf_28 : decode cX0_depthOf 28 = .ok (.iload_n 3, 1) := by decide +kernel
theorem dX0_depthOf_29 : decode cX0_depthOf 29 = .ok (.iload 5, 2) := by decide +kernel
theorem dX0_depthOf_31 : decode cX0_depthOf 31 = .ok (.aload_n 0, 1) := by decide +kernel
theorem dX0_depthOf_32 : decode cX0_depthOf 32 = .ok (.iload 4, 2) := by decide +kernel
theorem dX0_depthOf_34 : decode cX0_depthOf 34 = .ok (.invokevirtual 65, 3) := by decide +kernel
theorem dX0_depthOf_37 : decode cX0_depthOf 37 = .ok (.invokestatic 68, 3) := by decide +kernel
theorem dX0_depthOf_40 : decode cX0_depthOf 40 = .ok (.invokestatic 74, 3) := by decide +kernel
theorem dX0_depthOf_43 : decode cX0_depthOf 43 = .ok (.istore_n 3, 1) := by decide +kernel
theorem dX0_depthOf_44 : decode cX0_depthOf 44 = .ok (.iinc 4 1, 3) := by decide +kernel
theorem dX0_depthOf_47 : decode cX0_depthOf 47 = .ok (.goto (-42), 3) := by decide +kernel
theorem dX0_depthOf_50 : decode cX0_depthOf 50 = .ok (.iload_n 3, 1) := by decide +kernel
theorem dX0_depthOf_51 : decode cX0_depthOf 51 = .ok (.ireturn, 1) := by decide +kernel
set_option maxRecDepth 20000 in
theorem ggX0_sharing_X0_wordAt : GoodIn wsX0_sharing wsX0_wordAt := goodIn_r _ [6, 7, 8, 9, 10, 5, 11, 1, 22, 23, 24, 25] (by decide +kernel) (by decide +kernel)
set_option maxRecDepth 20000 in
theorem gX0_sharing_X0_wordAt : GoodIn wsX0_sharing (wsV RX0 32 RX0 yX0_wordAt wsX0_wordAt) := goodIn_app (goodIn_of _ (by decide +kernel)) ggX0_sharing_X0_wordAt
set_option maxRecDepth 20000 in
theorem ggX0_sharing_X3_sharedBy : GoodIn wsX0_sharing wsX3_sharedBy := goodIn_r _ [15, 16, 17, 14, 18, 19, 20, 21] (by decide +kernel) (by decide +kernel)
set_option maxRecDepth 20000 in
theorem gX0_sharing_X3_sharedBy : GoodIn wsX0_sharing (va_wsS RX0 61 yX3_sharedBy wsX3_sharedBy) := goodIn_app (goodIn_of _ (by decide +kernel)) ggX0_sharing_X3_sharedBy
theorem dX0_sharing_0 : decode cX0_sharing 0 = .ok (.iconst 0, 1) := by decide +kernel
theorem dX0_sharing_1 : decode cX0_sharing 1 = .ok (.istore 4, 2) := by decide +kernel
theorem dX0_sharing_3 : decode cX0_sharing 3 = .ok (.iconst 0, 1) := by decide +kernel
theorem dX0_sharing_4 : decode cX0_sharing 4 = .ok (.istore 5, 2) := by decide +kernel
theorem dX0_sharing_6 : decode cX0_sharing 6 = .ok (.iload 5, 2) := by decide +kernel
theorem dX0_sharing_8 : decode cX0_sharing 8 = .ok (.aload_n 0, 1) := by decide +kernel
theorem dX0_sharing_9 : decode cX0_sharing 9 = .ok (.getfield 22, 3) := by decide +kernel
theorem dX0_sharing_12 : decode cX0_sharing 12 = .ok (.if_icmp .ge 26, 3) := by decide +kernel
theorem dX0_sharing_15 : decode cX0_sharing 15 = .ok (.aload_n 0, 1) := by decide +kernel
theorem dX0_sharing_16 : decode cX0_sharing 16 = .ok (.iload 5, 2) := by decide +kernel
theorem dX0_sharing_18 : decode cX0_sharing 18 = .ok (.invokevirtual 32, 3) := by decide +kernel
theorem dX0_sharing_21 : decode cX0_sharing 21 = .ok (.lload_n 1, 1) := by decide +kernel
theorem dX0_sharing_22 : decode cX0_sharing 22 = .ok (.invokestatic 61, 3) := by decide +kernel
theorem dX0_sharing_25 : decode cX0_sharing 25 = .ok (.iload_n 3, 1) := by decide +kernel
theorem dX0_sharing_26 : decode cX0_sharing 26 = .ok (.if_icmp .lt 6, 3) := by decide +kernel
theorem dX0_sharing_29 : decode cX0_sharing 29 = .ok (.iinc 4 1, 3) := by decide +kernel
theorem dX0_sharing_32 : decode cX0_sharing 32 = .ok (.iinc 5 1, 3) := by decide +kernel
theorem dX0_sharing_35 : decode cX0_sharing 35 = .ok (.goto (-29), 3) := by decide +kernel
theorem dX0_sharing_38 : decode cX0_sharing 38 = .ok (.iload 4, 2) := by decide +kernel
theorem dX0_sharing_40 : decode cX0_sharing 40 = .ok (.ireturn, 1) := by decide +kernel
set_option maxRecDepth 20000 in
theorem ggX0_burstDepth_X3_lengthOf : GoodIn wsX0_burstDepth wsX3_lengthOf := goodIn_r _ [4, 5, 6, 3, 7, 8, 9, 10] (by decide +kernel) (by decide +kernel)
set_option maxRecDepth 20000 in
theorem gX0_burstDepth_X3_lengthOf : GoodIn wsX0_burstDepth (va_wsS RX0 77 yX3_lengthOf wsX3_lengthOf) := goodIn_app (goodIn_of _ (by decide +kernel)) ggX0_burstDepth_X3_lengthOf
set_option maxRecDepth 20000 in
theorem ggX0_burstDepth_X0_sharing : GoodIn wsX0_burstDepth wsX0_sharing := goodIn_r _ [15, 16, 17, 18, 19, 14, 20, 21, 22, 23, 24, 25, 26, 27, 3, 28, 5, 6, 7, 8, 9, 10, 29, 30, 31, 32] (by decide +kernel) (by decide +kernel)
set_option maxRecDepth 20000 in
theorem gX0_burstDepth_X0_sharing : GoodIn wsX0_burstDepth (wsV RX0 80 RX0 yX0_sharing wsX0_sharing) := goodIn_app (goodIn_of _ (by decide +kernel)) ggX0_burstDepth_X0_sharing
theorem dX0_burstDepth_0 : decode cX0_burstDepth 0 = .ok (.lload_n 1, 1) := by decide +kernel
theorem dX0_burstDepth_1 : decode cX0_burstDepth 1 = .ok (.invokestatic 77, 3) := by decide +kernel
theorem dX0_burstDepth_4 : decode cX0_burstDepth 4 = .ok (.istore 5, 2) := by decide +kernel
theorem dX0_burstDepth_6 : decode cX0_burstDepth 6 = .ok (.iload_n 3, 1) := by decide +kernel
theorem dX0_burstDepth_7 : decode cX0_burstDepth 7 = .ok (.istore 6, 2) := by decide +kernel
theorem dX0_burstDepth_9 : decode cX0_burstDepth 9 = .ok (.iload 6, 2) := by decide +kernel
theorem dX0_burstDepth_11 : decode cX0_burstDepth 11 = .ok (.iload 5, 2) := by decide +kernel
theorem dX0_burstDepth_13 : decode cX0_burstDepth 13 = .ok (.if_icmp .gt 21, 3) := by decide +kernel
theorem dX0_burstDepth_16 : decode cX0_burstDepth 16 = .ok (.aload_n 0, 1) := by decide +kernel
theorem dX0_burstDepth_17 : decode cX0_burstDepth 17 = .ok (.lload_n 1, 1) := by decide +kernel
theorem dX0_burstDepth_18 : decode cX0_burstDepth 18 = .ok (.iload 6, 2) := by decide +kernel
theorem dX0_burstDepth_20 : decode cX0_burstDepth 20 = .ok (.invokevirtual 80, 3) := by decide +kernel
theorem dX0_burstDepth_23 : decode cX0_burstDepth 23 = .ok (.iload 4, 2) := by decide +kernel
theorem dX0_burstDepth_25 : decode cX0_burstDepth 25 = .ok (.if_icmp .le 9, 3) := by decide +kernel
theorem dX0_burstDepth_28 : decode cX0_burstDepth 28 = .ok (.iinc 6 1, 3) := by decide +kernel
theorem dX0_burstDepth_31 : decode cX0_burstDepth 31 = .ok (.goto (-22), 3) := by decide +kernel
theorem dX0_burstDepth_34 : decode cX0_burstDepth 34 = .ok (.iload 6, 2) := by decide +kernel
theorem dX0_burstDepth_36 : decode cX0_burstDepth 36 = .ok (.ireturn, 1) := by decide +kernel
set_option maxRecDepth 20000 in
theorem ggX0_mergedDepth_X0_sharing : GoodIn wsX0_mergedDepth wsX0_sharing := goodIn_r _ [5, 6, 7, 8, 9, 4, 10, 11, 12, 13, 14, 15, 16, 17, 18, 19, 20, 21, 22, 23, 24, 25, 26, 27, 28, 29] (by decide +kernel) (by decide +kernel)
set_option maxRecDepth 20000 in
theorem gX0_mergedDepth_X0_sharing : GoodIn wsX0_mergedDepth (wsV RX0 80 RX0 yX0_sharing wsX0_sharing) := goodIn_app (goodIn_of _ (by decide +kernel)) ggX0_mergedDepth_X0_sharing
theorem dX0_mergedDepth_0 : decode cX0_mergedDepth 0 = .ok (.iload_n 3, 1) := by decide +kernel
theorem dX0_mergedDepth_1 : decode cX0_mergedDepth 1 = .ok (.istore 5, 2) := by decide +kernel
theorem dX0_mergedDepth_3 : decode cX0_mergedDepth 3 = .ok (.iload 5, 2) := by decide +kernel
theorem dX0_mergedDepth_5 : decode cX0_mergedDepth 5 = .ok (.ifCond .le 23, 3) := by decide +kernel
theorem dX0_mergedDepth_8 : decode cX0_mergedDepth 8 = .ok (.aload_n 0, 1) := by decide +kernel
theorem dX0_mergedDepth_9 : decode cX0_mergedDepth 9 = .ok (.lload_n 1, 1) := by decide +kernel
theorem dX0_mergedDepth_10 : decode cX0_mergedDepth 10 = .ok (.iload 5, 2) := by decide +kernel
theorem dX0_mergedDepth_12 : decode cX0_mergedDepth 12 = .ok (.iconst 1, 1) := by decide +kernel
theorem dX0_mergedDepth_13 : decode cX0_mergedDepth 13 = .ok (.isub, 1) := by decide +kernel
theorem dX0_mergedDepth_14 : decode cX0_mergedDepth 14 = .ok (.invokevirtual 80, 3) := by decide +kernel
theorem dX0_mergedDepth_17 : decode cX0_mergedDepth 17 = .ok (.iload 4, 2) := by decide +kernel
theorem dX0_mergedDepth_19 : decode cX0_mergedDepth 19 = .ok (.if_icmp .gt 9, 3) := by decide +kernel
theorem dX0_mergedDepth_22 : decode cX0_mergedDepth 22 = .ok (.iinc 5 (-1), 3) := by decide +kernel
theorem dX0_mergedDepth_25 : decode cX0_mergedDepth 25 = .ok (.goto (-22), 3) := by decide +kernel
theorem dX0_mergedDepth_28 : decode cX0_mergedDepth 28 = .ok (.iload 5, 2) := by decide +kernel
theorem dX0_mergedDepth_30 : decode cX0_mergedDepth 30 = .ok (.ireturn, 1) := by decide +kernel
set_option maxRecDepth 20000 in
theorem ggX0_reshape_X3_sharedBy : GoodIn wsX0_reshape wsX3_sharedBy := goodIn_r _ [11, 12, 13, 10, 14, 15, 16, 17] (by decide +kernel) (by decide +kernel)
set_option maxRecDepth 20000 in
theorem gX0_reshape_X3_sharedBy : GoodIn wsX0_reshape (va_wsS RX0 61 yX3_sharedBy wsX3_sharedBy) := goodIn_app (goodIn_of _ (by decide +kernel)) ggX0_reshape_X3_sharedBy
theorem dX0_reshape_0 : decode cX0_reshape 0 = .ok (.iload_n 3, 1) := by decide +kernel
theorem dX0_reshape_1 : decode cX0_reshape 1 = .ok (.iload 4, 2) := by decide +kernel
theorem dX0_reshape_3 : decode cX0_reshape 3 = .ok (.invokestatic 68, 3) := by decide +kernel
theorem dX0_reshape_6 : decode cX0_reshape 6 = .ok (.istore 5, 2) := by decide +kernel
theorem dX0_reshape_8 : decode cX0_reshape 8 = .ok (.iconst 0, 1) := by decide +kernel
theorem dX0_reshape_9 : decode cX0_reshape 9 = .ok (.istore 6, 2) := by decide +kernel
theorem dX0_reshape_11 : decode cX0_reshape 11 = .ok (.iload 6, 2) := by decide +kernel
theorem dX0_reshape_13 : decode cX0_reshape 13 = .ok (.aload_n 0, 1) := by decide +kernel
theorem dX0_reshape_14 : decode cX0_reshape 14 = .ok (.getfield 22, 3) := by decide +kernel
theorem dX0_reshape_17 : decode cX0_reshape 17 = .ok (.if_icmp .ge 52, 3) := by decide +kernel
theorem dX0_reshape_20 : decode cX0_reshape 20 = .ok (.iload 6, 2) := by decide +kernel
theorem dX0_reshape_22 : decode cX0_reshape 22 = .ok (.bipush 40, 2) := by decide +kernel
theorem dX0_reshape_24 : decode cX0_reshape 24 = .ok (.if_icmp .ge 45, 3) := by decide +kernel
theorem dX0_reshape_27 : decode cX0_reshape 27 = .ok (.aload_n 0, 1) := by decide +kernel
theorem dX0_reshape_28 : decode cX0_reshape 28 = .ok (.getfield 9, 3) := by decide +kernel
theorem dX0_reshape_31 : decode cX0_reshape 31 = .ok (.iload 6, 2) := by decide +kernel
theorem dX0_reshape_33 : decode cX0_reshape 33 = .ok (.laload, 1) := by decide +kernel
theorem dX0_reshape_34 : decode cX0_reshape 34 = .ok (.lload_n 1, 1) := by decide +kernel
theorem dX0_reshape_35 : decode cX0_reshape 35 = .ok (.invokestatic 61, 3) := by decide +kernel
theorem dX0_reshape_38 : decode cX0_reshape 38 = .ok (.istore 7, 2) := by decide +kernel
theorem dX0_reshape_40 : decode cX0_reshape 40 = .ok (.iload 7, 2) := by decide +kernel
theorem dX0_reshape_42 : decode cX0_reshape 42 = .ok (.iload 5, 2) := by decide +kernel
theorem dX0_reshape_44 : decode cX0_reshape 44 = .ok (.if_icmp .lt 19, 3) := by decide +kernel
theorem dX0_reshape_47 : decode cX0_reshape 47 = .ok (.aload_n 0, 1) := by decide +kernel
theorem dX0_reshape_48 : decode cX0_reshape 48 = .ok (.getfield 19, 3) := by decide +kernel
theorem dX0_reshape_51 : decode cX0_reshape 51 = .ok (.iload 6, 2) := by decide +kernel
theorem dX0_reshape_53 : decode cX0_reshape 53 = .ok (.iload 4, 2) := by decide +kernel
theorem dX0_reshape_55 : decode cX0_reshape 55 = .ok (.iload 7, 2) := by decide +kernel
theorem dX0_reshape_57 : decode cX0_reshape 57 = .ok (.iconst 1, 1) := by decide +kernel
theorem dX0_reshape_58 : decode cX0_reshape 58 = .ok (.iadd, 1) := by decide +kernel
theorem dX0_reshape_59 : decode cX0_reshape 59 = .ok (.invokestatic 68, 3) := by decide +kernel
theorem dX0_reshape_62 : decode cX0_reshape 62 = .ok (.iastore, 1) := by decide +kernel
theorem dX0_reshape_63 : decode cX0_reshape 63 = .ok (.iinc 6 1, 3) := by decide +kernel
theorem dX0_reshape_66 : decode cX0_reshape 66 = .ok (.goto (-55), 3) := by decide +kernel
theorem dX0_reshape_69 : decode cX0_reshape 69 = .ok (.return_, 1) := by decide +kernel
set_option maxRecDepth 20000 in
theorem ggX0_oftenBelow_X0_oftenAt : GoodIn wsX0_oftenBelow wsX0_oftenAt := goodIn_r _ [6, 7, 8, 9, 10, 5, 11, 1, 12, 13, 14, 15] (by decide +kernel) (by decide +kernel)
set_option maxRecDepth 20000 in
theorem gX0_oftenBelow_X0_oftenAt : GoodIn wsX0_oftenBelow (wsV RX0 40 RX0 yX0_oftenAt wsX0_oftenAt) := goodIn_app (goodIn_of _ (by decide +kernel)) ggX0_oftenBelow_X0_oftenAt
theorem dX0_oftenBelow_0 : decode cX0_oftenBelow 0 = .ok (.iconst 0, 1) := by decide +kernel
theorem dX0_oftenBelow_1 : decode cX0_oftenBelow 1 = .ok (.istore_n 2, 1) := by decide +kernel
theorem dX0_oftenBelow_2 : decode cX0_oftenBelow 2 = .ok (.iconst 0, 1) := by decide +kernel
theorem dX0_oftenBelow_3 : decode cX0_oftenBelow 3 = .ok (.istore_n 3, 1) := by decide +kernel
theorem dX0_oftenBelow_4 : decode cX0_oftenBelow 4 = .ok (.iload_n 3, 1) := by decide +kernel
theorem dX0_oftenBelow_5 : decode cX0_oftenBelow 5 = .ok (.iload_n 1, 1) := by decide +kernel
theorem dX0_oftenBelow_6 : decode cX0_oftenBelow 6 = .ok (.if_icmp .ge 25, 3) := by decide +kernel
theorem dX0_oftenBelow_9 : decode cX0_oftenBelow 9 = .ok (.iload_n 3, 1) := by decide +kernel
theorem dX0_oftenBelow_10 : decode cX0_oftenBelow 10 = .ok (.aload_n 0, 1) := by decide +kernel
theorem dX0_oftenBelow_11 : decode cX0_oftenBelow 11 = .ok (.getfield 22, 3) := by decide +kernel
theorem dX0_oftenBelow_14 : decode cX0_oftenBelow 14 = .ok (.if_icmp .ge 17, 3) := by decide +kernel
theorem dX0_oftenBelow_17 : decode cX0_oftenBelow 17 = .ok (.iload_n 2, 1) := by decide +kernel
theorem dX0_oftenBelow_18 : decode cX0_oftenBelow 18 = .ok (.aload_n 0, 1) := by decide +kernel
theorem dX0_oftenBelow_19 : decode cX0_oftenBelow 19 = .ok (.iload_n 3, 1) := by decide +kernel
theorem dX0_oftenBelow_20 : decode cX0_oftenBelow 20 = .ok (.invokevirtual 40, 3) := by decide +kernel
theorem dX0_oftenBelow_23 : decode cX0_oftenBelow 23 = .ok (.iadd, 1) := by decide +kernel
theorem dX0_oftenBelow_24 : decode cX0_oftenBelow 24 = .ok (.istore_n 2, 1) := by decide +kernel
theorem dX0_oftenBelow_25 : decode cX0_oftenBelow 25 = .ok (.iinc 3 1, 3) := by decide +kernel
theorem dX0_oftenBelow_28 : decode cX0_oftenBelow 28 = .ok (.goto (-24), 3) := by decide +kernel
theorem dX0_oftenBelow_31 : decode cX0_oftenBelow 31 = .ok (.iload_n 2, 1) := by decide +kernel
theorem dX0_oftenBelow_32 : decode cX0_oftenBelow 32 = .ok (.ireturn, 1) := by decide +kernel
set_option maxRecDepth 20000 in
theorem ggX0_oftenBegun_X0_wordAt : GoodIn wsX0_oftenBegun wsX0_wordAt := goodIn_r _ [6, 7, 8, 9, 10, 5, 11, 1, 33, 34, 35, 36] (by decide +kernel) (by decide +kernel)
set_option maxRecDepth 20000 in
theorem gX0_oftenBegun_X0_wordAt : GoodIn wsX0_oftenBegun (wsV RX0 32 RX0 yX0_wordAt wsX0_wordAt) := goodIn_app (goodIn_of _ (by decide +kernel)) ggX0_oftenBegun_X0_wordAt
set_option maxRecDepth 20000 in
theorem ggX0_oftenBegun_X3_begins : GoodIn wsX0_oftenBegun wsX3_begins := goodIn_r _ [15, 16, 17, 14, 18, 19, 20, 21, 22, 23, 24, 25, 26, 27] (by decide +kernel) (by decide +kernel)
set_option maxRecDepth 20000 in
theorem gX0_oftenBegun_X3_begins : GoodIn wsX0_oftenBegun (va_wsS RX0 84 yX3_begins wsX3_begins) := goodIn_app (goodIn_of _ (by decide +kernel)) ggX0_oftenBegun_X3_begins
set_option maxRecDepth 20000 in
theorem ggX0_oftenBegun_X0_oftenAt : GoodIn wsX0_oftenBegun wsX0_oftenAt := goodIn_r _ [31, 32, 8, 9, 10, 5, 11, 1, 33, 34, 35, 36] (by decide +kernel) (by decide +kernel)
set_option maxRecDepth 20000 in
theorem gX0_oftenBegun_X0_oftenAt : GoodIn wsX0_oftenBegun (wsV RX0 40 RX0 yX0_oftenAt wsX0_oftenAt) := goodIn_app (goodIn_of _ (by decide +kernel)) ggX0_oftenBegun_X0_oftenAt
theorem dX0_oftenBegun_0 : decode cX0_oftenBegun 0 = .ok (.iconst 0, 1) := by decide +kernel
theorem dX0_oftenBegun_1 : decode cX0_oftenBegun 1 = .ok (.istore_n 3, 1) := by decide +kernel
theorem dX0_oftenBegun_2 : decode cX0_oftenBegun 2 = .ok (.iconst 0, 1) := by decide +kernel
theorem dX0_oftenBegun_3 : decode cX0_oftenBegun 3 = .ok (.istore 4, 2) := by decide +kernel
theorem dX0_oftenBegun_5 : decode cX0_oftenBegun 5 = .ok (.iload 4, 2) := by decide +kernel
theorem dX0_oftenBegun_7 : decode cX0_oftenBegun 7 = .ok (.aload_n 0, 1) := by decide +kernel
theorem dX0_oftenBegun_8 : decode cX0_oftenBegun 8 = .ok (.getfield 22, 3) := by decide +kernel
theorem dX0_oftenBegun_11 : decode cX0_oftenBegun 11 = .ok (.if_icmp .ge 31, 3) := by decide +kernel
theorem dX0_oftenBegun_14 : decode cX0_oftenBegun 14 = .ok (.lload_n 1, 1) := by decide +kernel
theorem dX0_oftenBegun_15 : decode cX0_oftenBegun 15 = .ok (.aload_n 0, 1) := by decide +kernel
theorem dX0_oftenBegun_16 : decode cX0_oftenBegun 16 = .ok (.iload 4, 2) := by decide +kernel
theorem dX0_oftenBegun_18 : decode cX0_oftenBegun 18 = .ok (.invokevirtual 32, 3) := by decide +kernel
theorem dX0_oftenBegun_21 : decode cX0_oftenBegun 21 = .ok (.invokestatic 84, 3) := by decide +kernel
theorem dX0_oftenBegun_24 : decode cX0_oftenBegun 24 = .ok (.ifCond .eq 12, 3) := by decide +kernel
theorem dX0_oftenBegun_27 : decode cX0_oftenBegun 27 = .ok (.iload_n 3, 1) := by decide +kernel
theorem dX0_oftenBegun_28 : decode cX0_oftenBegun 28 = .ok (.aload_n 0, 1) := by decide +kernel
theorem dX0_oftenBegun_29 : decode cX0_oftenBegun 29 = .ok (.iload 4, 2) := by decide +kernel
theorem dX0_oftenBegun_31 : decode cX0_oftenBegun 31 = .ok (.invokevirtual 40, 3) := by decide +kernel
theorem dX0_oftenBegun_34 : decode cX0_oftenBegun 34 = .ok (.iadd, 1) := by decide +kernel
theorem dX0_oftenBegun_35 : decode cX0_oftenBegun 35 = .ok (.istore_n 3, 1) := by decide +kernel
theorem dX0_oftenBegun_36 : decode cX0_oftenBegun 36 = .ok (.iinc 4 1, 3) := by decide +kernel
theorem dX0_oftenBegun_39 : decode cX0_oftenBegun 39 = .ok (.goto (-34), 3) := by decide +kernel
theorem dX0_oftenBegun_42 : decode cX0_oftenBegun 42 = .ok (.iload_n 3, 1) := by decide +kernel
theorem dX0_oftenBegun_43 : decode cX0_oftenBegun 43 = .ok (.ireturn, 1) := by decide +kernel
set_option maxRecDepth 20000 in
theorem ggX0_mostSharedWithOthers_X0_wordAt : GoodIn wsX0_mostSharedWithOthers wsX0_wordAt := goodIn_r _ [10, 11, 12, 13, 14, 9, 15, 1, 26, 27, 28, 29] (by decide +kernel) (by decide +kernel)
set_option maxRecDepth 20000 in
theorem gX0_mostSharedWithOthers_X0_wordAt : GoodIn wsX0_mostSharedWithOthers (wsV RX0 32 RX0 yX0_wordAt wsX0_wordAt) := goodIn_app (goodIn_of _ (by decide +kernel)) ggX0_mostSharedWithOthers_X0_wordAt
set_option maxRecDepth 20000 in
theorem ggX0_mostSharedWithOthers_X3_sharedBy : GoodIn wsX0_mostSharedWithOthers wsX3_sharedBy := goodIn_r _ [19, 20, 21, 18, 22, 23, 24, 25] (by decide +kernel) (by decide +kernel)
set_option maxRecDepth 20000 in
theorem gX0_mostSharedWithOthers_X3_sharedBy : GoodIn wsX0_mostSharedWithOthers (va_wsS RX0 61 yX3_sharedBy wsX3_sharedBy) := goodIn_app (goodIn_of _ (by decide +kernel)) ggX0_mostSharedWithOthers_X3_sharedBy
theorem dX0_mostSharedWithOthers_0 : decode cX0_mostSharedWithOthers 0 = .ok (.iconst (-1), 1) := by decide +kernel
theorem dX0_mostSharedWithOthers_1 : decode cX0_mostSharedWithOthers 1 = .ok (.istore_n 3, 1) := by decide +kernel
theorem dX0_mostSharedWithOthers_2 : decode cX0_mostSharedWithOthers 2 = .ok (.iconst 0, 1) := by decide +kernel
theorem dX0_mostSharedWithOthers_3 : decode cX0_mostSharedWithOthers 3 = .ok (.istore 4, 2) := by decide +kernel
theorem dX0_mostSharedWithOthers_5 : decode cX0_mostSharedWithOthers 5 = .ok (.iload 4, 2) := by decide +kernel
theorem dX0_mostSharedWithOthers_7 : decode cX0_mostSharedWithOthers 7 = .ok (.aload_n 0, 1) := by decide +kernel
theorem dX0_mostSharedWithOthers_8 : decode cX0_mostSharedWithOthers 8 = .ok (.getfield 22, 3) := by decide +kernel
theorem dX0_mostSharedWithOthers_11 : decode cX0_mostSharedWithOthers 11 = .ok (.if_icmp .ge 35, 3) := by decide +kernel
theorem dX0_mostSharedWithOthers_14 : decode cX0_mostSharedWithOthers 14 = .ok (.aload_n 0, 1) := by decide +kernel
theorem dX0_mostSharedWithOthers_15 : decode cX0_mostSharedWithOthers 15 = .ok (.iload 4, 2) := by decide +kernel
theorem dX0_mostSharedWithOthers_17 : decode cX0_mostSharedWithOthers 17 = .ok (.invokevirtual 32, 3) := by decide +kernel
theorem dX0_mostSharedWithOthers_20 : decode cX0_mostSharedWithOthers 20 = .ok (.lload_n 1, 1) := by decide +kernel
theorem dX0_mostSharedWithOthers_21 : decode cX0_mostSharedWithOthers 21 = .ok (.lcmp, 1) := by decide +kernel
theorem dX0_mostSharedWithOthers_22 : decode cX0_mostSharedWithOthers 22 = .ok (.ifCond .eq 18, 3) := by decide +kernel
theorem dX0_mostSharedWithOthers_25 : decode cX0_mostSharedWithOthers 25 = .ok (.iload_n 3, 1) := by decide +kernel
theorem dX0_mostSharedWithOthers_26 : decode cX0_mostSharedWithOthers 26 = .ok (.aload_n 0, 1) := by decide +kernel
theorem dX0_mostSharedWithOthers_27 : decode cX0_mostSharedWithOthers 27 = .ok (.iload 4, 2) := by decide +kernel
theorem dX0_mostSharedWithOthers_29 : decode cX0_mostSharedWithOthers 29 = .ok (.invokevirtual 32, 3) := by decide +kernel
theorem dX0_mostSharedWithOthers_32 : decode cX0_mostSharedWithOthers 32 = .ok (.lload_n 1, 1) := by decide +kernel
theorem dX0_mostSharedWithOthers_33 : decode cX0_mostSharedWithOthers 33 = .ok (.invokestatic 61, 3) := by decide +kernel
theorem dX0_mostSharedWithOthers_36 : decode cX0_mostSharedWithOthers 36 = .ok (.invokestatic 74, 3) := by decide +kernel
theorem dX0_mostSharedWithOthers_39 : decode cX0_mostSharedWithOthers 39 = .ok (.istore_n 3, 1) := by decide +kernel
theorem dX0_mostSharedWithOthers_40 : decode cX0_mostSharedWithOthers 40 = .ok (.iinc 4 1, 3) := by decide +kernel
theorem dX0_mostSharedWithOthers_43 : decode cX0_mostSharedWithOthers 43 = .ok (.goto (-38), 3) := by decide +kernel
theorem dX0_mostSharedWithOthers_46 : decode cX0_mostSharedWithOthers 46 = .ok (.iload_n 3, 1) := by decide +kernel
theorem dX0_mostSharedWithOthers_47 : decode cX0_mostSharedWithOthers 47 = .ok (.ireturn, 1) := by decide +kernel
set_option maxRecDepth 20000 in
theorem ggX0_longestIn_X0_wordAt : GoodIn wsX0_longestIn wsX0_wordAt := goodIn_r _ [10, 11, 12, 13, 14, 9, 15, 1, 33, 34, 35, 36] (by decide +kernel) (by decide +kernel)
set_option maxRecDepth 20000 in
theorem gX0_longestIn_X0_wordAt : GoodIn wsX0_longestIn (wsV RX0 32 RX0 yX0_wordAt wsX0_wordAt) := goodIn_app (goodIn_of _ (by decide +kernel)) ggX0_longestIn_X0_wordAt
set_option maxRecDepth 20000 in
theorem ggX0_longestIn_X3_begins : GoodIn wsX0_longestIn wsX3_begins := goodIn_r _ [19, 20, 21, 18, 22, 23, 24, 25, 26, 27, 28, 29, 30, 31] (by decide +kernel) (by decide +kernel)
set_option maxRecDepth 20000 in
theorem gX0_longestIn_X3_begins : GoodIn wsX0_longestIn (va_wsS RX0 84 yX3_begins wsX3_begins) := goodIn_app (goodIn_of _ (by decide +kernel)) ggX0_longestIn_X3_begins
set_option maxRecDepth 20000 in
theorem ggX0_longestIn_X3_lengthOf : GoodIn wsX0_longestIn wsX3_lengthOf := goodIn_r _ [31, 23, 24, 18, 25, 26, 27, 28] (by decide +kernel) (by decide +kernel)
set_option maxRecDepth 20000 in
theorem gX0_longestIn_X3_lengthOf : GoodIn wsX0_longestIn (va_wsS RX0 77 yX3_lengthOf wsX3_lengthOf) := goodIn_app (goodIn_of _ (by decide +kernel)) ggX0_longestIn_X3_lengthOf
theorem dX0_longestIn_0 : decode cX0_longestIn 0 = .ok (.iconst 0, 1) := by decide +kernel
theorem dX0_longestIn_1 : decode cX0_longestIn 1 = .ok (.istore_n 3, 1) := by decide +kernel
theorem dX0_longestIn_2 : decode cX0_longestIn 2 = .ok (.iconst 0, 1) := by decide +kernel
theorem dX0_longestIn_3 : decode cX0_longestIn 3 = .ok (.istore 4, 2) := by decide +kernel
theorem dX0_longestIn_5 : decode cX0_longestIn 5 = .ok (.iload 4, 2) := by decide +kernel
theorem dX0_longestIn_7 : decode cX0_longestIn 7 = .ok (.aload_n 0, 1) := by decide +kernel
theorem dX0_longestIn_8 : decode cX0_longestIn 8 = .ok (.getfield 22, 3) := by decide +kernel
theorem dX0_longestIn_11 : decode cX0_longestIn 11 = .ok (.if_icmp .ge 36, 3) := by decide +kernel
theorem dX0_longestIn_14 : decode cX0_longestIn 14 = .ok (.aload_n 0, 1) := by decide +kernel
theorem dX0_longestIn_15 : decode cX0_longestIn 15 = .ok (.iload 4, 2) := by decide +kernel
theorem dX0_longestIn_17 : decode cX0_longestIn 17 = .ok (.invokevirtual 32, 3) := by decide +kernel
theorem dX0_longestIn_20 : decode cX0_longestIn 20 = .ok (.lload_n 1, 1) := by decide +kernel
theorem dX0_longestIn_21 : decode cX0_longestIn 21 = .ok (.invokestatic 84, 3) := by decide +kernel
theorem dX0_longestIn_24 : decode cX0_longestIn 24 = .ok (.ifCond .eq 17, 3) := by decide +kernel
theorem dX0_longestIn_27 : decode cX0_longestIn 27 = .ok (.iload_n 3, 1) := by decide +kernel
theorem dX0_longestIn_28 : decode cX0_longestIn 28 = .ok (.aload_n 0, 1) := by decide +kernel
theorem dX0_longestIn_29 : decode cX0_longestIn 29 = .ok (.iload 4, 2) := by decide +kernel
theorem dX0_longestIn_31 : decode cX0_longestIn 31 = .ok (.invokevirtual 32, 3) := by decide +kernel
theorem dX0_longestIn_34 : decode cX0_longestIn 34 = .ok (.invokestatic 77, 3) := by decide +kernel
theorem dX0_longestIn_37 : decode cX0_longestIn 37 = .ok (.invokestatic 74, 3) := by decide +kernel
theorem dX0_longestIn_40 : decode cX0_longestIn 40 = .ok (.istore_n 3, 1) := by decide +kernel
theorem dX0_longestIn_41 : decode cX0_longestIn 41 = .ok (.iinc 4 1, 3) := by decide +kernel
theorem dX0_longestIn_44 : decode cX0_longestIn 44 = .ok (.goto (-39), 3) := by decide +kernel
theorem dX0_longestIn_47 : decode cX0_longestIn 47 = .ok (.iload_n 3, 1) := by decide +kernel
theorem dX0_longestIn_48 : decode cX0_longestIn 48 = .ok (.ireturn, 1) := by decide +kernel
set_option maxRecDepth 20000 in
theorem ggX0_alike_X3_lengthOf : GoodIn wsX0_alike wsX3_lengthOf := goodIn_r _ [5, 6, 7, 4, 8, 9, 10, 11] (by decide +kernel) (by decide +kernel)
set_option maxRecDepth 20000 in
theorem gX0_alike_X3_lengthOf : GoodIn wsX0_alike (va_wsS RX0 77 yX3_lengthOf wsX3_lengthOf) := goodIn_app (goodIn_of _ (by decide +kernel)) ggX0_alike_X3_lengthOf
set_option maxRecDepth 20000 in
theorem ggX0_alike_X0_wordAt : GoodIn wsX0_alike wsX0_wordAt := goodIn_r _ [16, 17, 18, 19, 20, 15, 21, 1, 25, 26, 27, 28] (by decide +kernel) (by decide +kernel)
set_option maxRecDepth 20000 in
theorem gX0_alike_X0_wordAt : GoodIn wsX0_alike (wsV RX0 32 RX0 yX0_wordAt wsX0_wordAt) := goodIn_app (goodIn_of _ (by decide +kernel)) ggX0_alike_X0_wordAt
set_option maxRecDepth 20000 in
theorem ggX0_alike_X3_differences : GoodIn wsX0_alike wsX3_differences := goodIn_r _ [24, 6, 7, 4, 8, 9, 10, 11] (by decide +kernel) (by decide +kernel)
set_option maxRecDepth 20000 in
theorem gX0_alike_X3_differences : GoodIn wsX0_alike (va_wsS RX0 88 yX3_differences wsX3_differences) := goodIn_app (goodIn_of _ (by decide +kernel)) ggX0_alike_X3_differences
theorem dX0_alike_0 : decode cX0_alike 0 = .ok (.lload_n 1, 1) := by decide +kernel
theorem dX0_alike_1 : decode cX0_alike 1 = .ok (.invokestatic 77, 3) := by decide +kernel
theorem dX0_alike_4 : decode cX0_alike 4 = .ok (.istore 4, 2) := by decide +kernel
theorem dX0_alike_6 : decode cX0_alike 6 = .ok (.iconst 0, 1) := by decide +kernel
theorem dX0_alike_7 : decode cX0_alike 7 = .ok (.istore 5, 2) := by decide +kernel
theorem dX0_alike_9 : decode cX0_alike 9 = .ok (.iconst 0, 1) := by decide +kernel
theorem dX0_alike_10 : decode cX0_alike 10 = .ok (.istore 6, 2) := by decide +kernel
theorem dX0_alike_12 : decode cX0_alike 12 = .ok (.iload 6, 2) := by decide +kernel
theorem dX0_alike_14 : decode cX0_alike 14 = .ok (.aload_n 0, 1) := by decide +kernel
theorem dX0_alike_15 : decode cX0_alike 15 = .ok (.getfield 22, 3) := by decide +kernel
theorem dX0_alike_18 : decode cX0_alike 18 = .ok (.if_icmp .ge 40, 3) := by decide +kernel
theorem dX0_alike_21 : decode cX0_alike 21 = .ok (.aload_n 0, 1) := by decide +kernel
theorem dX0_alike_22 : decode cX0_alike 22 = .ok (.iload 6, 2) := by decide +kernel
theorem dX0_alike_24 : decode cX0_alike 24 = .ok (.invokevirtual 32, 3) := by decide +kernel
theorem dX0_alike_27 : decode cX0_alike 27 = .ok (.invokestatic 77, 3) := by decide +kernel
theorem dX0_alike_30 : decode cX0_alike 30 = .ok (.iload 4, 2) := by decide +kernel
theorem dX0_alike_32 : decode cX0_alike 32 = .ok (.if_icmp .ne 20, 3) := by decide +kernel
theorem dX0_alike_35 : decode cX0_alike 35 = .ok (.aload_n 0, 1) := by decide +kernel
theorem dX0_alike_36 : decode cX0_alike 36 = .ok (.iload 6, 2) := by decide +kernel
theorem dX0_alike_38 : decode cX0_alike 38 = .ok (.invokevirtual 32, 3) := by decide +kernel
theorem dX0_alike_41 : decode cX0_alike 41 = .ok (.lload_n 1, 1) := by decide +kernel
theorem dX0_alike_42 : decode cX0_alike 42 = .ok (.invokestatic 88, 3) := by decide +kernel
theorem dX0_alike_45 : decode cX0_alike 45 = .ok (.iload_n 3, 1) := by decide +kernel
theorem dX0_alike_46 : decode cX0_alike 46 = .ok (.if_icmp .gt 6, 3) := by decide +kernel
theorem dX0_alike_49 : decode cX0_alike 49 = .ok (.iinc 5 1, 3) := by decide +kernel
theorem dX0_alike_52 : decode cX0_alike 52 = .ok (.iinc 6 1, 3) := by decide +kernel
theorem dX0_alike_55 : decode cX0_alike 55 = .ok (.goto (-43), 3) := by decide +kernel
theorem dX0_alike_58 : decode cX0_alike 58 = .ok (.iload 5, 2) := by decide +kernel
theorem dX0_alike_60 : decode cX0_alike 60 = .ok (.ireturn, 1) := by decide +kernel
set_option maxRecDepth 20000 in
theorem ggX0_holderOf_X0_oftenAt : GoodIn wsX0_holderOf wsX0_oftenAt := goodIn_r _ [6, 7, 8, 9, 10, 5, 11, 1, 12, 13, 14, 15] (by decide +kernel) (by decide +kernel)
set_option maxRecDepth 20000 in
theorem gX0_holderOf_X0_oftenAt : GoodIn wsX0_holderOf (wsV RX0 40 RX0 yX0_oftenAt wsX0_oftenAt) := goodIn_app (goodIn_of _ (by decide +kernel)) ggX0_holderOf_X0_oftenAt
theorem dX0_holderOf_0 : decode cX0_holderOf 0 = .ok (.iload_n 1, 1) := by decide +kernel
theorem dX0_holderOf_1 : decode cX0_holderOf 1 = .ok (.istore_n 2, 1) := by decide +kernel
theorem dX0_holderOf_2 : decode cX0_holderOf 2 = .ok (.iconst 0, 1) := by decide +kernel
theorem dX0_holderOf_3 : decode cX0_holderOf 3 = .ok (.istore_n 3, 1) := by decide +kernel
theorem dX0_holderOf_4 : decode cX0_holderOf 4 = .ok (.iload_n 3, 1) := by decide +kernel
theorem dX0_holderOf_5 : decode cX0_holderOf 5 = .ok (.aload_n 0, 1) := by decide +kernel
theorem dX0_holderOf_6 : decode cX0_holderOf 6 = .ok (.getfield 22, 3) := by decide +kernel
theorem dX0_holderOf_9 : decode cX0_holderOf 9 = .ok (.if_icmp .ge 28, 3) := by decide +kernel
theorem dX0_holderOf_12 : decode cX0_holderOf 12 = .ok (.iload_n 2, 1) := by decide +kernel
theorem dX0_holderOf_13 : decode cX0_holderOf 13 = .ok (.aload_n 0, 1) := by decide +kernel
theorem dX0_holderOf_14 : decode cX0_holderOf 14 = .ok (.iload_n 3, 1) := by decide +kernel
theorem dX0_holderOf_15 : decode cX0_holderOf 15 = .ok (.invokevirtual 40, 3) := by decide +kernel
theorem dX0_holderOf_18 : decode cX0_holderOf 18 = .ok (.if_icmp .ge 5, 3) := by decide +kernel
theorem dX0_holderOf_21 : decode cX0_holderOf 21 = .ok (.iload_n 3, 1) := by decide +kernel
theorem dX0_holderOf_22 : decode cX0_holderOf 22 = .ok (.ireturn, 1) := by decide +kernel
theorem dX0_holderOf_23 : decode cX0_holderOf 23 = .ok (.iload_n 2, 1) := by decide +kernel
theorem dX0_holderOf_24 : decode cX0_holderOf 24 = .ok (.aload_n 0, 1) := by decide +kernel
theorem dX0_holderOf_25 : decode cX0_holderOf 25 = .ok (.iload_n 3, 1) := by decide +kernel
theorem dX0_holderOf_26 : decode cX0_holderOf 26 = .ok (.invokevirtual 40, 3) := by decide +kernel
theorem dX0_holderOf_29 : decode cX0_holderOf 29 = .ok (.isub, 1) := by decide +kernel
theorem dX0_holderOf_30 : decode cX0_holderOf 30 = .ok (.istore_n 2, 1) := by decide +kernel
theorem dX0_holderOf_31 : decode cX0_holderOf 31 = .ok (.iinc 3 1, 3) := by decide +kernel
theorem dX0_holderOf_34 : decode cX0_holderOf 34 = .ok (.goto (-30), 3) := by decide +kernel
theorem dX0_holderOf_37 : decode cX0_holderOf 37 = .ok (.iconst (-1), 1) := by decide +kernel
theorem dX0_holderOf_38 : decode cX0_holderOf 38 = .ok (.ireturn, 1) := by decide +kernel
set_option maxRecDepth 20000 in
theorem ggX0_frequent_X0_wordAt : GoodIn wsX0_frequent wsX0_wordAt := goodIn_r _ [6, 7, 8, 9, 10, 5, 11, 1, 37, 38, 39, 40] (by decide +kernel) (by decide +kernel)
set_option maxRecDepth 20000 in
theorem gX0_frequent_X0_wordAt : GoodIn wsX0_frequent (wsV RX0 32 RX0 yX0_wordAt wsX0_wordAt) := goodIn_app (goodIn_of _ (by decide +kernel)) ggX0_frequent_X0_wordAt
set_option maxRecDepth 20000 in
theorem ggX0_frequent_X3_begins : GoodIn wsX0_frequent wsX3_begins := goodIn_r _ [15, 16, 17, 14, 18, 19, 20, 21, 22, 23, 24, 25, 26, 27] (by decide +kernel) (by decide +kernel)
set_option maxRecDepth 20000 in
theorem gX0_frequent_X3_begins : GoodIn wsX0_frequent (va_wsS RX0 84 yX3_begins wsX3_begins) := goodIn_app (goodIn_of _ (by decide +kernel)) ggX0_frequent_X3_begins
set_option maxRecDepth 20000 in
theorem ggX0_frequent_X0_moreFrequent : GoodIn wsX0_frequent wsX0_moreFrequent := goodIn_r _ [31, 1, 32, 33, 34, 5, 35, 36, 8, 9, 10, 11, 2, 3, 4, 6, 7, 12, 13, 14, 15, 16, 17, 18, 19, 20, 21, 22, 23, 24, 25, 26, 27, 37, 38, 39, 40] (by decide +kernel) (by decide +kernel)
set_option maxRecDepth 20000 in
theorem gX0_frequent_X0_moreFrequent : GoodIn wsX0_frequent (wsV RX0 91 RX0 yX0_moreFrequent wsX0_moreFrequent) := goodIn_app (goodIn_of _ (by decide +kernel)) ggX0_frequent_X0_moreFrequent
theorem dX0_frequent_0 : decode cX0_frequent 0 = .ok (.iconst 0, 1) := by decide +kernel
theorem dX0_frequent_1 : decode cX0_frequent 1 = .ok (.istore 4, 2) := by decide +kernel
theorem dX0_frequent_3 : decode cX0_frequent 3 = .ok (.iload 4, 2) := by decide +kernel
theorem dX0_frequent_5 : decode cX0_frequent 5 = .ok (.aload_n 0, 1) := by decide +kernel
theorem dX0_frequent_6 : decode cX0_frequent 6 = .ok (.getfield 22, 3) := by decide +kernel
theorem dX0_frequent_9 : decode cX0_frequent 9 = .ok (.if_icmp .ge 36, 3) := by decide +kernel
theorem dX0_frequent_12 : decode cX0_frequent 12 = .ok (.lload_n 1, 1) := by decide +kernel
theorem dX0_frequent_13 : decode cX0_frequent 13 = .ok (.aload_n 0, 1) := by decide +kernel
theorem dX0_frequent_14 : decode cX0_frequent 14 = .ok (.iload 4, 2) := by decide +kernel
theorem dX0_frequent_16 : decode cX0_frequent 16 = .ok (.invokevirtual 32, 3) := by decide +kernel
theorem dX0_frequent_19 : decode cX0_frequent 19 = .ok (.invokestatic 84, 3) := by decide +kernel
theorem dX0_frequent_22 : decode cX0_frequent 22 = .ok (.ifCond .eq 17, 3) := by decide +kernel
theorem dX0_frequent_25 : decode cX0_frequent 25 = .ok (.aload_n 0, 1) := by decide +kernel
theorem dX0_frequent_26 : decode cX0_frequent 26 = .ok (.lload_n 1, 1) := by decide +kernel
theorem dX0_frequent_27 : decode cX0_frequent 27 = .ok (.iload 4, 2) := by decide +kernel
theorem dX0_frequent_29 : decode cX0_frequent 29 = .ok (.invokevirtual 91, 3) := by decide +kernel
theorem dX0_frequent_32 : decode cX0_frequent 32 = .ok (.iload_n 3, 1) := by decide +kernel
theorem dX0_frequent_33 : decode cX0_frequent 33 = .ok (.if_icmp .ne 6, 3) := by decide +kernel
theorem dX0_frequent_36 : decode cX0_frequent 36 = .ok (.iload 4, 2) := by decide +kernel
theorem dX0_frequent_38 : decode cX0_frequent 38 = .ok (.ireturn, 1) := by decide +kernel
theorem dX0_frequent_39 : decode cX0_frequent 39 = .ok (.iinc 4 1, 3) := by decide +kernel
theorem dX0_frequent_42 : decode cX0_frequent 42 = .ok (.goto (-39), 3) := by decide +kernel
theorem dX0_frequent_45 : decode cX0_frequent 45 = .ok (.iconst (-1), 1) := by decide +kernel
theorem dX0_frequent_46 : decode cX0_frequent 46 = .ok (.ireturn, 1) := by decide +kernel
set_option maxRecDepth 20000 in
theorem ggX0_moreFrequent_X0_oftenAt : GoodIn wsX0_moreFrequent wsX0_oftenAt := goodIn_r _ [6, 7, 8, 9, 10, 5, 11, 1, 33, 34, 35, 36] (by decide +kernel) (by decide +kernel)
set_option maxRecDepth 20000 in
theorem gX0_moreFrequent_X0_oftenAt : GoodIn wsX0_moreFrequent (wsV RX0 40 RX0 yX0_oftenAt wsX0_oftenAt) := goodIn_app (goodIn_of _ (by decide +kernel)) ggX0_moreFrequent_X0_oftenAt
set_option maxRecDepth 20000 in
theorem ggX0_moreFrequent_X0_wordAt : GoodIn wsX0_moreFrequent wsX0_wordAt := goodIn_r _ [15, 16, 8, 9, 10, 5, 11, 1, 33, 34, 35, 36] (by decide +kernel) (by decide +kernel)
set_option maxRecDepth 20000 in
theorem gX0_moreFrequent_X0_wordAt : GoodIn wsX0_moreFrequent (wsV RX0 32 RX0 yX0_wordAt wsX0_wordAt) := goodIn_app (goodIn_of _ (by decide +kernel)) ggX0_moreFrequent_X0_wordAt
set_option maxRecDepth 20000 in
theorem ggX0_moreFrequent_X3_begins : GoodIn wsX0_moreFrequent wsX3_begins := goodIn_r _ [20, 21, 22, 19, 23, 24, 25, 26, 27, 28, 29, 30, 31, 32] (by decide +kernel) (by decide +kernel)
set_option maxRecDepth 20000 in
theorem gX0_moreFrequent_X3_begins : GoodIn wsX0_moreFrequent (va_wsS RX0 84 yX3_begins wsX3_begins) := goodIn_app (goodIn_of _ (by decide +kernel)) ggX0_moreFrequent_X3_begins
theorem dX0_moreFrequent_0 : decode cX0_moreFrequent 0 = .ok (.iconst 0, 1) := by decide +kernel
theorem dX0_moreFrequent_1 : decode cX0_moreFrequent 1 = .ok (.istore 4, 2) := by decide +kernel
theorem dX0_moreFrequent_3 : decode cX0_moreFrequent 3 = .ok (.iconst 0, 1) := by decide +kernel
theorem dX0_moreFrequent_4 : decode cX0_moreFrequent 4 = .ok (.istore 5, 2) := by decide +kernel
theorem dX0_moreFrequent_6 : decode cX0_moreFrequent 6 = .ok (.iload 5, 2) := by decide +kernel
theorem dX0_moreFrequent_8 : decode cX0_moreFrequent 8 = .ok (.aload_n 0, 1) := by decide +kernel
theorem dX0_moreFrequent_9 : decode cX0_moreFrequent 9 = .ok (.getfield 22, 3) := by decide +kernel
theorem dX0_moreFrequent_12 : decode cX0_moreFrequent 12 = .ok (.if_icmp .ge 71, 3) := by decide +kernel
theorem dX0_moreFrequent_15 : decode cX0_moreFrequent 15 = .ok (.aload_n 0, 1) := by decide +kernel
theorem dX0_moreFrequent_16 : decode cX0_moreFrequent 16 = .ok (.iload 5, 2) := by decide +kernel
theorem dX0_moreFrequent_18 : decode cX0_moreFrequent 18 = .ok (.invokevirtual 40, 3) := by decide +kernel
theorem dX0_moreFrequent_21 : decode cX0_moreFrequent 21 = .ok (.aload_n 0, 1) := by decide +kernel
theorem dX0_moreFrequent_22 : decode cX0_moreFrequent 22 = .ok (.iload_n 3, 1) := by decide +kernel
theorem dX0_moreFrequent_23 : decode cX0_moreFrequent 23 = .ok (.invokevirtual 40, 3) := by decide +kernel
theorem dX0_moreFrequent_26 : decode cX0_moreFrequent 26 = .ok (.if_icmp .gt 23, 3) := by decide +kernel
theorem dX0_moreFrequent_29 : decode cX0_moreFrequent 29 = .ok (.aload_n 0, 1) := by decide +kernel
theorem dX0_moreFrequent_30 : decode cX0_moreFrequent 30 = .ok (.iload 5, 2) := by decide +kernel
theorem dX0_moreFrequent_32 : decode cX0_moreFrequent 32 = .ok (.invokevirtual 40, 3) := by decide +kernel
theorem dX0_moreFrequent_35 : decode cX0_moreFrequent 35 = .ok (.aload_n 0, 1) := by decide +kernel
theorem dX0_moreFrequent_36 : decode cX0_moreFrequent 36 = .ok (.iload_n 3, 1) := by decide +kernel
theorem dX0_moreFrequent_37 : decode cX0_moreFrequent 37 = .ok (.invokevirtual 40, 3) := by decide +kernel
theorem dX0_moreFrequent_40 : decode cX0_moreFrequent 40 = .ok (.if_icmp .ne 13, 3) := by decide +kernel
theorem dX0_moreFrequent_43 : decode cX0_moreFrequent 43 = .ok (.iload 5, 2) := by decide +kernel
theorem dX0_moreFrequent_45 : decode cX0_moreFrequent 45 = .ok (.iload_n 3, 1) := by decide +kernel
theorem dX0_moreFrequent_46 : decode cX0_moreFrequent 46 = .ok (.if_icmp .ge 7, 3) := by decide +kernel
theorem dX0_moreFrequent_49 : decode cX0_moreFrequent 49 = .ok (.iconst 1, 1) := by decide +kernel
theorem dX0_moreFrequent_50 : decode cX0_moreFrequent 50 = .ok (.goto 4, 3) := by decide +kernel
theorem dX0_moreFrequent_53 : decode cX0_moreFrequent 53 = .ok (.iconst 0, 1) := by decide +kernel
theorem dX0_moreFrequent_54 : decode cX0_moreFrequent 54 = .ok (.istore 6, 2) := by decide +kernel
theorem dX0_moreFrequent_56 : decode cX0_moreFrequent 56 = .ok (.iload 6, 2) := by decide +kernel
theorem dX0_moreFrequent_58 : decode cX0_moreFrequent 58 = .ok (.ifCond .eq 19, 3) := by decide +kernel
theorem dX0_moreFrequent_61 : decode cX0_moreFrequent 61 = .ok (.lload_n 1, 1) := by decide +kernel
theorem dX0_moreFrequent_62 : decode cX0_moreFrequent 62 = .ok (.aload_n 0, 1) := by decide +kernel
theorem dX0_moreFrequent_63 : decode cX0_moreFrequent 63 = .ok (.iload 5, 2) := by decide +kernel
theorem dX0_moreFrequent_65 : decode cX0_moreFrequent 65 = .ok (.invokevirtual 32, 3) := by decide +kernel
theorem dX0_moreFrequent_68 : decode cX0_moreFrequent 68 = .ok (.invokestatic 84, 3) := by decide +kernel
theorem dX0_moreFrequent_71 : decode cX0_moreFrequent 71 = .ok (.ifCond .eq 6, 3) := by decide +kernel
theorem dX0_moreFrequent_74 : decode cX0_moreFrequent 74 = .ok (.iinc 4 1, 3) := by decide +kernel
theorem dX0_moreFrequent_77 : decode cX0_moreFrequent 77 = .ok (.iinc 5 1, 3) := by decide +kernel
theorem dX0_moreFrequent_80 : decode cX0_moreFrequent 80 = .ok (.goto (-74), 3) := by decide +kernel
theorem dX0_moreFrequent_83 : decode cX0_moreFrequent 83 = .ok (.iload 4, 2) := by decide +kernel
theorem dX0_moreFrequent_85 : decode cX0_moreFrequent 85 = .ok (.ireturn, 1) := by decide +kernel
set_option maxRecDepth 20000 in
theorem ggX0_sharedAhead_X0_wordAt : GoodIn wsX0_sharedAhead wsX0_wordAt := goodIn_r _ [5, 6, 7, 8, 9, 4, 10, 11, 22, 23, 24, 25] (by decide +kernel) (by decide +kernel)
set_option maxRecDepth 20000 in
theorem gX0_sharedAhead_X0_wordAt : GoodIn wsX0_sharedAhead (wsV RX0 32 RX0 yX0_wordAt wsX0_wordAt) := goodIn_app (goodIn_of _ (by decide +kernel)) ggX0_sharedAhead_X0_wordAt
set_option maxRecDepth 20000 in
theorem ggX0_sharedAhead_X3_sharedBy : GoodIn wsX0_sharedAhead wsX3_sharedBy := goodIn_r _ [15, 16, 17, 14, 18, 19, 20, 21] (by decide +kernel) (by decide +kernel)
set_option maxRecDepth 20000 in
theorem gX0_sharedAhead_X3_sharedBy : GoodIn wsX0_sharedAhead (va_wsS RX0 61 yX3_sharedBy wsX3_sharedBy) := goodIn_app (goodIn_of _ (by decide +kernel)) ggX0_sharedAhead_X3_sharedBy
theorem dX0_sharedAhead_0 : decode cX0_sharedAhead 0 = .ok (.iload_n 1, 1) := by decide +kernel
theorem dX0_sharedAhead_1 : decode cX0_sharedAhead 1 = .ok (.ifCond .gt 7, 3) := by decide +kernel
theorem dX0_sharedAhead_4 : decode cX0_sharedAhead 4 = .ok (.iconst (-1), 1) := by decide +kernel
theorem dX0_sharedAhead_5 : decode cX0_sharedAhead 5 = .ok (.goto 18, 3) := by decide +kernel
theorem dX0_sharedAhead_8 : decode cX0_sharedAhead 8 = .ok (.aload_n 0, 1) := by decide +kernel
theorem dX0_sharedAhead_9 : decode cX0_sharedAhead 9 = .ok (.iload_n 1, 1) := by decide +kernel
theorem dX0_sharedAhead_10 : decode cX0_sharedAhead 10 = .ok (.iconst 1, 1) := by decide +kernel
theorem dX0_sharedAhead_11 : decode cX0_sharedAhead 11 = .ok (.isub, 1) := by decide +kernel
theorem dX0_sharedAhead_12 : decode cX0_sharedAhead 12 = .ok (.invokevirtual 32, 3) := by decide +kernel
theorem dX0_sharedAhead_15 : decode cX0_sharedAhead 15 = .ok (.aload_n 0, 1) := by decide +kernel
theorem dX0_sharedAhead_16 : decode cX0_sharedAhead 16 = .ok (.iload_n 1, 1) := by decide +kernel
theorem dX0_sharedAhead_17 : decode cX0_sharedAhead 17 = .ok (.invokevirtual 32, 3) := by decide +kernel
theorem dX0_sharedAhead_20 : decode cX0_sharedAhead 20 = .ok (.invokestatic 61, 3) := by decide +kernel
theorem dX0_sharedAhead_23 : decode cX0_sharedAhead 23 = .ok (.ireturn, 1) := by decide +kernel
set_option maxRecDepth 20000 in
theorem ggX0_nodes_X0_depthAt : GoodIn wsX0_nodes wsX0_depthAt := goodIn_r _ [10, 11, 12, 13, 14, 9, 15, 1, 35, 36, 37, 38] (by decide +kernel) (by decide +kernel)
set_option maxRecDepth 20000 in
theorem gX0_nodes_X0_depthAt : GoodIn wsX0_nodes (wsV RX0 65 RX0 yX0_depthAt wsX0_depthAt) := goodIn_app (goodIn_of _ (by decide +kernel)) ggX0_nodes_X0_depthAt
set_option maxRecDepth 20000 in
theorem ggX0_nodes_X0_sharedAhead : GoodIn wsX0_nodes wsX0_sharedAhead := goodIn_r _ [19, 20, 21, 22, 9, 23, 24, 12, 13, 14, 15, 1, 25, 26, 27, 28, 29, 30, 31, 32, 33, 34, 35, 36, 37, 38] (by decide +kernel) (by decide +kernel)
set_option maxRecDepth 20000 in
theorem gX0_nodes_X0_sharedAhead : GoodIn wsX0_nodes (wsV RX0 94 RX0 yX0_sharedAhead wsX0_sharedAhead) := goodIn_app (goodIn_of _ (by decide +kernel)) ggX0_nodes_X0_sharedAhead
theorem dX0_nodes_0 : decode cX0_nodes 0 = .ok (.iconst 0, 1) := by decide +kernel
theorem dX0_nodes_1 : decode cX0_nodes 1 = .ok (.istore_n 1, 1) := by decide +kernel
theorem dX0_nodes_2 : decode cX0_nodes 2 = .ok (.iconst 0, 1) := by decide +kernel
theorem dX0_nodes_3 : decode cX0_nodes 3 = .ok (.istore_n 2, 1) := by decide +kernel
theorem dX0_nodes_4 : decode cX0_nodes 4 = .ok (.iload_n 2, 1) := by decide +kernel
theorem dX0_nodes_5 : decode cX0_nodes 5 = .ok (.aload_n 0, 1) := by decide +kernel
theorem dX0_nodes_6 : decode cX0_nodes 6 = .ok (.getfield 22, 3) := by decide +kernel
theorem dX0_nodes_9 : decode cX0_nodes 9 = .ok (.if_icmp .ge 29, 3) := by decide +kernel
theorem dX0_nodes_12 : decode cX0_nodes 12 = .ok (.iload_n 1, 1) := by decide +kernel
theorem dX0_nodes_13 : decode cX0_nodes 13 = .ok (.iconst 0, 1) := by decide +kernel
theorem dX0_nodes_14 : decode cX0_nodes 14 = .ok (.aload_n 0, 1) := by decide +kernel
theorem dX0_nodes_15 : decode cX0_nodes 15 = .ok (.iload_n 2, 1) := by decide +kernel
theorem dX0_nodes_16 : decode cX0_nodes 16 = .ok (.invokevirtual 65, 3) := by decide +kernel
theorem dX0_nodes_19 : decode cX0_nodes 19 = .ok (.aload_n 0, 1) := by decide +kernel
theorem dX0_nodes_20 : decode cX0_nodes 20 = .ok (.iload_n 2, 1) := by decide +kernel
theorem dX0_nodes_21 : decode cX0_nodes 21 = .ok (.invokevirtual 94, 3) := by decide +kernel
theorem dX0_nodes_24 : decode cX0_nodes 24 = .ok (.iconst 1, 1) := by decide +kernel
theorem dX0_nodes_25 : decode cX0_nodes 25 = .ok (.iadd, 1) := by decide +kernel
theorem dX0_nodes_26 : decode cX0_nodes 26 = .ok (.isub, 1) := by decide +kernel
theorem dX0_nodes_27 : decode cX0_nodes 27 = .ok (.invokestatic 74, 3) := by decide +kernel
theorem dX0_nodes_30 : decode cX0_nodes 30 = .ok (.iadd, 1) := by decide +kernel
theorem dX0_nodes_31 : decode cX0_nodes 31 = .ok (.istore_n 1, 1) := by decide +kernel
theorem dX0_nodes_32 : decode cX0_nodes 32 = .ok (.iinc 2 1, 3) := by decide +kernel
theorem dX0_nodes_35 : decode cX0_nodes 35 = .ok (.goto (-31), 3) := by decide +kernel
theorem dX0_nodes_38 : decode cX0_nodes 38 = .ok (.iload_n 1, 1) := by decide +kernel
theorem dX0_nodes_39 : decode cX0_nodes 39 = .ok (.ireturn, 1) := by decide +kernel
set_option maxRecDepth 20000 in
theorem ggX0_isContained_X0_depthAt : GoodIn wsX0_isContained wsX0_depthAt := goodIn_r _ [5, 6, 7, 8, 9, 4, 10, 11, 27, 28, 29, 30] (by decide +kernel) (by decide +kernel)
set_option maxRecDepth 20000 in
theorem gX0_isContained_X0_depthAt : GoodIn wsX0_isContained (wsV RX0 65 RX0 yX0_depthAt wsX0_depthAt) := goodIn_app (goodIn_of _ (by decide +kernel)) ggX0_isContained_X0_depthAt
set_option maxRecDepth 20000 in
theorem ggX0_isContained_X0_wordAt : GoodIn wsX0_isContained wsX0_wordAt := goodIn_r _ [15, 16, 7, 8, 9, 4, 10, 11, 27, 28, 29, 30] (by decide +kernel) (by decide +kernel)
set_option maxRecDepth 20000 in
theorem gX0_isContained_X0_wordAt : GoodIn wsX0_isContained (wsV RX0 32 RX0 yX0_wordAt wsX0_wordAt) := goodIn_app (goodIn_of _ (by decide +kernel)) ggX0_isContained_X0_wordAt
set_option maxRecDepth 20000 in
theorem ggX0_isContained_X3_lengthOf : GoodIn wsX0_isContained wsX3_lengthOf := goodIn_r _ [20, 21, 22, 19, 23, 24, 25, 26] (by decide +kernel) (by decide +kernel)
set_option maxRecDepth 20000 in
theorem gX0_isContained_X3_lengthOf : GoodIn wsX0_isContained (va_wsS RX0 77 yX3_lengthOf wsX3_lengthOf) := goodIn_app (goodIn_of _ (by decide +kernel)) ggX0_isContained_X3_lengthOf
theorem dX0_isContained_0 : decode cX0_isContained 0 = .ok (.aload_n 0, 1) := by decide +kernel
theorem dX0_isContained_1 : decode cX0_isContained 1 = .ok (.iload_n 1, 1) := by decide +kernel
theorem dX0_isContained_2 : decode cX0_isContained 2 = .ok (.invokevirtual 65, 3) := by decide +kernel
theorem dX0_isContained_5 : decode cX0_isContained 5 = .ok (.aload_n 0, 1) := by decide +kernel
theorem dX0_isContained_6 : decode cX0_isContained 6 = .ok (.iload_n 1, 1) := by decide +kernel
theorem dX0_isContained_7 : decode cX0_isContained 7 = .ok (.invokevirtual 32, 3) := by decide +kernel
theorem dX0_isContained_10 : decode cX0_isContained 10 = .ok (.invokestatic 77, 3) := by decide +kernel
theorem dX0_isContained_13 : decode cX0_isContained 13 = .ok (.if_icmp .gt 7, 3) := by decide +kernel
theorem dX0_isContained_16 : decode cX0_isContained 16 = .ok (.iconst 1, 1) := by decide +kernel
theorem dX0_isContained_17 : decode cX0_isContained 17 = .ok (.goto 4, 3) := by decide +kernel
theorem dX0_isContained_20 : decode cX0_isContained 20 = .ok (.iconst 0, 1) := by decide +kernel
theorem dX0_isContained_21 : decode cX0_isContained 21 = .ok (.ireturn, 1) := by decide +kernel
set_option maxRecDepth 20000 in
theorem ggX0_opensContainer_X0_isContained : GoodIn wsX0_opensContainer wsX0_isContained := goodIn_r _ [5, 6, 7, 8, 4, 9, 10, 11, 12, 13, 14, 15, 16, 17, 18, 19, 20, 21, 22, 23, 24, 25, 26, 27, 28, 29, 30, 38, 39, 40, 41] (by decide +kernel) (by decide +kernel)
set_option maxRecDepth 20000 in
theorem gX0_opensContainer_X0_isContained : GoodIn wsX0_opensContainer (wsV RX0 97 RX0 yX0_isContained wsX0_isContained) := goodIn_app (goodIn_of _ (by decide +kernel)) ggX0_opensContainer_X0_isContained
set_option maxRecDepth 20000 in
theorem ggX0_opensContainer_X0_sharedAhead : GoodIn wsX0_opensContainer wsX0_sharedAhead := goodIn_r _ [34, 16, 17, 18, 4, 19, 20, 11, 12, 13, 14, 15, 35, 36, 23, 37, 25, 26, 27, 28, 29, 30, 38, 39, 40, 41] (by decide +kernel) (by decide +kernel)
set_option maxRecDepth 20000 in
theorem gX0_opensContainer_X0_sharedAhead : GoodIn wsX0_opensContainer (wsV RX0 94 RX0 yX0_sharedAhead wsX0_sharedAhead) := goodIn_app (goodIn_of _ (by decide +kernel)) ggX0_opensContainer_X0_sharedAhead
set_option maxRecDepth 20000 in
theorem ggX0_opensContainer_X0_depthAt : GoodIn wsX0_opensContainer wsX0_depthAt := goodIn_r _ [9, 10, 11, 12, 13, 4, 14, 15, 38, 39, 40, 41] (by decide +kernel) (by decide +kernel)
set_option maxRecDepth 20000 in
theorem gX0_opensContainer_X0_depthAt : GoodIn wsX0_opensContainer (wsV RX0 65 RX0 yX0_depthAt wsX0_depthAt) := goodIn_app (goodIn_of _ (by decide +kernel)) ggX0_opensContainer_X0_depthAt
theorem dX0_opensContainer_0 : decode cX0_opensContainer 0 = .ok (.aload_n 0, 1) := by decide +kernel
theorem dX0_opensContainer_1 : decode cX0_opensContainer 1 = .ok (.iload_n 1, 1) := by decide +kernel
theorem dX0_opensContainer_2 : decode cX0_opensContainer 2 = .ok (.invokevirtual 97, 3) := by decide +kernel
theorem dX0_opensContainer_5 : decode cX0_opensContainer 5 = .ok (.ifCond .eq 20, 3) := by decide +kernel
theorem dX0_opensContainer_8 : decode cX0_opensContainer 8 = .ok (.aload_n 0, 1) := by decide +kernel
theorem dX0_opensContainer_9 : decode cX0_opensContainer 9 = .ok (.iload_n 1, 1) := by decide +kernel
theorem dX0_opensContainer_10 : decode cX0_opensContainer 10 = .ok (.invokevirtual 94, 3) := by decide +kernel
theorem dX0_opensContainer_13 : decode cX0_opensContainer 13 = .ok (.aload_n 0, 1) := by decide +kernel
theorem dX0_opensContainer_14 : decode cX0_opensContainer 14 = .ok (.iload_n 1, 1) := by decide +kernel
theorem dX0_opensContainer_15 : decode cX0_opensContainer 15 = .ok (.invokevirtual 65, 3) := by decide +kernel
theorem dX0_opensContainer_18 : decode cX0_opensContainer 18 = .ok (.if_icmp .ge 7, 3) := by decide +kernel
theorem dX0_opensContainer_21 : decode cX0_opensContainer 21 = .ok (.iconst 1, 1) := by decide +kernel
theorem dX0_opensContainer_22 : decode cX0_opensContainer 22 = .ok (.goto 4, 3) := by decide +kernel
theorem dX0_opensContainer_25 : decode cX0_opensContainer 25 = .ok (.iconst 0, 1) := by decide +kernel
theorem dX0_opensContainer_26 : decode cX0_opensContainer 26 = .ok (.ireturn, 1) := by decide +kernel
set_option maxRecDepth 20000 in
theorem ggX0_containers_X0_opensContainer : GoodIn wsX0_containers wsX0_opensContainer := goodIn_r _ [6, 7, 8, 9, 5, 10, 11, 12, 13, 14, 15, 16, 17, 18, 19, 1, 20, 21, 22, 23, 24, 25, 26, 27, 28, 29, 30, 31, 32, 33, 34, 35, 36, 37, 38, 39, 40, 41, 42, 43, 44, 45] (by decide +kernel) (by decide +kernel)
set_option maxRecDepth 20000 in
theorem gX0_containers_X0_opensContainer : GoodIn wsX0_containers (wsV RX0 100 RX0 yX0_opensContainer wsX0_opensContainer) := goodIn_app (goodIn_of _ (by decide +kernel)) ggX0_containers_X0_opensContainer
theorem dX0_containers_0 : decode cX0_containers 0 = .ok (.iconst 0, 1) := by decide +kernel
theorem dX0_containers_1 : decode cX0_containers 1 = .ok (.istore_n 1, 1) := by decide +kernel
theorem dX0_containers_2 : decode cX0_containers 2 = .ok (.iconst 0, 1) := by decide +kernel
theorem dX0_containers_3 : decode cX0_containers 3 = .ok (.istore_n 2, 1) := by decide +kernel
theorem dX0_containers_4 : decode cX0_containers 4 = .ok (.iload_n 2, 1) := by decide +kernel
theorem dX0_containers_5 : decode cX0_containers 5 = .ok (.aload_n 0, 1) := by decide +kernel
theorem dX0_containers_6 : decode cX0_containers 6 = .ok (.getfield 22, 3) := by decide +kernel
theorem dX0_containers_9 : decode cX0_containers 9 = .ok (.if_icmp .ge 20, 3) := by decide +kernel
theorem dX0_containers_12 : decode cX0_containers 12 = .ok (.aload_n 0, 1) := by decide +kernel
theorem dX0_containers_13 : decode cX0_containers 13 = .ok (.iload_n 2, 1) := by decide +kernel
theorem dX0_containers_14 : decode cX0_containers 14 = .ok (.invokevirtual 100, 3) := by decide +kernel
theorem dX0_containers_17 : decode cX0_containers 17 = .ok (.ifCond .eq 6, 3) := by decide +kernel
theorem dX0_containers_20 : decode cX0_containers 20 = .ok (.iinc 1 1, 3) := by decide +kernel
theorem dX0_containers_23 : decode cX0_containers 23 = .ok (.iinc 2 1, 3) := by decide +kernel
theorem dX0_containers_26 : decode cX0_containers 26 = .ok (.goto (-22), 3) := by decide +kernel
theorem dX0_containers_29 : decode cX0_containers 29 = .ok (.iload_n 1, 1) := by decide +kernel
theorem dX0_containers_30 : decode cX0_containers 30 = .ok (.ireturn, 1) := by decide +kernel
set_option maxRecDepth 20000 in
theorem ggX0_fullest_X0_isContained : GoodIn wsX0_fullest wsX0_isContained := goodIn_r _ [10, 11, 12, 13, 9, 14, 15, 16, 17, 18, 19, 1, 20, 21, 22, 23, 24, 25, 26, 27, 28, 29, 30, 31, 32, 33, 34, 46, 47, 48, 49] (by decide +kernel) (by decide +kernel)
set_option maxRecDepth 20000 in
theorem gX0_fullest_X0_isContained : GoodIn wsX0_fullest (wsV RX0 97 RX0 yX0_isContained wsX0_isContained) := goodIn_app (goodIn_of _ (by decide +kernel)) ggX0_fullest_X0_isContained
set_option maxRecDepth 20000 in
theorem ggX0_fullest_X0_opensContainer : GoodIn wsX0_fullest wsX0_opensContainer := goodIn_r _ [38, 6, 7, 8, 9, 10, 11, 12, 13, 14, 15, 16, 17, 18, 19, 1, 20, 21, 22, 23, 24, 25, 26, 27, 28, 29, 30, 31, 32, 33, 34, 39, 40, 41, 42, 43, 44, 45, 46, 47, 48, 49] (by decide +kernel) (by decide +kernel)
set_option maxRecDepth 20000 in
theorem gX0_fullest_X0_opensContainer : GoodIn wsX0_fullest (wsV RX0 100 RX0 yX0_opensContainer wsX0_opensContainer) := goodIn_app (goodIn_of _ (by decide +kernel)) ggX0_fullest_X0_opensContainer
theorem dX0_fullest_0 : decode cX0_fullest 0 = .ok (.iconst 0, 1) := by decide +kernel
theorem dX0_fullest_1 : decode cX0_fullest 1 = .ok (.istore_n 1, 1) := by decide +kernel
theorem dX0_fullest_2 : decode cX0_fullest 2 = .ok (.iconst 0, 1) := by decide +kernel
theorem dX0_fullest_3 : decode cX0_fullest 3 = .ok (.istore_n 2, 1) := by decide +kernel
theorem dX0_fullest_4 : decode cX0_fullest 4 = .ok (.iconst 0, 1) := by decide +kernel
theorem dX0_fullest_5 : decode cX0_fullest 5 = .ok (.istore_n 3, 1) := by decide +kernel
theorem dX0_fullest_6 : decode cX0_fullest 6 = .ok (.iload_n 3, 1) := by decide +kernel
theorem dX0_fullest_7 : decode cX0_fullest 7 = .ok (.aload_n 0, 1) := by decide +kernel
theorem dX0_fullest_8 : decode cX0_fullest 8 = .ok (.getfield 22, 3) := by decide +kernel
theorem dX0_fullest_11 : decode cX0_fullest 11 = .ok (.if_icmp .ge 39, 3) := by decide +kernel
theorem dX0_fullest_14 : decode cX0_fullest 14 = .ok (.aload_n 0, 1) := by decide +kernel
theorem dX0_fullest_15 : decode cX0_fullest 15 = .ok (.iload_n 3, 1) := by decide +kernel
theorem dX0_fullest_16 : decode cX0_fullest 16 = .ok (.invokevirtual 97, 3) := by decide +kernel
theorem dX0_fullest_19 : decode cX0_fullest 19 = .ok (.ifCond .eq 25, 3) := by decide +kernel
theorem dX0_fullest_22 : decode cX0_fullest 22 = .ok (.aload_n 0, 1) := by decide +kernel
theorem dX0_fullest_23 : decode cX0_fullest 23 = .ok (.iload_n 3, 1) := by decide +kernel
theorem dX0_fullest_24 : decode cX0_fullest 24 = .ok (.invokevirtual 100, 3) := by decide +kernel
theorem dX0_fullest_27 : decode cX0_fullest 27 = .ok (.ifCond .eq 7, 3) := by decide +kernel
theorem dX0_fullest_30 : decode cX0_fullest 30 = .ok (.iconst 1, 1) := by decide +kernel
theorem dX0_fullest_31 : decode cX0_fullest 31 = .ok (.goto 6, 3) := by decide +kernel
theorem dX0_fullest_34 : decode cX0_fullest 34 = .ok (.iload_n 2, 1) := by decide +kernel
theorem dX0_fullest_35 : decode cX0_fullest 35 = .ok (.iconst 1, 1) := by decide +kernel
theorem dX0_fullest_36 : decode cX0_fullest 36 = .ok (.iadd, 1) := by decide +kernel
theorem dX0_fullest_37 : decode cX0_fullest 37 = .ok (.istore_n 2, 1) := by decide +kernel
theorem dX0_fullest_38 : decode cX0_fullest 38 = .ok (.iload_n 1, 1) := by decide +kernel
theorem dX0_fullest_39 : decode cX0_fullest 39 = .ok (.iload_n 2, 1) := by decide +kernel
theorem dX0_fullest_40 : decode cX0_fullest 40 = .ok (.invokestatic 74, 3) := by decide +kernel
theorem dX0_fullest_43 : decode cX0_fullest 43 = .ok (.istore_n 1, 1) := by decide +kernel
theorem dX0_fullest_44 : decode cX0_fullest 44 = .ok (.iinc 3 1, 3) := by decide +kernel
theorem dX0_fullest_47 : decode cX0_fullest 47 = .ok (.goto (-41), 3) := by decide +kernel
theorem dX0_fullest_50 : decode cX0_fullest 50 = .ok (.iload_n 1, 1) := by decide +kernel
theorem dX0_fullest_51 : decode cX0_fullest 51 = .ok (.ireturn, 1) := by decide +kernel
set_option maxRecDepth 20000 in
theorem ggX0_deepest_X0_depthAt : GoodIn wsX0_deepest wsX0_depthAt := goodIn_r _ [10, 11, 12, 13, 14, 9, 15, 1, 16, 17, 18, 19] (by decide +kernel) (by decide +kernel)
set_option maxRecDepth 20000 in
theorem gX0_deepest_X0_depthAt : GoodIn wsX0_deepest (wsV RX0 65 RX0 yX0_depthAt wsX0_depthAt) := goodIn_app (goodIn_of _ (by decide +kernel)) ggX0_deepest_X0_depthAt
theorem dX0_deepest_0 : decode cX0_deepest 0 = .ok (.iconst 0, 1) := by decide +kernel
theorem dX0_deepest_1 : decode cX0_deepest 1 = .ok (.istore_n 1, 1) := by decide +kernel
theorem dX0_deepest_2 : decode cX0_deepest 2 = .ok (.iconst 0, 1) := by decide +kernel
theorem dX0_deepest_3 : decode cX0_deepest 3 = .ok (.istore_n 2, 1) := by decide +kernel
theorem dX0_deepest_4 : decode cX0_deepest 4 = .ok (.iload_n 2, 1) := by decide +kernel
theorem dX0_deepest_5 : decode cX0_deepest 5 = .ok (.aload_n 0, 1) := by decide +kernel
theorem dX0_deepest_6 : decode cX0_deepest 6 = .ok (.getfield 22, 3) := by decide +kernel
theorem dX0_deepest_9 : decode cX0_deepest 9 = .ok (.if_icmp .ge 19, 3) := by decide +kernel
theorem dX0_deepest_12 : decode cX0_deepest 12 = .ok (.iload_n 1, 1) := by decide +kernel
theorem dX0_deepest_13 : decode cX0_deepest 13 = .ok (.aload_n 0, 1) := by decide +kernel
theorem dX0_deepest_14 : decode cX0_deepest 14 = .ok (.iload_n 2, 1) := by decide +kernel
theorem dX0_deepest_15 : decode cX0_deepest 15 = .ok (.invokevirtual 65, 3) := by decide +kernel
theorem dX0_deepest_18 : decode cX0_deepest 18 = .ok (.invokestatic 74, 3) := by decide +kernel
theorem dX0_deepest_21 : decode cX0_deepest 21 = .ok (.istore_n 1, 1) := by decide +kernel
theorem dX0_deepest_22 : decode cX0_deepest 22 = .ok (.iinc 2 1, 3) := by decide +kernel
theorem dX0_deepest_25 : decode cX0_deepest 25 = .ok (.goto (-21), 3) := by decide +kernel
theorem dX0_deepest_28 : decode cX0_deepest 28 = .ok (.iload_n 1, 1) := by decide +kernel
theorem dX0_deepest_29 : decode cX0_deepest 29 = .ok (.ireturn, 1) := by decide +kernel
set_option maxRecDepth 20000 in
theorem ggX0_lettersKept_X0_isContained : GoodIn wsX0_lettersKept wsX0_isContained := goodIn_r _ [6, 7, 8, 9, 5, 10, 11, 12, 13, 14, 15, 1, 16, 17, 18, 19, 20, 21, 22, 23, 24, 25, 26, 27, 28, 29, 30, 31, 32, 33, 34] (by decide +kernel) (by decide +kernel)
set_option maxRecDepth 20000 in
theorem gX0_lettersKept_X0_isContained : GoodIn wsX0_lettersKept (wsV RX0 97 RX0 yX0_isContained wsX0_isContained) := goodIn_app (goodIn_of _ (by decide +kernel)) ggX0_lettersKept_X0_isContained
set_option maxRecDepth 20000 in
theorem ggX0_lettersKept_X0_wordAt : GoodIn wsX0_lettersKept wsX0_wordAt := goodIn_r _ [19, 20, 12, 13, 14, 5, 15, 1, 31, 32, 33, 34] (by decide +kernel) (by decide +kernel)
set_option maxRecDepth 20000 in
theorem gX0_lettersKept_X0_wordAt : GoodIn wsX0_lettersKept (wsV RX0 32 RX0 yX0_wordAt wsX0_wordAt) := goodIn_app (goodIn_of _ (by decide +kernel)) ggX0_lettersKept_X0_wordAt
set_option maxRecDepth 20000 in
theorem ggX0_lettersKept_X3_lengthOf : GoodIn wsX0_lettersKept wsX3_lengthOf := goodIn_r _ [24, 25, 26, 23, 27, 28, 29, 30] (by decide +kernel) (by decide +kernel)
set_option maxRecDepth 20000 in
theorem gX0_lettersKept_X3_lengthOf : GoodIn wsX0_lettersKept (va_wsS RX0 77 yX3_lengthOf wsX3_lengthOf) := goodIn_app (goodIn_of _ (by decide +kernel)) ggX0_lettersKept_X3_lengthOf
set_option maxRecDepth 20000 in
theorem ggX0_lettersKept_X0_depthAt : GoodIn wsX0_lettersKept wsX0_depthAt := goodIn_r _ [10, 11, 12, 13, 14, 5, 15, 1, 31, 32, 33, 34] (by decide +kernel) (by decide +kernel)
set_option maxRecDepth 20000 in
theorem gX0_lettersKept_X0_depthAt : GoodIn wsX0_lettersKept (wsV RX0 65 RX0 yX0_depthAt wsX0_depthAt) := goodIn_app (goodIn_of _ (by decide +kernel)) ggX0_lettersKept_X0_depthAt
theorem dX0_lettersKept_0 : decode cX0_lettersKept 0 = .ok (.iconst 0, 1) := by decide +kernel
theorem dX0_lettersKept_1 : decode cX0_lettersKept 1 = .ok (.istore_n 1, 1) := by decide +kernel
theorem dX0_lettersKept_2 : decode cX0_lettersKept 2 = .ok (.iconst 0, 1) := by decide +kernel
theorem dX0_lettersKept_3 : decode cX0_lettersKept 3 = .ok (.istore_n 2, 1) := by decide +kernel
theorem dX0_lettersKept_4 : decode cX0_lettersKept 4 = .ok (.iload_n 2, 1) := by decide +kernel
theorem dX0_lettersKept_5 : decode cX0_lettersKept 5 = .ok (.aload_n 0, 1) := by decide +kernel
theorem dX0_lettersKept_6 : decode cX0_lettersKept 6 = .ok (.getfield 22, 3) := by decide +kernel
theorem dX0_lettersKept_9 : decode cX0_lettersKept 9 = .ok (.if_icmp .ge 34, 3) := by decide +kernel
theorem dX0_lettersKept_12 : decode cX0_lettersKept 12 = .ok (.aload_n 0, 1) := by decide +kernel
theorem dX0_lettersKept_13 : decode cX0_lettersKept 13 = .ok (.iload_n 2, 1) := by decide +kernel
theorem dX0_lettersKept_14 : decode cX0_lettersKept 14 = .ok (.invokevirtual 97, 3) := by decide +kernel
theorem dX0_lettersKept_17 : decode cX0_lettersKept 17 = .ok (.ifCond .eq 20, 3) := by decide +kernel
theorem dX0_lettersKept_20 : decode cX0_lettersKept 20 = .ok (.iload_n 1, 1) := by decide +kernel
theorem dX0_lettersKept_21 : decode cX0_lettersKept 21 = .ok (.aload_n 0, 1) := by decide +kernel
theorem dX0_lettersKept_22 : decode cX0_lettersKept 22 = .ok (.iload_n 2, 1) := by decide +kernel
theorem dX0_lettersKept_23 : decode cX0_lettersKept 23 = .ok (.invokevirtual 32, 3) := by decide +kernel
theorem dX0_lettersKept_26 : decode cX0_lettersKept 26 = .ok (.invokestatic 77, 3) := by decide +kernel
theorem dX0_lettersKept_29 : decode cX0_lettersKept 29 = .ok (.aload_n 0, 1) := by decide +kernel
theorem dX0_lettersKept_30 : decode cX0_lettersKept 30 = .ok (.iload_n 2, 1) := by decide +kernel
theorem dX0_lettersKept_31 : decode cX0_lettersKept 31 = .ok (.invokevirtual 65, 3) := by decide +kernel
theorem dX0_lettersKept_34 : decode cX0_lettersKept 34 = .ok (.isub, 1) := by decide +kernel
theorem dX0_lettersKept_35 : decode cX0_lettersKept 35 = .ok (.iadd, 1) := by decide +kernel
theorem dX0_lettersKept_36 : decode cX0_lettersKept 36 = .ok (.istore_n 1, 1) := by decide +kernel
theorem dX0_lettersKept_37 : decode cX0_lettersKept 37 = .ok (.iinc 2 1, 3) := by decide +kernel
theorem dX0_lettersKept_40 : decode cX0_lettersKept 40 = .ok (.goto (-36), 3) := by decide +kernel
theorem dX0_lettersKept_43 : decode cX0_lettersKept 43 = .ok (.iload_n 1, 1) := by decide +kernel
theorem dX0_lettersKept_44 : decode cX0_lettersKept 44 = .ok (.ireturn, 1) := by decide +kernel
set_option maxRecDepth 20000 in
theorem ggX0_mostShared_X0_sharedAhead : GoodIn wsX0_mostShared wsX0_sharedAhead := goodIn_r _ [10, 11, 12, 13, 9, 14, 15, 16, 17, 18, 19, 1, 20, 21, 22, 23, 24, 25, 26, 27, 28, 29, 30, 31, 32, 33] (by decide +kernel) (by decide +kernel)
set_option maxRecDepth 20000 in
theorem gX0_mostShared_X0_sharedAhead : GoodIn wsX0_mostShared (wsV RX0 94 RX0 yX0_sharedAhead wsX0_sharedAhead) := goodIn_app (goodIn_of _ (by decide +kernel)) ggX0_mostShared_X0_sharedAhead
theorem dX0_mostShared_0 : decode cX0_mostShared 0 = .ok (.iconst 0, 1) := by decide +kernel
theorem dX0_mostShared_1 : decode cX0_mostShared 1 = .ok (.istore_n 1, 1) := by decide +kernel
theorem dX0_mostShared_2 : decode cX0_mostShared 2 = .ok (.iconst 1, 1) := by decide +kernel
theorem dX0_mostShared_3 : decode cX0_mostShared 3 = .ok (.istore_n 2, 1) := by decide +kernel
theorem dX0_mostShared_4 : decode cX0_mostShared 4 = .ok (.iload_n 2, 1) := by decide +kernel
theorem dX0_mostShared_5 : decode cX0_mostShared 5 = .ok (.aload_n 0, 1) := by decide +kernel
theorem dX0_mostShared_6 : decode cX0_mostShared 6 = .ok (.getfield 22, 3) := by decide +kernel
theorem dX0_mostShared_9 : decode cX0_mostShared 9 = .ok (.if_icmp .ge 19, 3) := by decide +kernel
theorem dX0_mostShared_12 : decode cX0_mostShared 12 = .ok (.iload_n 1, 1) := by decide +kernel
theorem dX0_mostShared_13 : decode cX0_mostShared 13 = .ok (.aload_n 0, 1) := by decide +kernel
theorem dX0_mostShared_14 : decode cX0_mostShared 14 = .ok (.iload_n 2, 1) := by decide +kernel
theorem dX0_mostShared_15 : decode cX0_mostShared 15 = .ok (.invokevirtual 94, 3) := by decide +kernel
theorem dX0_mostShared_18 : decode cX0_mostShared 18 = .ok (.invokestatic 74, 3) := by decide +kernel
theorem dX0_mostShared_21 : decode cX0_mostShared 21 = .ok (.istore_n 1, 1) := by decide +kernel
theorem dX0_mostShared_22 : decode cX0_mostShared 22 = .ok (.iinc 2 1, 3) := by decide +kernel
theorem dX0_mostShared_25 : decode cX0_mostShared 25 = .ok (.goto (-21), 3) := by decide +kernel
theorem dX0_mostShared_28 : decode cX0_mostShared 28 = .ok (.iload_n 1, 1) := by decide +kernel
theorem dX0_mostShared_29 : decode cX0_mostShared 29 = .ok (.ireturn, 1) := by decide +kernel
set_option maxRecDepth 20000 in
theorem ggX0_pairsSharing_X0_sharedAhead : GoodIn wsX0_pairsSharing wsX0_sharedAhead := goodIn_r _ [6, 7, 8, 9, 5, 10, 11, 12, 13, 14, 15, 1, 16, 17, 18, 19, 20, 21, 22, 23, 24, 25, 26, 27, 28, 29] (by decide +kernel) (by decide +kernel)
set_option maxRecDepth 20000 in
theorem gX0_pairsSharing_X0_sharedAhead : GoodIn wsX0_pairsSharing (wsV RX0 94 RX0 yX0_sharedAhead wsX0_sharedAhead) := goodIn_app (goodIn_of _ (by decide +kernel)) ggX0_pairsSharing_X0_sharedAhead
theorem dX0_pairsSharing_0 : decode cX0_pairsSharing 0 = .ok (.iconst 0, 1) := by decide +kernel
theorem dX0_pairsSharing_1 : decode cX0_pairsSharing 1 = .ok (.istore_n 2, 1) := by decide +kernel
theorem dX0_pairsSharing_2 : decode cX0_pairsSharing 2 = .ok (.iconst 1, 1) := by decide +kernel
theorem dX0_pairsSharing_3 : decode cX0_pairsSharing 3 = .ok (.istore_n 3, 1) := by decide +kernel
theorem dX0_pairsSharing_4 : decode cX0_pairsSharing 4 = .ok (.iload_n 3, 1) := by decide +kernel
theorem dX0_pairsSharing_5 : decode cX0_pairsSharing 5 = .ok (.aload_n 0, 1) := by decide +kernel
theorem dX0_pairsSharing_6 : decode cX0_pairsSharing 6 = .ok (.getfield 22, 3) := by decide +kernel
theorem dX0_pairsSharing_9 : decode cX0_pairsSharing 9 = .ok (.if_icmp .ge 21, 3) := by decide +kernel
theorem dX0_pairsSharing_12 : decode cX0_pairsSharing 12 = .ok (.aload_n 0, 1) := by decide +kernel
theorem dX0_pairsSharing_13 : decode cX0_pairsSharing 13 = .ok (.iload_n 3, 1) := by decide +kernel
theorem dX0_pairsSharing_14 : decode cX0_pairsSharing 14 = .ok (.invokevirtual 94, 3) := by decide +kernel
theorem dX0_pairsSharing_17 : decode cX0_pairsSharing 17 = .ok (.iload_n 1, 1) := by decide +kernel
theorem dX0_pairsSharing_18 : decode cX0_pairsSharing 18 = .ok (.if_icmp .ne 6, 3) := by decide +kernel
theorem dX0_pairsSharing_21 : decode cX0_pairsSharing 21 = .ok (.iinc 2 1, 3) := by decide +kernel
theorem dX0_pairsSharing_24 : decode cX0_pairsSharing 24 = .ok (.iinc 3 1, 3) := by decide +kernel
theorem dX0_pairsSharing_27 : decode cX0_pairsSharing 27 = .ok (.goto (-23), 3) := by decide +kernel
theorem dX0_pairsSharing_30 : decode cX0_pairsSharing 30 = .ok (.iload_n 2, 1) := by decide +kernel
theorem dX0_pairsSharing_31 : decode cX0_pairsSharing 31 = .ok (.ireturn, 1) := by decide +kernel
