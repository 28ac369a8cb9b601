theorem dX5_init_0 : decode cX5_init 0 = .ok (.aload_n 0, 1) := by decide +kernel
theorem dX5_init_1 : decode cX5_init 1 = .ok (.invokespecial 1, 3) := by decide +kernel
theorem dX5_init_4 : decode cX5_init 4 = .ok (.aload_n 0, 1) := by decide +kernel
theorem dX5_init_5 : decode cX5_init 5 = .ok (.bipush 7, 2) := by decide +kernel
theorem dX5_init_7 : decode cX5_init 7 = .ok (.newarray .int, 2) := by decide +kernel
theorem dX5_init_9 : decode cX5_init 9 = .ok (.putfield 7, 3) := by decide +kernel
theorem dX5_init_12 : decode cX5_init 12 = .ok (.aload_n 0, 1) := by decide +kernel
theorem dX5_init_13 : decode cX5_init 13 = .ok (.iconst 4, 1) := by decide +kernel
theorem dX5_init_14 : decode cX5_init 14 = .ok (.putfield 13, 3) := by decide +kernel
theorem dX5_init_17 : decode cX5_init 17 = .ok (.aload_n 0, 1) := by decide +kernel
theorem dX5_init_18 : decode cX5_init 18 = .ok (.bipush 41, 2) := by decide +kernel
theorem dX5_init_20 : decode cX5_init 20 = .ok (.newarray .long, 2) := by decide +kernel
theorem dX5_init_22 : decode cX5_init 22 = .ok (.putfield 17, 3) := by decide +kernel
theorem dX5_init_25 : decode cX5_init 25 = .ok (.aload_n 0, 1) := by decide +kernel
theorem dX5_init_26 : decode cX5_init 26 = .ok (.bipush 41, 2) := by decide +kernel
theorem dX5_init_28 : decode cX5_init 28 = .ok (.newarray .int, 2) := by decide +kernel
theorem dX5_init_30 : decode cX5_init 30 = .ok (.putfield 21, 3) := by decide +kernel
theorem dX5_init_33 : decode cX5_init 33 = .ok (.aload_n 0, 1) := by decide +kernel
theorem dX5_init_34 : decode cX5_init 34 = .ok (.sipush 200, 3) := by decide +kernel
theorem dX5_init_37 : decode cX5_init 37 = .ok (.newarray .long, 2) := by decide +kernel
theorem dX5_init_39 : decode cX5_init 39 = .ok (.putfield 24, 3) := by decide +kernel
theorem dX5_init_42 : decode cX5_init 42 = .ok (.aload_n 0, 1) := by decide +kernel
theorem dX5_init_43 : decode cX5_init 43 = .ok (.sipush 3384, 3) := by decide +kernel
theorem dX5_init_46 : decode cX5_init 46 = .ok (.newarray .long, 2) := by decide +kernel
theorem dX5_init_48 : decode cX5_init 48 = .ok (.putfield 27, 3) := by decide +kernel
theorem dX5_init_51 : decode cX5_init 51 = .ok (.aload_n 0, 1) := by decide +kernel
theorem dX5_init_52 : decode cX5_init 52 = .ok (.bipush 8, 2) := by decide +kernel
theorem dX5_init_54 : decode cX5_init 54 = .ok (.newarray .int, 2) := by decide +kernel
theorem dX5_init_56 : decode cX5_init 56 = .ok (.putfield 30, 3) := by decide +kernel
theorem dX5_init_59 : decode cX5_init 59 = .ok (.aload_n 0, 1) := by decide +kernel
theorem dX5_init_60 : decode cX5_init 60 = .ok (.bipush 8, 2) := by decide +kernel
theorem dX5_init_62 : decode cX5_init 62 = .ok (.newarray .int, 2) := by decide +kernel
theorem dX5_init_64 : decode cX5_init 64 = .ok (.putfield 33, 3) := by decide +kernel
theorem dX5_init_67 : decode cX5_init 67 = .ok (.aload_n 0, 1) := by decide +kernel
theorem dX5_init_68 : decode cX5_init 68 = .ok (.bipush 8, 2) := by decide +kernel
theorem dX5_init_70 : decode cX5_init 70 = .ok (.newarray .int, 2) := by decide +kernel
theorem dX5_init_72 : decode cX5_init 72 = .ok (.putfield 36, 3) := by decide +kernel
theorem dX5_init_75 : decode cX5_init 75 = .ok (.aload_n 0, 1) := by decide +kernel
theorem dX5_init_76 : decode cX5_init 76 = .ok (.bipush 41, 2) := by decide +kernel
theorem dX5_init_78 : decode cX5_init 78 = .ok (.newarray .boolean, 2) := by decide +kernel
theorem dX5_init_80 : decode cX5_init 80 = .ok (.putfield 39, 3) := by decide +kernel
theorem dX5_init_83 : decode cX5_init 83 = .ok (.aload_n 0, 1) := by decide +kernel
theorem dX5_init_84 : decode cX5_init 84 = .ok (.iconst 0, 1) := by decide +kernel
theorem dX5_init_85 : decode cX5_init 85 = .ok (.putfield 43, 3) := by decide +kernel
theorem dX5_init_88 : decode cX5_init 88 = .ok (.return_, 1) := by decide +kernel
theorem dX5_in_0 : decode cX5_in 0 = .ok (.iload_n 0, 1) := by decide +kernel
theorem dX5_in_1 : decode cX5_in 1 = .ok (.iload_n 1, 1) := by decide +kernel
theorem dX5_in_2 : decode cX5_in 2 = .ok (.if_icmp .lt 12, 3) := by decide +kernel
theorem dX5_in_5 : decode cX5_in 5 = .ok (.iload_n 0, 1) := by decide +kernel
theorem dX5_in_6 : decode cX5_in 6 = .ok (.iload_n 2, 1) := by decide +kernel
theorem dX5_in_7 : decode cX5_in 7 = .ok (.if_icmp .gt 7, 3) := by decide +kernel
theorem dX5_in_10 : decode cX5_in 10 = .ok (.iconst 1, 1) := by decide +kernel
theorem dX5_in_11 : decode cX5_in 11 = .ok (.goto 4, 3) := by decide +kernel
theorem dX5_in_14 : decode cX5_in 14 = .ok (.iconst 0, 1) := by decide +kernel
theorem dX5_in_15 : decode cX5_in 15 = .ok (.ireturn, 1) := by decide +kernel
theorem dX5_unit_0 : decode cX5_unit 0 = .ok (.lconst 1, 1) := by decide +kernel
theorem dX5_unit_1 : decode cX5_unit 1 = .ok (.lstore_n 1, 1) := by decide +kernel
theorem dX5_unit_2 : decode cX5_unit 2 = .ok (.iload_n 0, 1) := by decide +kernel
theorem dX5_unit_3 : decode cX5_unit 3 = .ok (.istore_n 3, 1) := by decide +kernel
theorem dX5_unit_4 : decode cX5_unit 4 = .ok (.iload_n 3, 1) := by decide +kernel
theorem dX5_unit_5 : decode cX5_unit 5 = .ok (.bipush 7, 2) := by decide +kernel
theorem dX5_unit_7 : decode cX5_unit 7 = .ok (.if_icmp .ge 15, 3) := by decide +kernel
theorem dX5_unit_10 : decode cX5_unit 10 = .ok (.lload_n 1, 1) := by decide +kernel
theorem dX5_unit_11 : decode cX5_unit 11 = .ok (.ldc2_w 46, 3) := by decide +kernel
theorem dX5_unit_14 : decode cX5_unit 14 = .ok (.lmul, 1) := by decide +kernel
theorem dX5_unit_15 : decode cX5_unit 15 = .ok (.lstore_n 1, 1) := by decide +kernel
theorem dX5_unit_16 : decode cX5_unit 16 = .ok (.iinc 3 1, 3) := by decide +kernel
theorem dX5_unit_19 : decode cX5_unit 19 = .ok (.goto (-15), 3) := by decide +kernel
theorem dX5_unit_22 : decode cX5_unit 22 = .ok (.lload_n 1, 1) := by decide +kernel
theorem dX5_unit_23 : decode cX5_unit 23 = .ok (.lreturn, 1) := by decide +kernel
set_option maxRecDepth 20000 in
theorem ggX5_head_X5_unit : GoodIn wsX5_head wsX5_unit := goodIn_r _ [4, 5] (by decide +kernel) (by decide +kernel)
set_option maxRecDepth 20000 in
theorem gX5_head_X5_unit : GoodIn wsX5_head (va_wsS RX5 48 yX5_unit wsX5_unit) := goodIn_app (goodIn_of _ (by decide +kernel)) ggX5_head_X5_unit
theorem dX5_head_0 : decode cX5_head 0 = .ok (.lload_n 0, 1) := by decide +kernel
theorem dX5_head_1 : decode cX5_head 1 = .ok (.lload_n 0, 1) := by decide +kernel
theorem dX5_head_2 : decode cX5_head 2 = .ok (.iload_n 2, 1) := by decide +kernel
theorem dX5_head_3 : decode cX5_head 3 = .ok (.invokestatic 48, 3) := by decide +kernel
theorem dX5_head_6 : decode cX5_head 6 = .ok (.lrem, 1) := by decide +kernel
theorem dX5_head_7 : decode cX5_head 7 = .ok (.lsub, 1) := by decide +kernel
theorem dX5_head_8 : decode cX5_head 8 = .ok (.lreturn, 1) := by decide +kernel
set_option maxRecDepth 20000 in
theorem ggX5_sign_X5_unit : GoodIn wsX5_sign wsX5_unit := goodIn_r _ [5, 1] (by decide +kernel) (by decide +kernel)
set_option maxRecDepth 20000 in
theorem gX5_sign_X5_unit : GoodIn wsX5_sign (va_wsS RX5 48 yX5_unit wsX5_unit) := goodIn_app (goodIn_of _ (by decide +kernel)) ggX5_sign_X5_unit
theorem dX5_sign_0 : decode cX5_sign 0 = .ok (.lload_n 0, 1) := by decide +kernel
theorem dX5_sign_1 : decode cX5_sign 1 = .ok (.iload_n 2, 1) := by decide +kernel
theorem dX5_sign_2 : decode cX5_sign 2 = .ok (.iconst 1, 1) := by decide +kernel
theorem dX5_sign_3 : decode cX5_sign 3 = .ok (.iadd, 1) := by decide +kernel
theorem dX5_sign_4 : decode cX5_sign 4 = .ok (.invokestatic 48, 3) := by decide +kernel
theorem dX5_sign_7 : decode cX5_sign 7 = .ok (.ldiv, 1) := by decide +kernel
theorem dX5_sign_8 : decode cX5_sign 8 = .ok (.ldc2_w 46, 3) := by decide +kernel
theorem dX5_sign_11 : decode cX5_sign 11 = .ok (.lrem, 1) := by decide +kernel
theorem dX5_sign_12 : decode cX5_sign 12 = .ok (.l2i, 1) := by decide +kernel
theorem dX5_sign_13 : decode cX5_sign 13 = .ok (.ireturn, 1) := by decide +kernel
set_option maxRecDepth 20000 in
theorem ggX5_size_X5_sign : GoodIn wsX5_size wsX5_sign := goodIn_r _ [4, 5, 6, 7, 3, 8] (by decide +kernel) (by decide +kernel)
set_option maxRecDepth 20000 in
theorem gX5_size_X5_sign : GoodIn wsX5_size (va_wsS RX5 52 yX5_sign wsX5_sign) := goodIn_app (goodIn_of _ (by decide +kernel)) ggX5_size_X5_sign
theorem dX5_size_0 : decode cX5_size 0 = .ok (.iconst 0, 1) := by decide +kernel
theorem dX5_size_1 : decode cX5_size 1 = .ok (.istore_n 2, 1) := by decide +kernel
theorem dX5_size_2 : decode cX5_size 2 = .ok (.iload_n 2, 1) := by decide +kernel
theorem dX5_size_3 : decode cX5_size 3 = .ok (.bipush 7, 2) := by decide +kernel
theorem dX5_size_5 : decode cX5_size 5 = .ok (.if_icmp .ge 17, 3) := by decide +kernel
theorem dX5_size_8 : decode cX5_size 8 = .ok (.lload_n 0, 1) := by decide +kernel
theorem dX5_size_9 : decode cX5_size 9 = .ok (.iload_n 2, 1) := by decide +kernel
theorem dX5_size_10 : decode cX5_size 10 = .ok (.invokestatic 52, 3) := by decide +kernel
theorem dX5_size_13 : decode cX5_size 13 = .ok (.ifCond .le 9, 3) := by decide +kernel
theorem dX5_size_16 : decode cX5_size 16 = .ok (.iinc 2 1, 3) := by decide +kernel
theorem dX5_size_19 : decode cX5_size 19 = .ok (.goto (-17), 3) := by decide +kernel
theorem dX5_size_22 : decode cX5_size 22 = .ok (.iload_n 2, 1) := by decide +kernel
theorem dX5_size_23 : decode cX5_size 23 = .ok (.ireturn, 1) := by decide +kernel
theorem dX5_own_0 : decode cX5_own 0 = .ok (.lconst 0, 1) := by decide +kernel
theorem dX5_own_1 : decode cX5_own 1 = .ok (.lstore_n 1, 1) := by decide +kernel
theorem dX5_own_2 : decode cX5_own 2 = .ok (.iconst 0, 1) := by decide +kernel
theorem dX5_own_3 : decode cX5_own 3 = .ok (.istore_n 3, 1) := by decide +kernel
theorem dX5_own_4 : decode cX5_own 4 = .ok (.iload_n 3, 1) := by decide +kernel
theorem dX5_own_5 : decode cX5_own 5 = .ok (.bipush 7, 2) := by decide +kernel
theorem dX5_own_7 : decode cX5_own 7 = .ok (.if_icmp .ge 35, 3) := by decide +kernel
theorem dX5_own_10 : decode cX5_own 10 = .ok (.lload_n 1, 1) := by decide +kernel
theorem dX5_own_11 : decode cX5_own 11 = .ok (.ldc2_w 46, 3) := by decide +kernel
theorem dX5_own_14 : decode cX5_own 14 = .ok (.lmul, 1) := by decide +kernel
theorem dX5_own_15 : decode cX5_own 15 = .ok (.iload_n 3, 1) := by decide +kernel
theorem dX5_own_16 : decode cX5_own 16 = .ok (.aload_n 0, 1) := by decide +kernel
theorem dX5_own_17 : decode cX5_own 17 = .ok (.getfield 56, 3) := by decide +kernel
theorem dX5_own_20 : decode cX5_own 20 = .ok (.if_icmp .ge 12, 3) := by decide +kernel
theorem dX5_own_23 : decode cX5_own 23 = .ok (.aload_n 0, 1) := by decide +kernel
theorem dX5_own_24 : decode cX5_own 24 = .ok (.getfield 7, 3) := by decide +kernel
theorem dX5_own_27 : decode cX5_own 27 = .ok (.iload_n 3, 1) := by decide +kernel
theorem dX5_own_28 : decode cX5_own 28 = .ok (.iaload, 1) := by decide +kernel
theorem dX5_own_29 : decode cX5_own 29 = .ok (.goto 4, 3) := by decide +kernel
theorem dX5_own_32 : decode cX5_own 32 = .ok (.iconst 0, 1) := by decide +kernel
theorem dX5_own_33 : decode cX5_own 33 = .ok (.i2l, 1) := by decide +kernel
theorem dX5_own_34 : decode cX5_own 34 = .ok (.ladd, 1) := by decide +kernel
theorem dX5_own_35 : decode cX5_own 35 = .ok (.lstore_n 1, 1) := by decide +kernel
theorem dX5_own_36 : decode cX5_own 36 = .ok (.iinc 3 1, 3) := by decide +kernel
theorem dX5_own_39 : decode cX5_own 39 = .ok (.goto (-35), 3) := by decide +kernel
theorem dX5_own_42 : decode cX5_own 42 = .ok (.lload_n 1, 1) := by decide +kernel
theorem dX5_own_43 : decode cX5_own 43 = .ok (.lreturn, 1) := by decide +kernel
set_option maxRecDepth 20000 in
theorem ggX5_begins_X5_size : GoodIn wsX5_begins wsX5_size := goodIn_r _ [4, 5, 6, 3, 7, 8, 9, 10, 11] (by decide +kernel) (by decide +kernel)
set_option maxRecDepth 20000 in
theorem gX5_begins_X5_size : GoodIn wsX5_begins (va_wsS RX5 59 yX5_size wsX5_size) := goodIn_app (goodIn_of _ (by decide +kernel)) ggX5_begins_X5_size
set_option maxRecDepth 20000 in
theorem ggX5_begins_X5_head : GoodIn wsX5_begins wsX5_head := goodIn_r _ [14, 9, 10, 3, 11, 8] (by decide +kernel) (by decide +kernel)
set_option maxRecDepth 20000 in
theorem gX5_begins_X5_head : GoodIn wsX5_begins (va_wsS RX5 63 yX5_head wsX5_head) := goodIn_app (goodIn_of _ (by decide +kernel)) ggX5_begins_X5_head
theorem dX5_begins_0 : decode cX5_begins 0 = .ok (.lload_n 0, 1) := by decide +kernel
theorem dX5_begins_1 : decode cX5_begins 1 = .ok (.lload_n 2, 1) := by decide +kernel
theorem dX5_begins_2 : decode cX5_begins 2 = .ok (.invokestatic 59, 3) := by decide +kernel
theorem dX5_begins_5 : decode cX5_begins 5 = .ok (.invokestatic 63, 3) := by decide +kernel
theorem dX5_begins_8 : decode cX5_begins 8 = .ok (.lload_n 2, 1) := by decide +kernel
theorem dX5_begins_9 : decode cX5_begins 9 = .ok (.lcmp, 1) := by decide +kernel
theorem dX5_begins_10 : decode cX5_begins 10 = .ok (.ifCond .ne 7, 3) := by decide +kernel
theorem dX5_begins_13 : decode cX5_begins 13 = .ok (.iconst 1, 1) := by decide +kernel
theorem dX5_begins_14 : decode cX5_begins 14 = .ok (.goto 4, 3) := by decide +kernel
theorem dX5_begins_17 : decode cX5_begins 17 = .ok (.iconst 0, 1) := by decide +kernel
theorem dX5_begins_18 : decode cX5_begins 18 = .ok (.ireturn, 1) := by decide +kernel
theorem dX5_placeOf_0 : decode cX5_placeOf 0 = .ok (.iconst (-1), 1) := by decide +kernel
theorem dX5_placeOf_1 : decode cX5_placeOf 1 = .ok (.istore_n 3, 1) := by decide +kernel
theorem dX5_placeOf_2 : decode cX5_placeOf 2 = .ok (.iconst 0, 1) := by decide +kernel
theorem dX5_placeOf_3 : decode cX5_placeOf 3 = .ok (.istore 4, 2) := by decide +kernel
theorem dX5_placeOf_5 : decode cX5_placeOf 5 = .ok (.iload 4, 2) := by decide +kernel
theorem dX5_placeOf_7 : decode cX5_placeOf 7 = .ok (.aload_n 0, 1) := by decide +kernel
theorem dX5_placeOf_8 : decode cX5_placeOf 8 = .ok (.getfield 67, 3) := by decide +kernel
theorem dX5_placeOf_11 : decode cX5_placeOf 11 = .ok (.if_icmp .ge 28, 3) := by decide +kernel
theorem dX5_placeOf_14 : decode cX5_placeOf 14 = .ok (.aload_n 0, 1) := by decide +kernel
theorem dX5_placeOf_15 : decode cX5_placeOf 15 = .ok (.getfield 17, 3) := by decide +kernel
theorem dX5_placeOf_18 : decode cX5_placeOf 18 = .ok (.iload 4, 2) := by decide +kernel
theorem dX5_placeOf_20 : decode cX5_placeOf 20 = .ok (.laload, 1) := by decide +kernel
theorem dX5_placeOf_21 : decode cX5_placeOf 21 = .ok (.lload_n 1, 1) := by decide +kernel
theorem dX5_placeOf_22 : decode cX5_placeOf 22 = .ok (.lcmp, 1) := by decide +kernel
theorem dX5_placeOf_23 : decode cX5_placeOf 23 = .ok (.ifCond .ne 8, 3) := by decide +kernel
theorem dX5_placeOf_26 : decode cX5_placeOf 26 = .ok (.iload 4, 2) := by decide +kernel
theorem dX5_placeOf_28 : decode cX5_placeOf 28 = .ok (.goto 4, 3) := by decide +kernel
theorem dX5_placeOf_31 : decode cX5_placeOf 31 = .ok (.iload_n 3, 1) := by decide +kernel
theorem dX5_placeOf_32 : decode cX5_placeOf 32 = .ok (.istore_n 3, 1) := by decide +kernel
theorem dX5_placeOf_33 : decode cX5_placeOf 33 = .ok (.iinc 4 1, 3) := by decide +kernel
theorem dX5_placeOf_36 : decode cX5_placeOf 36 = .ok (.goto (-31), 3) := by decide +kernel
theorem dX5_placeOf_39 : decode cX5_placeOf 39 = .ok (.iload_n 3, 1) := by decide +kernel
theorem dX5_placeOf_40 : decode cX5_placeOf 40 = .ok (.ireturn, 1) := by decide +kernel
set_option maxRecDepth 20000 in
theorem ggX5_beginning_X5_begins : GoodIn wsX5_beginning wsX5_begins := goodIn_r _ [6, 7, 8, 5, 9, 10, 11, 12, 13, 14, 15, 16, 17, 18, 19] (by decide +kernel) (by decide +kernel)
set_option maxRecDepth 20000 in
theorem gX5_beginning_X5_begins : GoodIn wsX5_beginning (va_wsS RX5 70 yX5_begins wsX5_begins) := goodIn_app (goodIn_of _ (by decide +kernel)) ggX5_beginning_X5_begins
theorem dX5_beginning_0 : decode cX5_beginning 0 = .ok (.iconst 0, 1) := by decide +kernel
theorem dX5_beginning_1 : decode cX5_beginning 1 = .ok (.istore_n 3, 1) := by decide +kernel
theorem dX5_beginning_2 : decode cX5_beginning 2 = .ok (.iconst 0, 1) := by decide +kernel
theorem dX5_beginning_3 : decode cX5_beginning 3 = .ok (.istore 4, 2) := by decide +kernel
theorem dX5_beginning_5 : decode cX5_beginning 5 = .ok (.iload 4, 2) := by decide +kernel
theorem dX5_beginning_7 : decode cX5_beginning 7 = .ok (.aload_n 0, 1) := by decide +kernel
theorem dX5_beginning_8 : decode cX5_beginning 8 = .ok (.getfield 67, 3) := by decide +kernel
theorem dX5_beginning_11 : decode cX5_beginning 11 = .ok (.if_icmp .ge 31, 3) := by decide +kernel
theorem dX5_beginning_14 : decode cX5_beginning 14 = .ok (.iload_n 3, 1) := by decide +kernel
theorem dX5_beginning_15 : decode cX5_beginning 15 = .ok (.aload_n 0, 1) := by decide +kernel
theorem dX5_beginning_16 : decode cX5_beginning 16 = .ok (.getfield 17, 3) := by decide +kernel
theorem dX5_beginning_19 : decode cX5_beginning 19 = .ok (.iload 4, 2) := by decide +kernel
theorem dX5_beginning_21 : decode cX5_beginning 21 = .ok (.laload, 1) := by decide +kernel
theorem dX5_beginning_22 : decode cX5_beginning 22 = .ok (.lload_n 1, 1) := by decide +kernel
theorem dX5_beginning_23 : decode cX5_beginning 23 = .ok (.invokestatic 70, 3) := by decide +kernel
theorem dX5_beginning_26 : decode cX5_beginning 26 = .ok (.ifCond .eq 7, 3) := by decide +kernel
theorem dX5_beginning_29 : decode cX5_beginning 29 = .ok (.iconst 1, 1) := by decide +kernel
theorem dX5_beginning_30 : decode cX5_beginning 30 = .ok (.goto 4, 3) := by decide +kernel
theorem dX5_beginning_33 : decode cX5_beginning 33 = .ok (.iconst 0, 1) := by decide +kernel
theorem dX5_beginning_34 : decode cX5_beginning 34 = .ok (.iadd, 1) := by decide +kernel
theorem dX5_beginning_35 : decode cX5_beginning 35 = .ok (.istore_n 3, 1) := by decide +kernel
theorem dX5_beginning_36 : decode cX5_beginning 36 = .ok (.iinc 4 1, 3) := by decide +kernel
theorem dX5_beginning_39 : decode cX5_beginning 39 = .ok (.goto (-34), 3) := by decide +kernel
theorem dX5_beginning_42 : decode cX5_beginning 42 = .ok (.iload_n 3, 1) := by decide +kernel
theorem dX5_beginning_43 : decode cX5_beginning 43 = .ok (.ireturn, 1) := by decide +kernel
theorem dX5_isNode_0 : decode cX5_isNode 0 = .ok (.iconst 0, 1) := by decide +kernel
theorem dX5_isNode_1 : decode cX5_isNode 1 = .ok (.istore_n 3, 1) := by decide +kernel
theorem dX5_isNode_2 : decode cX5_isNode 2 = .ok (.iconst 0, 1) := by decide +kernel
theorem dX5_isNode_3 : decode cX5_isNode 3 = .ok (.istore 4, 2) := by decide +kernel
theorem dX5_isNode_5 : decode cX5_isNode 5 = .ok (.iload 4, 2) := by decide +kernel
theorem dX5_isNode_7 : decode cX5_isNode 7 = .ok (.aload_n 0, 1) := by decide +kernel
theorem dX5_isNode_8 : decode cX5_isNode 8 = .ok (.getfield 74, 3) := by decide +kernel
theorem dX5_isNode_11 : decode cX5_isNode 11 = .ok (.if_icmp .ge 31, 3) := by decide +kernel
theorem dX5_isNode_14 : decode cX5_isNode 14 = .ok (.iload_n 3, 1) := by decide +kernel
theorem dX5_isNode_15 : decode cX5_isNode 15 = .ok (.ifCond .ne 15, 3) := by decide +kernel
theorem dX5_isNode_18 : decode cX5_isNode 18 = .ok (.aload_n 0, 1) := by decide +kernel
theorem dX5_isNode_19 : decode cX5_isNode 19 = .ok (.getfield 24, 3) := by decide +kernel
theorem dX5_isNode_22 : decode cX5_isNode 22 = .ok (.iload 4, 2) := by decide +kernel
theorem dX5_isNode_24 : decode cX5_isNode 24 = .ok (.laload, 1) := by decide +kernel
theorem dX5_isNode_25 : decode cX5_isNode 25 = .ok (.lload_n 1, 1) := by decide +kernel
theorem dX5_isNode_26 : decode cX5_isNode 26 = .ok (.lcmp, 1) := by decide +kernel
theorem dX5_isNode_27 : decode cX5_isNode 27 = .ok (.ifCond .ne 7, 3) := by decide +kernel
theorem dX5_isNode_30 : decode cX5_isNode 30 = .ok (.iconst 1, 1) := by decide +kernel
theorem dX5_isNode_31 : decode cX5_isNode 31 = .ok (.goto 4, 3) := by decide +kernel
theorem dX5_isNode_34 : decode cX5_isNode 34 = .ok (.iconst 0, 1) := by decide +kernel
theorem dX5_isNode_35 : decode cX5_isNode 35 = .ok (.istore_n 3, 1) := by decide +kernel
theorem dX5_isNode_36 : decode cX5_isNode 36 = .ok (.iinc 4 1, 3) := by decide +kernel
theorem dX5_isNode_39 : decode cX5_isNode 39 = .ok (.goto (-34), 3) := by decide +kernel
theorem dX5_isNode_42 : decode cX5_isNode 42 = .ok (.iload_n 3, 1) := by decide +kernel
theorem dX5_isNode_43 : decode cX5_isNode 43 = .ok (.ireturn, 1) := by decide +kernel
set_option maxRecDepth 20000 in
theorem ggX5_containerSize_X5_size : GoodIn wsX5_containerSize wsX5_size := goodIn_r _ [4, 5, 6, 3, 7, 8, 9, 10, 11] (by decide +kernel) (by decide +kernel)
set_option maxRecDepth 20000 in
theorem gX5_containerSize_X5_size : GoodIn wsX5_containerSize (va_wsS RX5 59 yX5_size wsX5_size) := goodIn_app (goodIn_of _ (by decide +kernel)) ggX5_containerSize_X5_size
set_option maxRecDepth 20000 in
theorem ggX5_containerSize_X5_head : GoodIn wsX5_containerSize wsX5_head := goodIn_r _ [14, 9, 10, 3, 11, 8] (by decide +kernel) (by decide +kernel)
set_option maxRecDepth 20000 in
theorem gX5_containerSize_X5_head : GoodIn wsX5_containerSize (va_wsS RX5 63 yX5_head wsX5_head) := goodIn_app (goodIn_of _ (by decide +kernel)) ggX5_containerSize_X5_head
set_option maxRecDepth 20000 in
theorem ggX5_containerSize_X5_isNode : GoodIn wsX5_containerSize wsX5_isNode := goodIn_r _ [18, 19, 20, 21, 22, 23, 24, 25, 26, 27, 28, 29, 30, 31, 32, 33, 34, 35, 36] (by decide +kernel) (by decide +kernel)
set_option maxRecDepth 20000 in
theorem gX5_containerSize_X5_isNode : GoodIn wsX5_containerSize (wsV RX5 77 RX5 yX5_isNode wsX5_isNode) := goodIn_app (goodIn_of _ (by decide +kernel)) ggX5_containerSize_X5_isNode
theorem dX5_containerSize_0 : decode cX5_containerSize 0 = .ok (.iconst 0, 1) := by decide +kernel
theorem dX5_containerSize_1 : decode cX5_containerSize 1 = .ok (.istore_n 3, 1) := by decide +kernel
theorem dX5_containerSize_2 : decode cX5_containerSize 2 = .ok (.iload_n 3, 1) := by decide +kernel
theorem dX5_containerSize_3 : decode cX5_containerSize 3 = .ok (.lload_n 1, 1) := by decide +kernel
theorem dX5_containerSize_4 : decode cX5_containerSize 4 = .ok (.invokestatic 59, 3) := by decide +kernel
theorem dX5_containerSize_7 : decode cX5_containerSize 7 = .ok (.if_icmp .gt 23, 3) := by decide +kernel
theorem dX5_containerSize_10 : decode cX5_containerSize 10 = .ok (.aload_n 0, 1) := by decide +kernel
theorem dX5_containerSize_11 : decode cX5_containerSize 11 = .ok (.lload_n 1, 1) := by decide +kernel
theorem dX5_containerSize_12 : decode cX5_containerSize 12 = .ok (.iload_n 3, 1) := by decide +kernel
theorem dX5_containerSize_13 : decode cX5_containerSize 13 = .ok (.invokestatic 63, 3) := by decide +kernel
theorem dX5_containerSize_16 : decode cX5_containerSize 16 = .ok (.invokevirtual 77, 3) := by decide +kernel
theorem dX5_containerSize_19 : decode cX5_containerSize 19 = .ok (.ifCond .ne 5, 3) := by decide +kernel
theorem dX5_containerSize_22 : decode cX5_containerSize 22 = .ok (.iload_n 3, 1) := by decide +kernel
theorem dX5_containerSize_23 : decode cX5_containerSize 23 = .ok (.ireturn, 1) := by decide +kernel
theorem dX5_containerSize_24 : decode cX5_containerSize 24 = .ok (.iinc 3 1, 3) := by decide +kernel
theorem dX5_containerSize_27 : decode cX5_containerSize 27 = .ok (.goto (-25), 3) := by decide +kernel
theorem dX5_containerSize_30 : decode cX5_containerSize 30 = .ok (.iconst (-1), 1) := by decide +kernel
theorem dX5_containerSize_31 : decode cX5_containerSize 31 = .ok (.ireturn, 1) := by decide +kernel
set_option maxRecDepth 20000 in
theorem ggX5_depthOf_X5_size : GoodIn wsX5_depthOf wsX5_size := goodIn_r _ [4, 5, 6, 3, 7, 8, 9, 10, 11] (by decide +kernel) (by decide +kernel)
set_option maxRecDepth 20000 in
theorem gX5_depthOf_X5_size : GoodIn wsX5_depthOf (va_wsS RX5 59 yX5_size wsX5_size) := goodIn_app (goodIn_of _ (by decide +kernel)) ggX5_depthOf_X5_size
set_option maxRecDepth 20000 in
theorem ggX5_depthOf_X5_head : GoodIn wsX5_depthOf wsX5_head := goodIn_r _ [14, 9, 10, 3, 11, 8] (by decide +kernel) (by decide +kernel)
set_option maxRecDepth 20000 in
theorem gX5_depthOf_X5_head : GoodIn wsX5_depthOf (va_wsS RX5 63 yX5_head wsX5_head) := goodIn_app (goodIn_of _ (by decide +kernel)) ggX5_depthOf_X5_head
set_option maxRecDepth 20000 in
theorem ggX5_depthOf_X5_isNode : GoodIn wsX5_depthOf wsX5_isNode := goodIn_r _ [18, 19, 20, 21, 22, 23, 24, 25, 26, 27, 28, 29, 30, 31, 32, 33, 34, 35, 36] (by decide +kernel) (by decide +kernel)
set_option maxRecDepth 20000 in
theorem gX5_depthOf_X5_isNode : GoodIn wsX5_depthOf (wsV RX5 77 RX5 yX5_isNode wsX5_isNode) := goodIn_app (goodIn_of _ (by decide +kernel)) ggX5_depthOf_X5_isNode
theorem dX5_depthOf_0 : decode cX5_depthOf 0 = .ok (.iconst 0, 1) := by decide +kernel
theorem dX5_depthOf_1 : decode cX5_depthOf 1 = .ok (.istore_n 3, 1) := by decide +kernel
theorem dX5_depthOf_2 : decode cX5_depthOf 2 = .ok (.iconst 0, 1) := by decide +kernel
theorem dX5_depthOf_3 : decode cX5_depthOf 3 = .ok (.istore 4, 2) := by decide +kernel
theorem dX5_depthOf_5 : decode cX5_depthOf 5 = .ok (.iload 4, 2) := by decide +kernel
theorem dX5_depthOf_7 : decode cX5_depthOf 7 = .ok (.lload_n 1, 1) := by decide +kernel
theorem dX5_depthOf_8 : decode cX5_depthOf 8 = .ok (.invokestatic 59, 3) := by decide +kernel
theorem dX5_depthOf_11 : decode cX5_depthOf 11 = .ok (.if_icmp .gt 30, 3) := by decide +kernel
theorem dX5_depthOf_14 : decode cX5_depthOf 14 = .ok (.iload_n 3, 1) := by decide +kernel
theorem dX5_depthOf_15 : decode cX5_depthOf 15 = .ok (.aload_n 0, 1) := by decide +kernel
theorem dX5_depthOf_16 : decode cX5_depthOf 16 = .ok (.lload_n 1, 1) := by decide +kernel
theorem dX5_depthOf_17 : decode cX5_depthOf 17 = .ok (.iload 4, 2) := by decide +kernel
theorem dX5_depthOf_19 : decode cX5_depthOf 19 = .ok (.invokestatic 63, 3) := by decide +kernel
theorem dX5_depthOf_22 : decode cX5_depthOf 22 = .ok (.invokevirtual 77, 3) := by decide +kernel
theorem dX5_depthOf_25 : decode cX5_depthOf 25 = .ok (.ifCond .eq 7, 3) := by decide +kernel
theorem dX5_depthOf_28 : decode cX5_depthOf 28 = .ok (.iconst 1, 1) := by decide +kernel
theorem dX5_depthOf_29 : decode cX5_depthOf 29 = .ok (.goto 4, 3) := by decide +kernel
theorem dX5_depthOf_32 : decode cX5_depthOf 32 = .ok (.iconst 0, 1) := by decide +kernel
theorem dX5_depthOf_33 : decode cX5_depthOf 33 = .ok (.iadd, 1) := by decide +kernel
theorem dX5_depthOf_34 : decode cX5_depthOf 34 = .ok (.istore_n 3, 1) := by decide +kernel
theorem dX5_depthOf_35 : decode cX5_depthOf 35 = .ok (.iinc 4 1, 3) := by decide +kernel
theorem dX5_depthOf_38 : decode cX5_depthOf 38 = .ok (.goto (-33), 3) := by decide +kernel
theorem dX5_depthOf_41 : decode cX5_depthOf 41 = .ok (.iload_n 3, 1) := by decide +kernel
theorem dX5_depthOf_42 : decode cX5_depthOf 42 = .ok (.ireturn, 1) := by decide +kernel
set_option maxRecDepth 20000 in
theorem ggX5_type_X5_in : GoodIn wsX5_type wsX5_in := goodIn_r _ [7] (by decide +kernel) (by decide +kernel)
set_option maxRecDepth 20000 in
theorem gX5_type_X5_in : GoodIn wsX5_type (va_wsS RX5 81 yX5_in wsX5_in) := goodIn_app (goodIn_of _ (by decide +kernel)) ggX5_type_X5_in
theorem dX5_type_0 : decode cX5_type 0 = .ok (.aload_n 0, 1) := by decide +kernel
theorem dX5_type_1 : decode cX5_type 1 = .ok (.iconst 0, 1) := by decide +kernel
theorem dX5_type_2 : decode cX5_type 2 = .ok (.putfield 43, 3) := by decide +kernel
theorem dX5_type_5 : decode cX5_type 5 = .ok (.iload_n 1, 1) := by decide +kernel
theorem dX5_type_6 : decode cX5_type 6 = .ok (.bipush 97, 2) := by decide +kernel
theorem dX5_type_8 : decode cX5_type 8 = .ok (.bipush 122, 2) := by decide +kernel
theorem dX5_type_10 : decode cX5_type 10 = .ok (.invokestatic 81, 3) := by decide +kernel
theorem dX5_type_13 : decode cX5_type 13 = .ok (.ifCond .ne 5, 3) := by decide +kernel
theorem dX5_type_16 : decode cX5_type 16 = .ok (.iconst (-1), 1) := by decide +kernel
theorem dX5_type_17 : decode cX5_type 17 = .ok (.ireturn, 1) := by decide +kernel
theorem dX5_type_18 : decode cX5_type 18 = .ok (.aload_n 0, 1) := by decide +kernel
theorem dX5_type_19 : decode cX5_type 19 = .ok (.getfield 56, 3) := by decide +kernel
theorem dX5_type_22 : decode cX5_type 22 = .ok (.bipush 7, 2) := by decide +kernel
theorem dX5_type_24 : decode cX5_type 24 = .ok (.if_icmp .ne 6, 3) := by decide +kernel
theorem dX5_type_27 : decode cX5_type 27 = .ok (.bipush (-3), 2) := by decide +kernel
theorem dX5_type_29 : decode cX5_type 29 = .ok (.ireturn, 1) := by decide +kernel
theorem dX5_type_30 : decode cX5_type 30 = .ok (.aload_n 0, 1) := by decide +kernel
theorem dX5_type_31 : decode cX5_type 31 = .ok (.getfield 7, 3) := by decide +kernel
theorem dX5_type_34 : decode cX5_type 34 = .ok (.aload_n 0, 1) := by decide +kernel
theorem dX5_type_35 : decode cX5_type 35 = .ok (.getfield 56, 3) := by decide +kernel
theorem dX5_type_38 : decode cX5_type 38 = .ok (.iload_n 1, 1) := by decide +kernel
theorem dX5_type_39 : decode cX5_type 39 = .ok (.bipush 97, 2) := by decide +kernel
theorem dX5_type_41 : decode cX5_type 41 = .ok (.isub, 1) := by decide +kernel
theorem dX5_type_42 : decode cX5_type 42 = .ok (.iconst 1, 1) := by decide +kernel
theorem dX5_type_43 : decode cX5_type 43 = .ok (.iadd, 1) := by decide +kernel
theorem dX5_type_44 : decode cX5_type 44 = .ok (.iastore, 1) := by decide +kernel
theorem dX5_type_45 : decode cX5_type 45 = .ok (.aload_n 0, 1) := by decide +kernel
theorem dX5_type_46 : decode cX5_type 46 = .ok (.dup, 1) := by decide +kernel
theorem dX5_type_47 : decode cX5_type 47 = .ok (.getfield 56, 3) := by decide +kernel
theorem dX5_type_50 : decode cX5_type 50 = .ok (.iconst 1, 1) := by decide +kernel
theorem dX5_type_51 : decode cX5_type 51 = .ok (.iadd, 1) := by decide +kernel
theorem dX5_type_52 : decode cX5_type 52 = .ok (.putfield 56, 3) := by decide +kernel
theorem dX5_type_55 : decode cX5_type 55 = .ok (.aload_n 0, 1) := by decide +kernel
theorem dX5_type_56 : decode cX5_type 56 = .ok (.getfield 56, 3) := by decide +kernel
theorem dX5_type_59 : decode cX5_type 59 = .ok (.ireturn, 1) := by decide +kernel
theorem dX5_clear_0 : decode cX5_clear 0 = .ok (.aload_n 0, 1) := by decide +kernel
theorem dX5_clear_1 : decode cX5_clear 1 = .ok (.iconst 0, 1) := by decide +kernel
theorem dX5_clear_2 : decode cX5_clear 2 = .ok (.putfield 43, 3) := by decide +kernel
theorem dX5_clear_5 : decode cX5_clear 5 = .ok (.aload_n 0, 1) := by decide +kernel
theorem dX5_clear_6 : decode cX5_clear 6 = .ok (.getfield 56, 3) := by decide +kernel
theorem dX5_clear_9 : decode cX5_clear 9 = .ok (.istore_n 1, 1) := by decide +kernel
theorem dX5_clear_10 : decode cX5_clear 10 = .ok (.aload_n 0, 1) := by decide +kernel
theorem dX5_clear_11 : decode cX5_clear 11 = .ok (.iconst 0, 1) := by decide +kernel
theorem dX5_clear_12 : decode cX5_clear 12 = .ok (.putfield 56, 3) := by decide +kernel
theorem dX5_clear_15 : decode cX5_clear 15 = .ok (.iload_n 1, 1) := by decide +kernel
theorem dX5_clear_16 : decode cX5_clear 16 = .ok (.ireturn, 1) := by decide +kernel
set_option maxRecDepth 20000 in
theorem ggX5_bounds_X5_in : GoodIn wsX5_bounds wsX5_in := goodIn_r _ [8] (by decide +kernel) (by decide +kernel)
set_option maxRecDepth 20000 in
theorem gX5_bounds_X5_in : GoodIn wsX5_bounds (va_wsS RX5 81 yX5_in wsX5_in) := goodIn_app (goodIn_of _ (by decide +kernel)) ggX5_bounds_X5_in
theorem dX5_bounds_0 : decode cX5_bounds 0 = .ok (.aload_n 0, 1) := by decide +kernel
theorem dX5_bounds_1 : decode cX5_bounds 1 = .ok (.iconst 0, 1) := by decide +kernel
theorem dX5_bounds_2 : decode cX5_bounds 2 = .ok (.putfield 43, 3) := by decide +kernel
theorem dX5_bounds_5 : decode cX5_bounds 5 = .ok (.iload_n 1, 1) := by decide +kernel
theorem dX5_bounds_6 : decode cX5_bounds 6 = .ok (.iconst 2, 1) := by decide +kernel
theorem dX5_bounds_7 : decode cX5_bounds 7 = .ok (.bipush 8, 2) := by decide +kernel
theorem dX5_bounds_9 : decode cX5_bounds 9 = .ok (.invokestatic 81, 3) := by decide +kernel
theorem dX5_bounds_12 : decode cX5_bounds 12 = .ok (.ifCond .ne 5, 3) := by decide +kernel
theorem dX5_bounds_15 : decode cX5_bounds 15 = .ok (.iconst (-1), 1) := by decide +kernel
theorem dX5_bounds_16 : decode cX5_bounds 16 = .ok (.ireturn, 1) := by decide +kernel
theorem dX5_bounds_17 : decode cX5_bounds 17 = .ok (.aload_n 0, 1) := by decide +kernel
theorem dX5_bounds_18 : decode cX5_bounds 18 = .ok (.getfield 67, 3) := by decide +kernel
theorem dX5_bounds_21 : decode cX5_bounds 21 = .ok (.ifCond .le 6, 3) := by decide +kernel
theorem dX5_bounds_24 : decode cX5_bounds 24 = .ok (.bipush (-2), 2) := by decide +kernel
theorem dX5_bounds_26 : decode cX5_bounds 26 = .ok (.ireturn, 1) := by decide +kernel
theorem dX5_bounds_27 : decode cX5_bounds 27 = .ok (.aload_n 0, 1) := by decide +kernel
theorem dX5_bounds_28 : decode cX5_bounds 28 = .ok (.getfield 13, 3) := by decide +kernel
theorem dX5_bounds_31 : decode cX5_bounds 31 = .ok (.istore_n 2, 1) := by decide +kernel
theorem dX5_bounds_32 : decode cX5_bounds 32 = .ok (.aload_n 0, 1) := by decide +kernel
theorem dX5_bounds_33 : decode cX5_bounds 33 = .ok (.iload_n 1, 1) := by decide +kernel
theorem dX5_bounds_34 : decode cX5_bounds 34 = .ok (.putfield 13, 3) := by decide +kernel
theorem dX5_bounds_37 : decode cX5_bounds 37 = .ok (.aload_n 0, 1) := by decide +kernel
theorem dX5_bounds_38 : decode cX5_bounds 38 = .ok (.iconst 0, 1) := by decide +kernel
theorem dX5_bounds_39 : decode cX5_bounds 39 = .ok (.putfield 85, 3) := by decide +kernel
theorem dX5_bounds_42 : decode cX5_bounds 42 = .ok (.iload_n 2, 1) := by decide +kernel
theorem dX5_bounds_43 : decode cX5_bounds 43 = .ok (.ireturn, 1) := by decide +kernel
theorem dX5_notes_0 : decode cX5_notes 0 = .ok (.aload_n 0, 1) := by decide +kernel
theorem dX5_notes_1 : decode cX5_notes 1 = .ok (.getfield 85, 3) := by decide +kernel
theorem dX5_notes_4 : decode cX5_notes 4 = .ok (.bipush 12, 2) := by decide +kernel
theorem dX5_notes_6 : decode cX5_notes 6 = .ok (.if_icmp .ne 40, 3) := by decide +kernel
theorem dX5_notes_9 : decode cX5_notes 9 = .ok (.iconst 0, 1) := by decide +kernel
theorem dX5_notes_10 : decode cX5_notes 10 = .ok (.istore_n 1, 1) := by decide +kernel
theorem dX5_notes_11 : decode cX5_notes 11 = .ok (.iload_n 1, 1) := by decide +kernel
theorem dX5_notes_12 : decode cX5_notes 12 = .ok (.sipush 3102, 3) := by decide +kernel
theorem dX5_notes_15 : decode cX5_notes 15 = .ok (.if_icmp .ge 25, 3) := by decide +kernel
theorem dX5_notes_18 : decode cX5_notes 18 = .ok (.aload_n 0, 1) := by decide +kernel
theorem dX5_notes_19 : decode cX5_notes 19 = .ok (.getfield 27, 3) := by decide +kernel
theorem dX5_notes_22 : decode cX5_notes 22 = .ok (.iload_n 1, 1) := by decide +kernel
theorem dX5_notes_23 : decode cX5_notes 23 = .ok (.aload_n 0, 1) := by decide +kernel
theorem dX5_notes_24 : decode cX5_notes 24 = .ok (.getfield 27, 3) := by decide +kernel
theorem dX5_notes_27 : decode cX5_notes 27 = .ok (.iload_n 1, 1) := by decide +kernel
theorem dX5_notes_28 : decode cX5_notes 28 = .ok (.sipush 282, 3) := by decide +kernel
theorem dX5_notes_31 : decode cX5_notes 31 = .ok (.iadd, 1) := by decide +kernel
theorem dX5_notes_32 : decode cX5_notes 32 = .ok (.laload, 1) := by decide +kernel
theorem dX5_notes_33 : decode cX5_notes 33 = .ok (.lastore, 1) := by decide +kernel
theorem dX5_notes_34 : decode cX5_notes 34 = .ok (.iinc 1 1, 3) := by decide +kernel
theorem dX5_notes_37 : decode cX5_notes 37 = .ok (.goto (-26), 3) := by decide +kernel
theorem dX5_notes_40 : decode cX5_notes 40 = .ok (.aload_n 0, 1) := by decide +kernel
theorem dX5_notes_41 : decode cX5_notes 41 = .ok (.bipush 11, 2) := by decide +kernel
theorem dX5_notes_43 : decode cX5_notes 43 = .ok (.putfield 85, 3) := by decide +kernel
theorem dX5_notes_46 : decode cX5_notes 46 = .ok (.sipush 282, 3) := by decide +kernel
theorem dX5_notes_49 : decode cX5_notes 49 = .ok (.aload_n 0, 1) := by decide +kernel
theorem dX5_notes_50 : decode cX5_notes 50 = .ok (.getfield 85, 3) := by decide +kernel
theorem dX5_notes_53 : decode cX5_notes 53 = .ok (.imul, 1) := by decide +kernel
theorem dX5_notes_54 : decode cX5_notes 54 = .ok (.istore_n 1, 1) := by decide +kernel
theorem dX5_notes_55 : decode cX5_notes 55 = .ok (.aload_n 0, 1) := by decide +kernel
theorem dX5_notes_56 : decode cX5_notes 56 = .ok (.getfield 27, 3) := by decide +kernel
theorem dX5_notes_59 : decode cX5_notes 59 = .ok (.iload_n 1, 1) := by decide +kernel
theorem dX5_notes_60 : decode cX5_notes 60 = .ok (.aload_n 0, 1) := by decide +kernel
theorem dX5_notes_61 : decode cX5_notes 61 = .ok (.getfield 67, 3) := by decide +kernel
theorem dX5_notes_64 : decode cX5_notes 64 = .ok (.i2l, 1) := by decide +kernel
theorem dX5_notes_65 : decode cX5_notes 65 = .ok (.lastore, 1) := by decide +kernel
theorem dX5_notes_66 : decode cX5_notes 66 = .ok (.aload_n 0, 1) := by decide +kernel
theorem dX5_notes_67 : decode cX5_notes 67 = .ok (.getfield 27, 3) := by decide +kernel
theorem dX5_notes_70 : decode cX5_notes 70 = .ok (.iload_n 1, 1) := by decide +kernel
theorem dX5_notes_71 : decode cX5_notes 71 = .ok (.iconst 1, 1) := by decide +kernel
theorem dX5_notes_72 : decode cX5_notes 72 = .ok (.iadd, 1) := by decide +kernel
theorem dX5_notes_73 : decode cX5_notes 73 = .ok (.aload_n 0, 1) := by decide +kernel
theorem dX5_notes_74 : decode cX5_notes 74 = .ok (.getfield 74, 3) := by decide +kernel
theorem dX5_notes_77 : decode cX5_notes 77 = .ok (.i2l, 1) := by decide +kernel
theorem dX5_notes_78 : decode cX5_notes 78 = .ok (.lastore, 1) := by decide +kernel
theorem dX5_notes_79 : decode cX5_notes 79 = .ok (.iconst 0, 1) := by decide +kernel
theorem dX5_notes_80 : decode cX5_notes 80 = .ok (.istore_n 2, 1) := by decide +kernel
theorem dX5_notes_81 : decode cX5_notes 81 = .ok (.iload_n 2, 1) := by decide +kernel
theorem dX5_notes_82 : decode cX5_notes 82 = .ok (.bipush 40, 2) := by decide +kernel
theorem dX5_notes_84 : decode cX5_notes 84 = .ok (.if_icmp .ge 43, 3) := by decide +kernel
theorem dX5_notes_87 : decode cX5_notes 87 = .ok (.aload_n 0, 1) := by decide +kernel
theorem dX5_notes_88 : decode cX5_notes 88 = .ok (.getfield 27, 3) := by decide +kernel
theorem dX5_notes_91 : decode cX5_notes 91 = .ok (.iload_n 1, 1) := by decide +kernel
theorem dX5_notes_92 : decode cX5_notes 92 = .ok (.iconst 2, 1) := by decide +kernel
theorem dX5_notes_93 : decode cX5_notes 93 = .ok (.iadd, 1) := by decide +kernel
theorem dX5_notes_94 : decode cX5_notes 94 = .ok (.iload_n 2, 1) := by decide +kernel
theorem dX5_notes_95 : decode cX5_notes 95 = .ok (.iadd, 1) := by decide +kernel
theorem dX5_notes_96 : decode cX5_notes 96 = .ok (.aload_n 0, 1) := by decide +kernel
theorem dX5_notes_97 : decode cX5_notes 97 = .ok (.getfield 17, 3) := by decide +kernel
theorem dX5_notes_100 : decode cX5_notes 100 = .ok (.iload_n 2, 1) := by decide +kernel
theorem dX5_notes_101 : decode cX5_notes 101 = .ok (.laload, 1) := by decide +kernel
theorem dX5_notes_102 : decode cX5_notes 102 = .ok (.lastore, 1) := by decide +kernel
theorem dX5_notes_103 : decode cX5_notes 103 = .ok (.aload_n 0, 1) := by decide +kernel
theorem dX5_notes_104 : decode cX5_notes 104 = .ok (.getfield 27, 3) := by decide +kernel
theorem dX5_notes_107 : decode cX5_notes 107 = .ok (.iload_n 1, 1) := by decide +kernel
theorem dX5_notes_108 : decode cX5_notes 108 = .ok (.bipush 42, 2) := by decide +kernel
theorem dX5_notes_110 : decode cX5_notes 110 = .ok (.iadd, 1) := by decide +kernel
theorem dX5_notes_111 : decode cX5_notes 111 = .ok (.iload_n 2, 1) := by decide +kernel
theorem dX5_notes_112 : decode cX5_notes 112 = .ok (.iadd, 1) := by decide +kernel
theorem dX5_notes_113 : decode cX5_notes 113 = .ok (.aload_n 0, 1) := by decide +kernel
theorem dX5_notes_114 : decode cX5_notes 114 = .ok (.getfield 21, 3) := by decide +kernel
theorem dX5_notes_117 : decode cX5_notes 117 = .ok (.iload_n 2, 1) := by decide +kernel
theorem dX5_notes_118 : decode cX5_notes 118 = .ok (.iaload, 1) := by decide +kernel
theorem dX5_notes_119 : decode cX5_notes 119 = .ok (.i2l, 1) := by decide +kernel
theorem dX5_notes_120 : decode cX5_notes 120 = .ok (.lastore, 1) := by decide +kernel
theorem dX5_notes_121 : decode cX5_notes 121 = .ok (.iinc 2 1, 3) := by decide +kernel
theorem dX5_notes_124 : decode cX5_notes 124 = .ok (.goto (-43), 3) := by decide +kernel
theorem dX5_notes_127 : decode cX5_notes 127 = .ok (.iconst 0, 1) := by decide +kernel
theorem dX5_notes_128 : decode cX5_notes 128 = .ok (.istore_n 2, 1) := by decide +kernel
theorem dX5_notes_129 : decode cX5_notes 129 = .ok (.iload_n 2, 1) := by decide +kernel
theorem dX5_notes_130 : decode cX5_notes 130 = .ok (.sipush 200, 3) := by decide +kernel
theorem dX5_notes_133 : decode cX5_notes 133 = .ok (.if_icmp .ge 26, 3) := by decide +kernel
theorem dX5_notes_136 : decode cX5_notes 136 = .ok (.aload_n 0, 1) := by decide +kernel
theorem dX5_notes_137 : decode cX5_notes 137 = .ok (.getfield 27, 3) := by decide +kernel
theorem dX5_notes_140 : decode cX5_notes 140 = .ok (.iload_n 1, 1) := by decide +kernel
theorem dX5_notes_141 : decode cX5_notes 141 = .ok (.bipush 82, 2) := by decide +kernel
theorem dX5_notes_143 : decode cX5_notes 143 = .ok (.iadd, 1) := by decide +kernel
theorem dX5_notes_144 : decode cX5_notes 144 = .ok (.iload_n 2, 1) := by decide +kernel
theorem dX5_notes_145 : decode cX5_notes 145 = .ok (.iadd, 1) := by decide +kernel
theorem dX5_notes_146 : decode cX5_notes 146 = .ok (.aload_n 0, 1) := by decide +kernel
theorem dX5_notes_147 : decode cX5_notes 147 = .ok (.getfield 24, 3) := by decide +kernel
theorem dX5_notes_150 : decode cX5_notes 150 = .ok (.iload_n 2, 1) := by decide +kernel
theorem dX5_notes_151 : decode cX5_notes 151 = .ok (.laload, 1) := by decide +kernel
theorem dX5_notes_152 : decode cX5_notes 152 = .ok (.lastore, 1) := by decide +kernel
theorem dX5_notes_153 : decode cX5_notes 153 = .ok (.iinc 2 1, 3) := by decide +kernel
theorem dX5_notes_156 : decode cX5_notes 156 = .ok (.goto (-27), 3) := by decide +kernel
theorem dX5_notes_159 : decode cX5_notes 159 = .ok (.aload_n 0, 1) := by decide +kernel
theorem dX5_notes_160 : decode cX5_notes 160 = .ok (.dup, 1) := by decide +kernel
theorem dX5_notes_161 : decode cX5_notes 161 = .ok (.getfield 85, 3) := by decide +kernel
theorem dX5_notes_164 : decode cX5_notes 164 = .ok (.iconst 1, 1) := by decide +kernel
theorem dX5_notes_165 : decode cX5_notes 165 = .ok (.iadd, 1) := by decide +kernel
theorem dX5_notes_166 : decode cX5_notes 166 = .ok (.putfield 85, 3) := by decide +kernel
theorem dX5_notes_169 : decode cX5_notes 169 = .ok (.return_, 1) := by decide +kernel
set_option maxRecDepth 20000 in
theorem ggX5_bursts_X5_containerSize : GoodIn wsX5_bursts wsX5_containerSize := goodIn_r _ [8, 9, 10, 7, 11, 12, 13, 14, 15, 16, 17, 18, 19, 20, 21, 22, 23, 24, 25, 3, 2, 35, 36, 37, 38, 39, 40, 41, 42, 43, 44, 45, 46, 47, 48, 49, 50] (by decide +kernel) (by decide +kernel)
set_option maxRecDepth 20000 in
theorem gX5_bursts_X5_containerSize : GoodIn wsX5_bursts (wsV RX5 88 RX5 yX5_containerSize wsX5_containerSize) := goodIn_app (goodIn_of _ (by decide +kernel)) ggX5_bursts_X5_containerSize
set_option maxRecDepth 20000 in
theorem ggX5_bursts_X5_head : GoodIn wsX5_bursts wsX5_head := goodIn_r _ [21, 16, 17, 7, 18, 15] (by decide +kernel) (by decide +kernel)
set_option maxRecDepth 20000 in
theorem gX5_bursts_X5_head : GoodIn wsX5_bursts (va_wsS RX5 63 yX5_head wsX5_head) := goodIn_app (goodIn_of _ (by decide +kernel)) ggX5_bursts_X5_head
set_option maxRecDepth 20000 in
theorem ggX5_bursts_X5_beginning : GoodIn wsX5_bursts wsX5_beginning := goodIn_r _ [29, 30, 31, 32, 33, 7, 34, 9, 10, 11, 12, 13, 14, 15, 16, 17, 18, 19, 20, 21, 35, 36, 37, 38, 39, 40, 41, 42, 43, 44, 45, 46, 47, 48, 49, 50] (by decide +kernel) (by decide +kernel)
set_option maxRecDepth 20000 in
theorem gX5_bursts_X5_beginning : GoodIn wsX5_bursts (wsV RX5 91 RX5 yX5_beginning wsX5_beginning) := goodIn_app (goodIn_of _ (by decide +kernel)) ggX5_bursts_X5_beginning
theorem dX5_bursts_0 : decode cX5_bursts 0 = .ok (.aload_n 0, 1) := by decide +kernel
theorem dX5_bursts_1 : decode cX5_bursts 1 = .ok (.lload_n 1, 1) := by decide +kernel
theorem dX5_bursts_2 : decode cX5_bursts 2 = .ok (.invokevirtual 88, 3) := by decide +kernel
theorem dX5_bursts_5 : decode cX5_bursts 5 = .ok (.istore_n 3, 1) := by decide +kernel
theorem dX5_bursts_6 : decode cX5_bursts 6 = .ok (.iload_n 3, 1) := by decide +kernel
theorem dX5_bursts_7 : decode cX5_bursts 7 = .ok (.ifCond .lt 52, 3) := by decide +kernel
theorem dX5_bursts_10 : decode cX5_bursts 10 = .ok (.aload_n 0, 1) := by decide +kernel
theorem dX5_bursts_11 : decode cX5_bursts 11 = .ok (.lload_n 1, 1) := by decide +kernel
theorem dX5_bursts_12 : decode cX5_bursts 12 = .ok (.iload_n 3, 1) := by decide +kernel
theorem dX5_bursts_13 : decode cX5_bursts 13 = .ok (.invokestatic 63, 3) := by decide +kernel
theorem dX5_bursts_16 : decode cX5_bursts 16 = .ok (.invokevirtual 91, 3) := by decide +kernel
theorem dX5_bursts_19 : decode cX5_bursts 19 = .ok (.aload_n 0, 1) := by decide +kernel
theorem dX5_bursts_20 : decode cX5_bursts 20 = .ok (.getfield 13, 3) := by decide +kernel
theorem dX5_bursts_23 : decode cX5_bursts 23 = .ok (.if_icmp .le 36, 3) := by decide +kernel
theorem dX5_bursts_26 : decode cX5_bursts 26 = .ok (.aload_n 0, 1) := by decide +kernel
theorem dX5_bursts_27 : decode cX5_bursts 27 = .ok (.getfield 24, 3) := by decide +kernel
theorem dX5_bursts_30 : decode cX5_bursts 30 = .ok (.aload_n 0, 1) := by decide +kernel
theorem dX5_bursts_31 : decode cX5_bursts 31 = .ok (.getfield 74, 3) := by decide +kernel
theorem dX5_bursts_34 : decode cX5_bursts 34 = .ok (.lload_n 1, 1) := by decide +kernel
theorem dX5_bursts_35 : decode cX5_bursts 35 = .ok (.iload_n 3, 1) := by decide +kernel
theorem dX5_bursts_36 : decode cX5_bursts 36 = .ok (.invokestatic 63, 3) := by decide +kernel
theorem dX5_bursts_39 : decode cX5_bursts 39 = .ok (.lastore, 1) := by decide +kernel
theorem dX5_bursts_40 : decode cX5_bursts 40 = .ok (.aload_n 0, 1) := by decide +kernel
theorem dX5_bursts_41 : decode cX5_bursts 41 = .ok (.dup, 1) := by decide +kernel
theorem dX5_bursts_42 : decode cX5_bursts 42 = .ok (.getfield 74, 3) := by decide +kernel
theorem dX5_bursts_45 : decode cX5_bursts 45 = .ok (.iconst 1, 1) := by decide +kernel
theorem dX5_bursts_46 : decode cX5_bursts 46 = .ok (.iadd, 1) := by decide +kernel
theorem dX5_bursts_47 : decode cX5_bursts 47 = .ok (.putfield 74, 3) := by decide +kernel
theorem dX5_bursts_50 : decode cX5_bursts 50 = .ok (.aload_n 0, 1) := by decide +kernel
theorem dX5_bursts_51 : decode cX5_bursts 51 = .ok (.lload_n 1, 1) := by decide +kernel
theorem dX5_bursts_52 : decode cX5_bursts 52 = .ok (.invokevirtual 88, 3) := by decide +kernel
theorem dX5_bursts_55 : decode cX5_bursts 55 = .ok (.istore_n 3, 1) := by decide +kernel
theorem dX5_bursts_56 : decode cX5_bursts 56 = .ok (.goto (-50), 3) := by decide +kernel
theorem dX5_bursts_59 : decode cX5_bursts 59 = .ok (.return_, 1) := by decide +kernel
set_option maxRecDepth 20000 in
theorem ggX5_adds_X5_own : GoodIn wsX5_adds wsX5_own := goodIn_r _ [10, 11, 2, 12, 57, 58, 59, 60, 61, 62, 63, 64, 65, 66, 67, 68, 69, 70, 71, 72] (by decide +kernel) (by decide +kernel)
set_option maxRecDepth 20000 in
theorem gX5_adds_X5_own : GoodIn wsX5_adds (wsV RX5 94 RX5 yX5_own wsX5_own) := goodIn_app (goodIn_of _ (by decide +kernel)) ggX5_adds_X5_own
set_option maxRecDepth 20000 in
theorem ggX5_adds_X5_placeOf : GoodIn wsX5_adds wsX5_placeOf := goodIn_r _ [16, 3, 5, 57, 58, 59, 60, 61, 62, 63, 64, 65, 66, 67, 68, 69, 70, 71, 72] (by decide +kernel) (by decide +kernel)
set_option maxRecDepth 20000 in
theorem gX5_adds_X5_placeOf : GoodIn wsX5_adds (wsV RX5 98 RX5 yX5_placeOf wsX5_placeOf) := goodIn_app (goodIn_of _ (by decide +kernel)) ggX5_adds_X5_placeOf
set_option maxRecDepth 20000 in
theorem ggX5_adds_X5_notes : GoodIn wsX5_adds wsX5_notes := goodIn_r _ [20, 21, 22, 3, 23, 5, 4, 24, 57, 58, 59, 60, 61, 62, 63, 64, 65, 66, 67, 68, 69, 70, 71, 72] (by decide +kernel) (by decide +kernel)
set_option maxRecDepth 20000 in
theorem gX5_adds_X5_notes : GoodIn wsX5_adds (wsV RX5 101 RX5 yX5_notes wsX5_notes) := goodIn_app (goodIn_of _ (by decide +kernel)) ggX5_adds_X5_notes
set_option maxRecDepth 20000 in
theorem ggX5_adds_X5_bursts : GoodIn wsX5_adds wsX5_bursts := goodIn_r _ [28, 29, 24, 23, 30, 31, 32, 9, 33, 34, 35, 36, 37, 38, 39, 11, 40, 41, 42, 43, 44, 45, 46, 47, 48, 49, 50, 51, 52, 53, 3, 5, 54, 55, 56, 57, 58, 59, 60, 61, 62, 63, 64, 65, 66, 67, 68, 69, 70, 71, 72] (by decide +kernel) (by decide +kernel)
set_option maxRecDepth 20000 in
theorem gX5_adds_X5_bursts : GoodIn wsX5_adds (wsV RX5 104 RX5 yX5_bursts wsX5_bursts) := goodIn_app (goodIn_of _ (by decide +kernel)) ggX5_adds_X5_bursts
theorem dX5_adds_0 : decode cX5_adds 0 = .ok (.aload_n 0, 1) := by decide +kernel
theorem dX5_adds_1 : decode cX5_adds 1 = .ok (.iconst 0, 1) := by decide +kernel
theorem dX5_adds_2 : decode cX5_adds 2 = .ok (.putfield 43, 3) := by decide +kernel
theorem dX5_adds_5 : decode cX5_adds 5 = .ok (.aload_n 0, 1) := by decide +kernel
theorem dX5_adds_6 : decode cX5_adds 6 = .ok (.invokevirtual 94, 3) := by decide +kernel
theorem dX5_adds_9 : decode cX5_adds 9 = .ok (.lstore_n 1, 1) := by decide +kernel
theorem dX5_adds_10 : decode cX5_adds 10 = .ok (.aload_n 0, 1) := by decide +kernel
theorem dX5_adds_11 : decode cX5_adds 11 = .ok (.lload_n 1, 1) := by decide +kernel
theorem dX5_adds_12 : decode cX5_adds 12 = .ok (.invokevirtual 98, 3) := by decide +kernel
theorem dX5_adds_15 : decode cX5_adds 15 = .ok (.istore_n 3, 1) := by decide +kernel
theorem dX5_adds_16 : decode cX5_adds 16 = .ok (.aload_n 0, 1) := by decide +kernel
theorem dX5_adds_17 : decode cX5_adds 17 = .ok (.getfield 56, 3) := by decide +kernel
theorem dX5_adds_20 : decode cX5_adds 20 = .ok (.ifCond .ne 5, 3) := by decide +kernel
theorem dX5_adds_23 : decode cX5_adds 23 = .ok (.iconst (-1), 1) := by decide +kernel
theorem dX5_adds_24 : decode cX5_adds 24 = .ok (.ireturn, 1) := by decide +kernel
theorem dX5_adds_25 : decode cX5_adds 25 = .ok (.iload_n 3, 1) := by decide +kernel
theorem dX5_adds_26 : decode cX5_adds 26 = .ok (.ifCond .ge 12, 3) := by decide +kernel
theorem dX5_adds_29 : decode cX5_adds 29 = .ok (.aload_n 0, 1) := by decide +kernel
theorem dX5_adds_30 : decode cX5_adds 30 = .ok (.getfield 67, 3) := by decide +kernel
theorem dX5_adds_33 : decode cX5_adds 33 = .ok (.bipush 40, 2) := by decide +kernel
theorem dX5_adds_35 : decode cX5_adds 35 = .ok (.if_icmp .eq 18, 3) := by decide +kernel
theorem dX5_adds_38 : decode cX5_adds 38 = .ok (.iload_n 3, 1) := by decide +kernel
theorem dX5_adds_39 : decode cX5_adds 39 = .ok (.ifCond .lt 17, 3) := by decide +kernel
theorem dX5_adds_42 : decode cX5_adds 42 = .ok (.aload_n 0, 1) := by decide +kernel
theorem dX5_adds_43 : decode cX5_adds 43 = .ok (.getfield 21, 3) := by decide +kernel
theorem dX5_adds_46 : decode cX5_adds 46 = .ok (.iload_n 3, 1) := by decide +kernel
theorem dX5_adds_47 : decode cX5_adds 47 = .ok (.iaload, 1) := by decide +kernel
theorem dX5_adds_48 : decode cX5_adds 48 = .ok (.bipush 99, 2) := by decide +kernel
theorem dX5_adds_50 : decode cX5_adds 50 = .ok (.if_icmp .ne 6, 3) := by decide +kernel
theorem dX5_adds_53 : decode cX5_adds 53 = .ok (.bipush (-3), 2) := by decide +kernel
theorem dX5_adds_55 : decode cX5_adds 55 = .ok (.ireturn, 1) := by decide +kernel
theorem dX5_adds_56 : decode cX5_adds 56 = .ok (.aload_n 0, 1) := by decide +kernel
theorem dX5_adds_57 : decode cX5_adds 57 = .ok (.invokevirtual 101, 3) := by decide +kernel
theorem dX5_adds_60 : decode cX5_adds 60 = .ok (.iload_n 3, 1) := by decide +kernel
theorem dX5_adds_61 : decode cX5_adds 61 = .ok (.ifCond .lt 20, 3) := by decide +kernel
theorem dX5_adds_64 : decode cX5_adds 64 = .ok (.aload_n 0, 1) := by decide +kernel
theorem dX5_adds_65 : decode cX5_adds 65 = .ok (.getfield 21, 3) := by decide +kernel
theorem dX5_adds_68 : decode cX5_adds 68 = .ok (.iload_n 3, 1) := by decide +kernel
theorem dX5_adds_69 : decode cX5_adds 69 = .ok (.dup2, 1) := by decide +kernel
theorem dX5_adds_70 : decode cX5_adds 70 = .ok (.iaload, 1) := by decide +kernel
theorem dX5_adds_71 : decode cX5_adds 71 = .ok (.iconst 1, 1) := by decide +kernel
theorem dX5_adds_72 : decode cX5_adds 72 = .ok (.iadd, 1) := by decide +kernel
theorem dX5_adds_73 : decode cX5_adds 73 = .ok (.iastore, 1) := by decide +kernel
theorem dX5_adds_74 : decode cX5_adds 74 = .ok (.aload_n 0, 1) := by decide +kernel
theorem dX5_adds_75 : decode cX5_adds 75 = .ok (.getfield 21, 3) := by decide +kernel
theorem dX5_adds_78 : decode cX5_adds 78 = .ok (.iload_n 3, 1) := by decide +kernel
theorem dX5_adds_79 : decode cX5_adds 79 = .ok (.iaload, 1) := by decide +kernel
theorem dX5_adds_80 : decode cX5_adds 80 = .ok (.ireturn, 1) := by decide +kernel
theorem dX5_adds_81 : decode cX5_adds 81 = .ok (.aload_n 0, 1) := by decide +kernel
theorem dX5_adds_82 : decode cX5_adds 82 = .ok (.getfield 67, 3) := by decide +kernel
theorem dX5_adds_85 : decode cX5_adds 85 = .ok (.istore 4, 2) := by decide +kernel
theorem dX5_adds_87 : decode cX5_adds 87 = .ok (.iload 4, 2) := by decide +kernel
theorem dX5_adds_89 : decode cX5_adds 89 = .ok (.ifCond .le 55, 3) := by decide +kernel
theorem dX5_adds_92 : decode cX5_adds 92 = .ok (.aload_n 0, 1) := by decide +kernel
theorem dX5_adds_93 : decode cX5_adds 93 = .ok (.getfield 17, 3) := by decide +kernel
theorem dX5_adds_96 : decode cX5_adds 96 = .ok (.iload 4, 2) := by decide +kernel
theorem dX5_adds_98 : decode cX5_adds 98 = .ok (.iconst 1, 1) := by decide +kernel
theorem dX5_adds_99 : decode cX5_adds 99 = .ok (.isub, 1) := by decide +kernel
theorem dX5_adds_100 : decode cX5_adds 100 = .ok (.laload, 1) := by decide +kernel
theorem dX5_adds_101 : decode cX5_adds 101 = .ok (.lload_n 1, 1) := by decide +kernel
theorem dX5_adds_102 : decode cX5_adds 102 = .ok (.lcmp, 1) := by decide +kernel
theorem dX5_adds_103 : decode cX5_adds 103 = .ok (.ifCond .le 41, 3) := by decide +kernel
theorem dX5_adds_106 : decode cX5_adds 106 = .ok (.aload_n 0, 1) := by decide +kernel
theorem dX5_adds_107 : decode cX5_adds 107 = .ok (.getfield 17, 3) := by decide +kernel
theorem dX5_adds_110 : decode cX5_adds 110 = .ok (.iload 4, 2) := by decide +kernel
theorem dX5_adds_112 : decode cX5_adds 112 = .ok (.aload_n 0, 1) := by decide +kernel
theorem dX5_adds_113 : decode cX5_adds 113 = .ok (.getfield 17, 3) := by decide +kernel
theorem dX5_adds_116 : decode cX5_adds 116 = .ok (.iload 4, 2) := by decide +kernel
theorem dX5_adds_118 : decode cX5_adds 118 = .ok (.iconst 1, 1) := by decide +kernel
theorem dX5_adds_119 : decode cX5_adds 119 = .ok (.isub, 1) := by decide +kernel
theorem dX5_adds_120 : decode cX5_adds 120 = .ok (.laload, 1) := by decide +kernel
theorem dX5_adds_121 : decode cX5_adds 121 = .ok (.lastore, 1) := by decide +kernel
theorem dX5_adds_122 : decode cX5_adds 122 = .ok (.aload_n 0, 1) := by decide +kernel
theorem dX5_adds_123 : decode cX5_adds 123 = .ok (.getfield 21, 3) := by decide +kernel
theorem dX5_adds_126 : decode cX5_adds 126 = .ok (.iload 4, 2) := by decide +kernel
theorem dX5_adds_128 : decode cX5_adds 128 = .ok (.aload_n 0, 1) := by decide +kernel
theorem dX5_adds_129 : decode cX5_adds 129 = .ok (.getfield 21, 3) := by decide +kernel
theorem dX5_adds_132 : decode cX5_adds 132 = .ok (.iload 4, 2) := by decide +kernel
theorem dX5_adds_134 : decode cX5_adds 134 = .ok (.iconst 1, 1) := by decide +kernel
theorem dX5_adds_135 : decode cX5_adds 135 = .ok (.isub, 1) := by decide +kernel
theorem dX5_adds_136 : decode cX5_adds 136 = .ok (.iaload, 1) := by decide +kernel
theorem dX5_adds_137 : decode cX5_adds 137 = .ok (.iastore, 1) := by decide +kernel
theorem dX5_adds_138 : decode cX5_adds 138 = .ok (.iinc 4 (-1), 3) := by decide +kernel
theorem dX5_adds_141 : decode cX5_adds 141 = .ok (.goto (-54), 3) := by decide +kernel
theorem dX5_adds_144 : decode cX5_adds 144 = .ok (.aload_n 0, 1) := by decide +kernel
theorem dX5_adds_145 : decode cX5_adds 145 = .ok (.getfield 17, 3) := by decide +kernel
theorem dX5_adds_148 : decode cX5_adds 148 = .ok (.iload 4, 2) := by decide +kernel
theorem dX5_adds_150 : decode cX5_adds 150 = .ok (.lload_n 1, 1) := by decide +kernel
theorem dX5_adds_151 : decode cX5_adds 151 = .ok (.lastore, 1) := by decide +kernel
theorem dX5_adds_152 : decode cX5_adds 152 = .ok (.aload_n 0, 1) := by decide +kernel
theorem dX5_adds_153 : decode cX5_adds 153 = .ok (.getfield 21, 3) := by decide +kernel
theorem dX5_adds_156 : decode cX5_adds 156 = .ok (.iload 4, 2) := by decide +kernel
theorem dX5_adds_158 : decode cX5_adds 158 = .ok (.iconst 1, 1) := by decide +kernel
theorem dX5_adds_159 : decode cX5_adds 159 = .ok (.iastore, 1) := by decide +kernel
theorem dX5_adds_160 : decode cX5_adds 160 = .ok (.aload_n 0, 1) := by decide +kernel
theorem dX5_adds_161 : decode cX5_adds 161 = .ok (.dup, 1) := by decide +kernel
theorem dX5_adds_162 : decode cX5_adds 162 = .ok (.getfield 67, 3) := by decide +kernel
theorem dX5_adds_165 : decode cX5_adds 165 = .ok (.iconst 1, 1) := by decide +kernel
theorem dX5_adds_166 : decode cX5_adds 166 = .ok (.iadd, 1) := by decide +kernel
theorem dX5_adds_167 : decode cX5_adds 167 = .ok (.putfield 67, 3) := by decide +kernel
theorem dX5_adds_170 : decode cX5_adds 170 = .ok (.aload_n 0, 1) := by decide +kernel
theorem dX5_adds_171 : decode cX5_adds 171 = .ok (.lload_n 1, 1) := by decide +kernel
theorem dX5_adds_172 : decode cX5_adds 172 = .ok (.invokevirtual 104, 3) := by decide +kernel
theorem dX5_adds_175 : decode cX5_adds 175 = .ok (.iconst 1, 1) := by decide +kernel
theorem dX5_adds_176 : decode cX5_adds 176 = .ok (.ireturn, 1) := by decide +kernel
theorem dX5_leaves_0 : decode cX5_leaves 0 = .ok (.iconst 0, 1) := by decide +kernel
theorem dX5_leaves_1 : decode cX5_leaves 1 = .ok (.istore_n 3, 1) := by decide +kernel
theorem dX5_leaves_2 : decode cX5_leaves 2 = .ok (.aload_n 0, 1) := by decide +kernel
theorem dX5_leaves_3 : decode cX5_leaves 3 = .ok (.getfield 24, 3) := by decide +kernel
theorem dX5_leaves_6 : decode cX5_leaves 6 = .ok (.iload_n 3, 1) := by decide +kernel
theorem dX5_leaves_7 : decode cX5_leaves 7 = .ok (.laload, 1) := by decide +kernel
theorem dX5_leaves_8 : decode cX5_leaves 8 = .ok (.lload_n 1, 1) := by decide +kernel
theorem dX5_leaves_9 : decode cX5_leaves 9 = .ok (.lcmp, 1) := by decide +kernel
theorem dX5_leaves_10 : decode cX5_leaves 10 = .ok (.ifCond .eq 9, 3) := by decide +kernel
theorem dX5_leaves_13 : decode cX5_leaves 13 = .ok (.iinc 3 1, 3) := by decide +kernel
theorem dX5_leaves_16 : decode cX5_leaves 16 = .ok (.goto (-14), 3) := by decide +kernel
theorem dX5_leaves_19 : decode cX5_leaves 19 = .ok (.iload_n 3, 1) := by decide +kernel
theorem dX5_leaves_20 : decode cX5_leaves 20 = .ok (.istore 4, 2) := by decide +kernel
theorem dX5_leaves_22 : decode cX5_leaves 22 = .ok (.iload 4, 2) := by decide +kernel
theorem dX5_leaves_24 : decode cX5_leaves 24 = .ok (.iconst 1, 1) := by decide +kernel
theorem dX5_leaves_25 : decode cX5_leaves 25 = .ok (.iadd, 1) := by decide +kernel
theorem dX5_leaves_26 : decode cX5_leaves 26 = .ok (.aload_n 0, 1) := by decide +kernel
theorem dX5_leaves_27 : decode cX5_leaves 27 = .ok (.getfield 74, 3) := by decide +kernel
theorem dX5_leaves_30 : decode cX5_leaves 30 = .ok (.if_icmp .ge 25, 3) := by decide +kernel
theorem dX5_leaves_33 : decode cX5_leaves 33 = .ok (.aload_n 0, 1) := by decide +kernel
theorem dX5_leaves_34 : decode cX5_leaves 34 = .ok (.getfield 24, 3) := by decide +kernel
theorem dX5_leaves_37 : decode cX5_leaves 37 = .ok (.iload 4, 2) := by decide +kernel
theorem dX5_leaves_39 : decode cX5_leaves 39 = .ok (.aload_n 0, 1) := by decide +kernel
theorem dX5_leaves_40 : decode cX5_leaves 40 = .ok (.getfield 24, 3) := by decide +kernel
theorem dX5_leaves_43 : decode cX5_leaves 43 = .ok (.iload 4, 2) := by decide +kernel
theorem dX5_leaves_45 : decode cX5_leaves 45 = .ok (.iconst 1, 1) := by decide +kernel
theorem dX5_leaves_46 : decode cX5_leaves 46 = .ok (.iadd, 1) := by decide +kernel
theorem dX5_leaves_47 : decode cX5_leaves 47 = .ok (.laload, 1) := by decide +kernel
theorem dX5_leaves_48 : decode cX5_leaves 48 = .ok (.lastore, 1) := by decide +kernel
theorem dX5_leaves_49 : decode cX5_leaves 49 = .ok (.iinc 4 1, 3) := by decide +kernel
theorem dX5_leaves_52 : decode cX5_leaves 52 = .ok (.goto (-30), 3) := by decide +kernel
theorem dX5_leaves_55 : decode cX5_leaves 55 = .ok (.aload_n 0, 1) := by decide +kernel
theorem dX5_leaves_56 : decode cX5_leaves 56 = .ok (.dup, 1) := by decide +kernel
theorem dX5_leaves_57 : decode cX5_leaves 57 = .ok (.getfield 74, 3) := by decide +kernel
theorem dX5_leaves_60 : decode cX5_leaves 60 = .ok (.iconst 1, 1) := by decide +kernel
theorem dX5_leaves_61 : decode cX5_leaves 61 = .ok (.isub, 1) := by decide +kernel
theorem dX5_leaves_62 : decode cX5_leaves 62 = .ok (.putfield 74, 3) := by decide +kernel
theorem dX5_leaves_65 : decode cX5_leaves 65 = .ok (.return_, 1) := by decide +kernel
set_option maxRecDepth 20000 in
theorem ggX5_shrinks_X5_size : GoodIn wsX5_shrinks wsX5_size := goodIn_r _ [5, 6, 7, 4, 8, 9, 10, 11, 12] (by decide +kernel) (by decide +kernel)
set_option maxRecDepth 20000 in
theorem gX5_shrinks_X5_size : GoodIn wsX5_shrinks (va_wsS RX5 59 yX5_size wsX5_size) := goodIn_app (goodIn_of _ (by decide +kernel)) ggX5_shrinks_X5_size
set_option maxRecDepth 20000 in
theorem ggX5_shrinks_X5_head : GoodIn wsX5_shrinks wsX5_head := goodIn_r _ [15, 10, 11, 4, 12, 9] (by decide +kernel) (by decide +kernel)
set_option maxRecDepth 20000 in
theorem gX5_shrinks_X5_head : GoodIn wsX5_shrinks (va_wsS RX5 63 yX5_head wsX5_head) := goodIn_app (goodIn_of _ (by decide +kernel)) ggX5_shrinks_X5_head
set_option maxRecDepth 20000 in
theorem ggX5_shrinks_X5_isNode : GoodIn wsX5_shrinks wsX5_isNode := goodIn_r _ [19, 20, 21, 35, 36, 37, 38, 39, 40, 41, 42, 43, 44, 45, 46, 47, 48, 49, 50] (by decide +kernel) (by decide +kernel)
set_option maxRecDepth 20000 in
theorem gX5_shrinks_X5_isNode : GoodIn wsX5_shrinks (wsV RX5 77 RX5 yX5_isNode wsX5_isNode) := goodIn_app (goodIn_of _ (by decide +kernel)) ggX5_shrinks_X5_isNode
set_option maxRecDepth 20000 in
theorem ggX5_shrinks_X5_beginning : GoodIn wsX5_shrinks wsX5_beginning := goodIn_r _ [25, 26, 27, 28, 29, 4, 30, 2, 3, 5, 6, 7, 8, 9, 10, 11, 12, 13, 14, 15, 35, 36, 37, 38, 39, 40, 41, 42, 43, 44, 45, 46, 47, 48, 49, 50] (by decide +kernel) (by decide +kernel)
set_option maxRecDepth 20000 in
theorem gX5_shrinks_X5_beginning : GoodIn wsX5_shrinks (wsV RX5 91 RX5 yX5_beginning wsX5_beginning) := goodIn_app (goodIn_of _ (by decide +kernel)) ggX5_shrinks_X5_beginning
set_option maxRecDepth 20000 in
theorem ggX5_shrinks_X5_leaves : GoodIn wsX5_shrinks wsX5_leaves := goodIn_r _ [34, 21, 20, 35, 36, 37, 38, 39, 40, 41, 42, 43, 44, 45, 46, 47, 48, 49, 50] (by decide +kernel) (by decide +kernel)
set_option maxRecDepth 20000 in
theorem gX5_shrinks_X5_leaves : GoodIn wsX5_shrinks (wsV RX5 108 RX5 yX5_leaves wsX5_leaves) := goodIn_app (goodIn_of _ (by decide +kernel)) ggX5_shrinks_X5_leaves
theorem dX5_shrinks_0 : decode cX5_shrinks 0 = .ok (.iconst 0, 1) := by decide +kernel
theorem dX5_shrinks_1 : decode cX5_shrinks 1 = .ok (.istore_n 3, 1) := by decide +kernel
theorem dX5_shrinks_2 : decode cX5_shrinks 2 = .ok (.lload_n 1, 1) := by decide +kernel
theorem dX5_shrinks_3 : decode cX5_shrinks 3 = .ok (.invokestatic 59, 3) := by decide +kernel
theorem dX5_shrinks_6 : decode cX5_shrinks 6 = .ok (.istore 4, 2) := by decide +kernel
theorem dX5_shrinks_8 : decode cX5_shrinks 8 = .ok (.iload 4, 2) := by decide +kernel
theorem dX5_shrinks_10 : decode cX5_shrinks 10 = .ok (.ifCond .lt 61, 3) := by decide +kernel
theorem dX5_shrinks_13 : decode cX5_shrinks 13 = .ok (.iload_n 3, 1) := by decide +kernel
theorem dX5_shrinks_14 : decode cX5_shrinks 14 = .ok (.ifCond .ne 57, 3) := by decide +kernel
theorem dX5_shrinks_17 : decode cX5_shrinks 17 = .ok (.lload_n 1, 1) := by decide +kernel
theorem dX5_shrinks_18 : decode cX5_shrinks 18 = .ok (.iload 4, 2) := by decide +kernel
theorem dX5_shrinks_20 : decode cX5_shrinks 20 = .ok (.invokestatic 63, 3) := by decide +kernel
theorem dX5_shrinks_23 : decode cX5_shrinks 23 = .ok (.lstore 5, 2) := by decide +kernel
theorem dX5_shrinks_25 : decode cX5_shrinks 25 = .ok (.aload_n 0, 1) := by decide +kernel
theorem dX5_shrinks_26 : decode cX5_shrinks 26 = .ok (.lload 5, 2) := by decide +kernel
theorem dX5_shrinks_28 : decode cX5_shrinks 28 = .ok (.invokevirtual 77, 3) := by decide +kernel
theorem dX5_shrinks_31 : decode cX5_shrinks 31 = .ok (.ifCond .eq 34, 3) := by decide +kernel
theorem dX5_shrinks_34 : decode cX5_shrinks 34 = .ok (.aload_n 0, 1) := by decide +kernel
theorem dX5_shrinks_35 : decode cX5_shrinks 35 = .ok (.lload 5, 2) := by decide +kernel
theorem dX5_shrinks_37 : decode cX5_shrinks 37 = .ok (.invokevirtual 91, 3) := by decide +kernel
theorem dX5_shrinks_40 : decode cX5_shrinks 40 = .ok (.aload_n 0, 1) := by decide +kernel
theorem dX5_shrinks_41 : decode cX5_shrinks 41 = .ok (.getfield 13, 3) := by decide +kernel
theorem dX5_shrinks_44 : decode cX5_shrinks 44 = .ok (.iconst 2, 1) := by decide +kernel
theorem dX5_shrinks_45 : decode cX5_shrinks 45 = .ok (.idiv, 1) := by decide +kernel
theorem dX5_shrinks_46 : decode cX5_shrinks 46 = .ok (.if_icmp .le 7, 3) := by decide +kernel
theorem dX5_shrinks_49 : decode cX5_shrinks 49 = .ok (.iconst 1, 1) := by decide +kernel
theorem dX5_shrinks_50 : decode cX5_shrinks 50 = .ok (.goto 4, 3) := by decide +kernel
theorem dX5_shrinks_53 : decode cX5_shrinks 53 = .ok (.iconst 0, 1) := by decide +kernel
theorem dX5_shrinks_54 : decode cX5_shrinks 54 = .ok (.istore_n 3, 1) := by decide +kernel
theorem dX5_shrinks_55 : decode cX5_shrinks 55 = .ok (.iload_n 3, 1) := by decide +kernel
theorem dX5_shrinks_56 : decode cX5_shrinks 56 = .ok (.ifCond .ne 9, 3) := by decide +kernel
theorem dX5_shrinks_59 : decode cX5_shrinks 59 = .ok (.aload_n 0, 1) := by decide +kernel
theorem dX5_shrinks_60 : decode cX5_shrinks 60 = .ok (.lload 5, 2) := by decide +kernel
theorem dX5_shrinks_62 : decode cX5_shrinks 62 = .ok (.invokevirtual 108, 3) := by decide +kernel
theorem dX5_shrinks_65 : decode cX5_shrinks 65 = .ok (.iinc 4 (-1), 3) := by decide +kernel
theorem dX5_shrinks_68 : decode cX5_shrinks 68 = .ok (.goto (-60), 3) := by decide +kernel
theorem dX5_shrinks_71 : decode cX5_shrinks 71 = .ok (.return_, 1) := by decide +kernel
set_option maxRecDepth 20000 in
theorem ggX5_takes_X5_own : GoodIn wsX5_takes wsX5_own := goodIn_r _ [9, 10, 11, 12, 57, 58, 59, 60, 61, 62, 63, 64, 65, 66, 67, 68, 69, 70, 71, 72] (by decide +kernel) (by decide +kernel)
set_option maxRecDepth 20000 in
theorem gX5_takes_X5_own : GoodIn wsX5_takes (wsV RX5 94 RX5 yX5_own wsX5_own) := goodIn_app (goodIn_of _ (by decide +kernel)) ggX5_takes_X5_own
set_option maxRecDepth 20000 in
theorem ggX5_takes_X5_placeOf : GoodIn wsX5_takes wsX5_placeOf := goodIn_r _ [16, 3, 4, 57, 58, 59, 60, 61, 62, 63, 64, 65, 66, 67, 68, 69, 70, 71, 72] (by decide +kernel) (by decide +kernel)
set_option maxRecDepth 20000 in
theorem gX5_takes_X5_placeOf : GoodIn wsX5_takes (wsV RX5 98 RX5 yX5_placeOf wsX5_placeOf) := goodIn_app (goodIn_of _ (by decide +kernel)) ggX5_takes_X5_placeOf
set_option maxRecDepth 20000 in
theorem ggX5_takes_X5_notes : GoodIn wsX5_takes wsX5_notes := goodIn_r _ [20, 21, 22, 3, 23, 4, 2, 24, 57, 58, 59, 60, 61, 62, 63, 64, 65, 66, 67, 68, 69, 70, 71, 72] (by decide +kernel) (by decide +kernel)
set_option maxRecDepth 20000 in
theorem gX5_takes_X5_notes : GoodIn wsX5_takes (wsV RX5 101 RX5 yX5_notes wsX5_notes) := goodIn_app (goodIn_of _ (by decide +kernel)) ggX5_takes_X5_notes
set_option maxRecDepth 20000 in
theorem ggX5_takes_X5_shrinks : GoodIn wsX5_takes wsX5_shrinks := goodIn_r _ [28, 29, 30, 31, 8, 32, 33, 34, 35, 10, 36, 37, 38, 39, 40, 41, 42, 43, 44, 45, 23, 24, 46, 47, 48, 49, 3, 4, 50, 51, 52, 53, 54, 55, 56, 57, 58, 59, 60, 61, 62, 63, 64, 65, 66, 67, 68, 69, 70, 71, 72] (by decide +kernel) (by decide +kernel)
set_option maxRecDepth 20000 in
theorem gX5_takes_X5_shrinks : GoodIn wsX5_takes (wsV RX5 111 RX5 yX5_shrinks wsX5_shrinks) := goodIn_app (goodIn_of _ (by decide +kernel)) ggX5_takes_X5_shrinks
theorem dX5_takes_0 : decode cX5_takes 0 = .ok (.aload_n 0, 1) := by decide +kernel
theorem dX5_takes_1 : decode cX5_takes 1 = .ok (.iconst 0, 1) := by decide +kernel
theorem dX5_takes_2 : decode cX5_takes 2 = .ok (.putfield 43, 3) := by decide +kernel
theorem dX5_takes_5 : decode cX5_takes 5 = .ok (.aload_n 0, 1) := by decide +kernel
theorem dX5_takes_6 : decode cX5_takes 6 = .ok (.invokevirtual 94, 3) := by decide +kernel
theorem dX5_takes_9 : decode cX5_takes 9 = .ok (.lstore_n 1, 1) := by decide +kernel
theorem dX5_takes_10 : decode cX5_takes 10 = .ok (.aload_n 0, 1) := by decide +kernel
theorem dX5_takes_11 : decode cX5_takes 11 = .ok (.lload_n 1, 1) := by decide +kernel
theorem dX5_takes_12 : decode cX5_takes 12 = .ok (.invokevirtual 98, 3) := by decide +kernel
theorem dX5_takes_15 : decode cX5_takes 15 = .ok (.istore_n 3, 1) := by decide +kernel
theorem dX5_takes_16 : decode cX5_takes 16 = .ok (.iload_n 3, 1) := by decide +kernel
theorem dX5_takes_17 : decode cX5_takes 17 = .ok (.ifCond .ge 6, 3) := by decide +kernel
theorem dX5_takes_20 : decode cX5_takes 20 = .ok (.bipush (-2), 2) := by decide +kernel
theorem dX5_takes_22 : decode cX5_takes 22 = .ok (.ireturn, 1) := by decide +kernel
theorem dX5_takes_23 : decode cX5_takes 23 = .ok (.aload_n 0, 1) := by decide +kernel
theorem dX5_takes_24 : decode cX5_takes 24 = .ok (.invokevirtual 101, 3) := by decide +kernel
theorem dX5_takes_27 : decode cX5_takes 27 = .ok (.aload_n 0, 1) := by decide +kernel
theorem dX5_takes_28 : decode cX5_takes 28 = .ok (.getfield 21, 3) := by decide +kernel
theorem dX5_takes_31 : decode cX5_takes 31 = .ok (.iload_n 3, 1) := by decide +kernel
theorem dX5_takes_32 : decode cX5_takes 32 = .ok (.dup2, 1) := by decide +kernel
theorem dX5_takes_33 : decode cX5_takes 33 = .ok (.iaload, 1) := by decide +kernel
theorem dX5_takes_34 : decode cX5_takes 34 = .ok (.iconst 1, 1) := by decide +kernel
theorem dX5_takes_35 : decode cX5_takes 35 = .ok (.isub, 1) := by decide +kernel
theorem dX5_takes_36 : decode cX5_takes 36 = .ok (.iastore, 1) := by decide +kernel
theorem dX5_takes_37 : decode cX5_takes 37 = .ok (.aload_n 0, 1) := by decide +kernel
theorem dX5_takes_38 : decode cX5_takes 38 = .ok (.getfield 21, 3) := by decide +kernel
theorem dX5_takes_41 : decode cX5_takes 41 = .ok (.iload_n 3, 1) := by decide +kernel
theorem dX5_takes_42 : decode cX5_takes 42 = .ok (.iaload, 1) := by decide +kernel
theorem dX5_takes_43 : decode cX5_takes 43 = .ok (.istore 4, 2) := by decide +kernel
theorem dX5_takes_45 : decode cX5_takes 45 = .ok (.iload 4, 2) := by decide +kernel
theorem dX5_takes_47 : decode cX5_takes 47 = .ok (.ifCond .ne 70, 3) := by decide +kernel
theorem dX5_takes_50 : decode cX5_takes 50 = .ok (.iload_n 3, 1) := by decide +kernel
theorem dX5_takes_51 : decode cX5_takes 51 = .ok (.istore 5, 2) := by decide +kernel
theorem dX5_takes_53 : decode cX5_takes 53 = .ok (.iload 5, 2) := by decide +kernel
theorem dX5_takes_55 : decode cX5_takes 55 = .ok (.iconst 1, 1) := by decide +kernel
theorem dX5_takes_56 : decode cX5_takes 56 = .ok (.iadd, 1) := by decide +kernel
theorem dX5_takes_57 : decode cX5_takes 57 = .ok (.aload_n 0, 1) := by decide +kernel
theorem dX5_takes_58 : decode cX5_takes 58 = .ok (.getfield 67, 3) := by decide +kernel
theorem dX5_takes_61 : decode cX5_takes 61 = .ok (.if_icmp .ge 41, 3) := by decide +kernel
theorem dX5_takes_64 : decode cX5_takes 64 = .ok (.aload_n 0, 1) := by decide +kernel
theorem dX5_takes_65 : decode cX5_takes 65 = .ok (.getfield 17, 3) := by decide +kernel
theorem dX5_takes_68 : decode cX5_takes 68 = .ok (.iload 5, 2) := by decide +kernel
theorem dX5_takes_70 : decode cX5_takes 70 = .ok (.aload_n 0, 1) := by decide +kernel
theorem dX5_takes_71 : decode cX5_takes 71 = .ok (.getfield 17, 3) := by decide +kernel
theorem dX5_takes_74 : decode cX5_takes 74 = .ok (.iload 5, 2) := by decide +kernel
theorem dX5_takes_76 : decode cX5_takes 76 = .ok (.iconst 1, 1) := by decide +kernel
theorem dX5_takes_77 : decode cX5_takes 77 = .ok (.iadd, 1) := by decide +kernel
theorem dX5_takes_78 : decode cX5_takes 78 = .ok (.laload, 1) := by decide +kernel
theorem dX5_takes_79 : decode cX5_takes 79 = .ok (.lastore, 1) := by decide +kernel
theorem dX5_takes_80 : decode cX5_takes 80 = .ok (.aload_n 0, 1) := by decide +kernel
theorem dX5_takes_81 : decode cX5_takes 81 = .ok (.getfield 21, 3) := by decide +kernel
theorem dX5_takes_84 : decode cX5_takes 84 = .ok (.iload 5, 2) := by decide +kernel
theorem dX5_takes_86 : decode cX5_takes 86 = .ok (.aload_n 0, 1) := by decide +kernel
theorem dX5_takes_87 : decode cX5_takes 87 = .ok (.getfield 21, 3) := by decide +kernel
theorem dX5_takes_90 : decode cX5_takes 90 = .ok (.iload 5, 2) := by decide +kernel
theorem dX5_takes_92 : decode cX5_takes 92 = .ok (.iconst 1, 1) := by decide +kernel
theorem dX5_takes_93 : decode cX5_takes 93 = .ok (.iadd, 1) := by decide +kernel
theorem dX5_takes_94 : decode cX5_takes 94 = .ok (.iaload, 1) := by decide +kernel
theorem dX5_takes_95 : decode cX5_takes 95 = .ok (.iastore, 1) := by decide +kernel
theorem dX5_takes_96 : decode cX5_takes 96 = .ok (.iinc 5 1, 3) := by decide +kernel
theorem dX5_takes_99 : decode cX5_takes 99 = .ok (.goto (-46), 3) := by decide +kernel
theorem dX5_takes_102 : decode cX5_takes 102 = .ok (.aload_n 0, 1) := by decide +kernel
theorem dX5_takes_103 : decode cX5_takes 103 = .ok (.dup, 1) := by decide +kernel
theorem dX5_takes_104 : decode cX5_takes 104 = .ok (.getfield 67, 3) := by decide +kernel
theorem dX5_takes_107 : decode cX5_takes 107 = .ok (.iconst 1, 1) := by decide +kernel
theorem dX5_takes_108 : decode cX5_takes 108 = .ok (.isub, 1) := by decide +kernel
theorem dX5_takes_109 : decode cX5_takes 109 = .ok (.putfield 67, 3) := by decide +kernel
theorem dX5_takes_112 : decode cX5_takes 112 = .ok (.aload_n 0, 1) := by decide +kernel
theorem dX5_takes_113 : decode cX5_takes 113 = .ok (.lload_n 1, 1) := by decide +kernel
theorem dX5_takes_114 : decode cX5_takes 114 = .ok (.invokevirtual 111, 3) := by decide +kernel
theorem dX5_takes_117 : decode cX5_takes 117 = .ok (.iload 4, 2) := by decide +kernel
theorem dX5_takes_119 : decode cX5_takes 119 = .ok (.ireturn, 1) := by decide +kernel
theorem dX5_undo_0 : decode cX5_undo 0 = .ok (.aload_n 0, 1) := by decide +kernel
theorem dX5_undo_1 : decode cX5_undo 1 = .ok (.iconst 0, 1) := by decide +kernel
theorem dX5_undo_2 : decode cX5_undo 2 = .ok (.putfield 43, 3) := by decide +kernel
theorem dX5_undo_5 : decode cX5_undo 5 = .ok (.aload_n 0, 1) := by decide +kernel
theorem dX5_undo_6 : decode cX5_undo 6 = .ok (.getfield 85, 3) := by decide +kernel
theorem dX5_undo_9 : decode cX5_undo 9 = .ok (.ifCond .ne 6, 3) := by decide +kernel
theorem dX5_undo_12 : decode cX5_undo 12 = .ok (.bipush (-2), 2) := by decide +kernel
theorem dX5_undo_14 : decode cX5_undo 14 = .ok (.ireturn, 1) := by decide +kernel
theorem dX5_undo_15 : decode cX5_undo 15 = .ok (.aload_n 0, 1) := by decide +kernel
theorem dX5_undo_16 : decode cX5_undo 16 = .ok (.dup, 1) := by decide +kernel
theorem dX5_undo_17 : decode cX5_undo 17 = .ok (.getfield 85, 3) := by decide +kernel
theorem dX5_undo_20 : decode cX5_undo 20 = .ok (.iconst 1, 1) := by decide +kernel
theorem dX5_undo_21 : decode cX5_undo 21 = .ok (.isub, 1) := by decide +kernel
theorem dX5_undo_22 : decode cX5_undo 22 = .ok (.putfield 85, 3) := by decide +kernel
theorem dX5_undo_25 : decode cX5_undo 25 = .ok (.sipush 282, 3) := by decide +kernel
theorem dX5_undo_28 : decode cX5_undo 28 = .ok (.aload_n 0, 1) := by decide +kernel
theorem dX5_undo_29 : decode cX5_undo 29 = .ok (.getfield 85, 3) := by decide +kernel
theorem dX5_undo_32 : decode cX5_undo 32 = .ok (.imul, 1) := by decide +kernel
theorem dX5_undo_33 : decode cX5_undo 33 = .ok (.istore_n 1, 1) := by decide +kernel
theorem dX5_undo_34 : decode cX5_undo 34 = .ok (.aload_n 0, 1) := by decide +kernel
theorem dX5_undo_35 : decode cX5_undo 35 = .ok (.aload_n 0, 1) := by decide +kernel
theorem dX5_undo_36 : decode cX5_undo 36 = .ok (.getfield 27, 3) := by decide +kernel
theorem dX5_undo_39 : decode cX5_undo 39 = .ok (.iload_n 1, 1) := by decide +kernel
theorem dX5_undo_40 : decode cX5_undo 40 = .ok (.laload, 1) := by decide +kernel
theorem dX5_undo_41 : decode cX5_undo 41 = .ok (.l2i, 1) := by decide +kernel
theorem dX5_undo_42 : decode cX5_undo 42 = .ok (.putfield 67, 3) := by decide +kernel
theorem dX5_undo_45 : decode cX5_undo 45 = .ok (.aload_n 0, 1) := by decide +kernel
theorem dX5_undo_46 : decode cX5_undo 46 = .ok (.aload_n 0, 1) := by decide +kernel
theorem dX5_undo_47 : decode cX5_undo 47 = .ok (.getfield 27, 3) := by decide +kernel
theorem dX5_undo_50 : decode cX5_undo 50 = .ok (.iload_n 1, 1) := by decide +kernel
theorem dX5_undo_51 : decode cX5_undo 51 = .ok (.iconst 1, 1) := by decide +kernel
theorem dX5_undo_52 : decode cX5_undo 52 = .ok (.iadd, 1) := by decide +kernel
theorem dX5_undo_53 : decode cX5_undo 53 = .ok (.laload, 1) := by decide +kernel
theorem dX5_undo_54 : decode cX5_undo 54 = .ok (.l2i, 1) := by decide +kernel
theorem dX5_undo_55 : decode cX5_undo 55 = .ok (.putfield 74, 3) := by decide +kernel
theorem dX5_undo_58 : decode cX5_undo 58 = .ok (.iconst 0, 1) := by decide +kernel
theorem dX5_undo_59 : decode cX5_undo 59 = .ok (.istore_n 2, 1) := by decide +kernel
theorem dX5_undo_60 : decode cX5_undo 60 = .ok (.iload_n 2, 1) := by decide +kernel
theorem dX5_undo_61 : decode cX5_undo 61 = .ok (.bipush 40, 2) := by decide +kernel
theorem dX5_undo_63 : decode cX5_undo 63 = .ok (.if_icmp .ge 43, 3) := by decide +kernel
theorem dX5_undo_66 : decode cX5_undo 66 = .ok (.aload_n 0, 1) := by decide +kernel
theorem dX5_undo_67 : decode cX5_undo 67 = .ok (.getfield 17, 3) := by decide +kernel
theorem dX5_undo_70 : decode cX5_undo 70 = .ok (.iload_n 2, 1) := by decide +kernel
theorem dX5_undo_71 : decode cX5_undo 71 = .ok (.aload_n 0, 1) := by decide +kernel
theorem dX5_undo_72 : decode cX5_undo 72 = .ok (.getfield 27, 3) := by decide +kernel
theorem dX5_undo_75 : decode cX5_undo 75 = .ok (.iload_n 1, 1) := by decide +kernel
theorem dX5_undo_76 : decode cX5_undo 76 = .ok (.iconst 2, 1) := by decide +kernel
theorem dX5_undo_77 : decode cX5_undo 77 = .ok (.iadd, 1) := by decide +kernel
theorem dX5_undo_78 : decode cX5_undo 78 = .ok (.iload_n 2, 1) := by decide +kernel
theorem dX5_undo_79 : decode cX5_undo 79 = .ok (.iadd, 1) := by decide +kernel
theorem dX5_undo_80 : decode cX5_undo 80 = .ok (.laload, 1) := by decide +kernel
theorem dX5_undo_81 : decode cX5_undo 81 = .ok (.lastore, 1) := by decide +kernel
theorem dX5_undo_82 : decode cX5_undo 82 = .ok (.aload_n 0, 1) := by decide +kernel
theorem dX5_undo_83 : decode cX5_undo 83 = .ok (.getfield 21, 3) := by decide +kernel
theorem dX5_undo_86 : decode cX5_undo 86 = .ok (.iload_n 2, 1) := by decide +kernel
theorem dX5_undo_87 : decode cX5_undo 87 = .ok (.aload_n 0, 1) := by decide +kernel
theorem dX5_undo_88 : decode cX5_undo 88 = .ok (.getfield 27, 3) := by decide +kernel
theorem dX5_undo_91 : decode cX5_undo 91 = .ok (.iload_n 1, 1) := by decide +kernel
theorem dX5_undo_92 : decode cX5_undo 92 = .ok (.bipush 42, 2) := by decide +kernel
theorem dX5_undo_94 : decode cX5_undo 94 = .ok (.iadd, 1) := by decide +kernel
theorem dX5_undo_95 : decode cX5_undo 95 = .ok (.iload_n 2, 1) := by decide +kernel
theorem dX5_undo_96 : decode cX5_undo 96 = .ok (.iadd, 1) := by decide +kernel
theorem dX5_undo_97 : decode cX5_undo 97 = .ok (.laload, 1) := by decide +kernel
theorem dX5_undo_98 : decode cX5_undo 98 = .ok (.l2i, 1) := by decide +kernel
theorem dX5_undo_99 : decode cX5_undo 99 = .ok (.iastore, 1) := by decide +kernel
theorem dX5_undo_100 : decode cX5_undo 100 = .ok (.iinc 2 1, 3) := by decide +kernel
theorem dX5_undo_103 : decode cX5_undo 103 = .ok (.goto (-43), 3) := by decide +kernel
theorem dX5_undo_106 : decode cX5_undo 106 = .ok (.iconst 0, 1) := by decide +kernel
theorem dX5_undo_107 : decode cX5_undo 107 = .ok (.istore_n 2, 1) := by decide +kernel
theorem dX5_undo_108 : decode cX5_undo 108 = .ok (.iload_n 2, 1) := by decide +kernel
theorem dX5_undo_109 : decode cX5_undo 109 = .ok (.sipush 200, 3) := by decide +kernel
theorem dX5_undo_112 : decode cX5_undo 112 = .ok (.if_icmp .ge 26, 3) := by decide +kernel
theorem dX5_undo_115 : decode cX5_undo 115 = .ok (.aload_n 0, 1) := by decide +kernel
theorem dX5_undo_116 : decode cX5_undo 116 = .ok (.getfield 24, 3) := by decide +kernel
theorem dX5_undo_119 : decode cX5_undo 119 = .ok (.iload_n 2, 1) := by decide +kernel
theorem dX5_undo_120 : decode cX5_undo 120 = .ok (.aload_n 0, 1) := by decide +kernel
theorem dX5_undo_121 : decode cX5_undo 121 = .ok (.getfield 27, 3) := by decide +kernel
theorem dX5_undo_124 : decode cX5_undo 124 = .ok (.iload_n 1, 1) := by decide +kernel
theorem dX5_undo_125 : decode cX5_undo 125 = .ok (.bipush 82, 2) := by decide +kernel
theorem dX5_undo_127 : decode cX5_undo 127 = .ok (.iadd, 1) := by decide +kernel
theorem dX5_undo_128 : decode cX5_undo 128 = .ok (.iload_n 2, 1) := by decide +kernel
theorem dX5_undo_129 : decode cX5_undo 129 = .ok (.iadd, 1) := by decide +kernel
theorem dX5_undo_130 : decode cX5_undo 130 = .ok (.laload, 1) := by decide +kernel
theorem dX5_undo_131 : decode cX5_undo 131 = .ok (.lastore, 1) := by decide +kernel
theorem dX5_undo_132 : decode cX5_undo 132 = .ok (.iinc 2 1, 3) := by decide +kernel
theorem dX5_undo_135 : decode cX5_undo 135 = .ok (.goto (-27), 3) := by decide +kernel
theorem dX5_undo_138 : decode cX5_undo 138 = .ok (.aload_n 0, 1) := by decide +kernel
theorem dX5_undo_139 : decode cX5_undo 139 = .ok (.getfield 85, 3) := by decide +kernel
theorem dX5_undo_142 : decode cX5_undo 142 = .ok (.ireturn, 1) := by decide +kernel
set_option maxRecDepth 20000 in
theorem ggX5_times_X5_own : GoodIn wsX5_times wsX5_own := goodIn_r _ [7, 8, 9, 10, 17, 18, 19, 20, 21, 22, 23, 24, 25, 26, 27, 28, 29, 30, 31, 32] (by decide +kernel) (by decide +kernel)
set_option maxRecDepth 20000 in
theorem gX5_times_X5_own : GoodIn wsX5_times (wsV RX5 94 RX5 yX5_own wsX5_own) := goodIn_app (goodIn_of _ (by decide +kernel)) ggX5_times_X5_own
set_option maxRecDepth 20000 in
theorem ggX5_times_X5_placeOf : GoodIn wsX5_times wsX5_placeOf := goodIn_r _ [14, 15, 16, 17, 18, 19, 20, 21, 22, 23, 24, 25, 26, 27, 28, 29, 30, 31, 32] (by decide +kernel) (by decide +kernel)
set_option maxRecDepth 20000 in
theorem gX5_times_X5_placeOf : GoodIn wsX5_times (wsV RX5 98 RX5 yX5_placeOf wsX5_placeOf) := goodIn_app (goodIn_of _ (by decide +kernel)) ggX5_times_X5_placeOf
theorem dX5_times_0 : decode cX5_times 0 = .ok (.aload_n 0, 1) := by decide +kernel
theorem dX5_times_1 : decode cX5_times 1 = .ok (.iconst 0, 1) := by decide +kernel
theorem dX5_times_2 : decode cX5_times 2 = .ok (.putfield 43, 3) := by decide +kernel
theorem dX5_times_5 : decode cX5_times 5 = .ok (.aload_n 0, 1) := by decide +kernel
theorem dX5_times_6 : decode cX5_times 6 = .ok (.aload_n 0, 1) := by decide +kernel
theorem dX5_times_7 : decode cX5_times 7 = .ok (.invokevirtual 94, 3) := by decide +kernel
theorem dX5_times_10 : decode cX5_times 10 = .ok (.invokevirtual 98, 3) := by decide +kernel
theorem dX5_times_13 : decode cX5_times 13 = .ok (.istore_n 1, 1) := by decide +kernel
theorem dX5_times_14 : decode cX5_times 14 = .ok (.iload_n 1, 1) := by decide +kernel
theorem dX5_times_15 : decode cX5_times 15 = .ok (.ifCond .ge 7, 3) := by decide +kernel
theorem dX5_times_18 : decode cX5_times 18 = .ok (.iconst 0, 1) := by decide +kernel
theorem dX5_times_19 : decode cX5_times 19 = .ok (.goto 9, 3) := by decide +kernel
theorem dX5_times_22 : decode cX5_times 22 = .ok (.aload_n 0, 1) := by decide +kernel
theorem dX5_times_23 : decode cX5_times 23 = .ok (.getfield 21, 3) := by decide +kernel
theorem dX5_times_26 : decode cX5_times 26 = .ok (.iload_n 1, 1) := by decide +kernel
theorem dX5_times_27 : decode cX5_times 27 = .ok (.iaload, 1) := by decide +kernel
theorem dX5_times_28 : decode cX5_times 28 = .ok (.ireturn, 1) := by decide +kernel
set_option maxRecDepth 20000 in
theorem ggX5_rank_X5_own : GoodIn wsX5_rank wsX5_own := goodIn_r _ [9, 10, 11, 12, 13, 14, 15, 16, 17, 18, 19, 20, 21, 22, 23, 24, 25, 26, 27, 28] (by decide +kernel) (by decide +kernel)
set_option maxRecDepth 20000 in
theorem gX5_rank_X5_own : GoodIn wsX5_rank (wsV RX5 94 RX5 yX5_own wsX5_own) := goodIn_app (goodIn_of _ (by decide +kernel)) ggX5_rank_X5_own
theorem dX5_rank_0 : decode cX5_rank 0 = .ok (.aload_n 0, 1) := by decide +kernel
theorem dX5_rank_1 : decode cX5_rank 1 = .ok (.iconst 0, 1) := by decide +kernel
theorem dX5_rank_2 : decode cX5_rank 2 = .ok (.putfield 43, 3) := by decide +kernel
theorem dX5_rank_5 : decode cX5_rank 5 = .ok (.aload_n 0, 1) := by decide +kernel
theorem dX5_rank_6 : decode cX5_rank 6 = .ok (.invokevirtual 94, 3) := by decide +kernel
theorem dX5_rank_9 : decode cX5_rank 9 = .ok (.lstore_n 1, 1) := by decide +kernel
theorem dX5_rank_10 : decode cX5_rank 10 = .ok (.iconst 0, 1) := by decide +kernel
theorem dX5_rank_11 : decode cX5_rank 11 = .ok (.istore_n 3, 1) := by decide +kernel
theorem dX5_rank_12 : decode cX5_rank 12 = .ok (.iconst 0, 1) := by decide +kernel
theorem dX5_rank_13 : decode cX5_rank 13 = .ok (.istore 4, 2) := by decide +kernel
theorem dX5_rank_15 : decode cX5_rank 15 = .ok (.iload 4, 2) := by decide +kernel
theorem dX5_rank_17 : decode cX5_rank 17 = .ok (.aload_n 0, 1) := by decide +kernel
theorem dX5_rank_18 : decode cX5_rank 18 = .ok (.getfield 67, 3) := by decide +kernel
theorem dX5_rank_21 : decode cX5_rank 21 = .ok (.if_icmp .ge 35, 3) := by decide +kernel
theorem dX5_rank_24 : decode cX5_rank 24 = .ok (.iload_n 3, 1) := by decide +kernel
theorem dX5_rank_25 : decode cX5_rank 25 = .ok (.aload_n 0, 1) := by decide +kernel
theorem dX5_rank_26 : decode cX5_rank 26 = .ok (.getfield 17, 3) := by decide +kernel
theorem dX5_rank_29 : decode cX5_rank 29 = .ok (.iload 4, 2) := by decide +kernel
theorem dX5_rank_31 : decode cX5_rank 31 = .ok (.laload, 1) := by decide +kernel
theorem dX5_rank_32 : decode cX5_rank 32 = .ok (.lload_n 1, 1) := by decide +kernel
theorem dX5_rank_33 : decode cX5_rank 33 = .ok (.lcmp, 1) := by decide +kernel
theorem dX5_rank_34 : decode cX5_rank 34 = .ok (.ifCond .ge 13, 3) := by decide +kernel
theorem dX5_rank_37 : decode cX5_rank 37 = .ok (.aload_n 0, 1) := by decide +kernel
theorem dX5_rank_38 : decode cX5_rank 38 = .ok (.getfield 21, 3) := by decide +kernel
theorem dX5_rank_41 : decode cX5_rank 41 = .ok (.iload 4, 2) := by decide +kernel
theorem dX5_rank_43 : decode cX5_rank 43 = .ok (.iaload, 1) := by decide +kernel
theorem dX5_rank_44 : decode cX5_rank 44 = .ok (.goto 4, 3) := by decide +kernel
theorem dX5_rank_47 : decode cX5_rank 47 = .ok (.iconst 0, 1) := by decide +kernel
theorem dX5_rank_48 : decode cX5_rank 48 = .ok (.iadd, 1) := by decide +kernel
theorem dX5_rank_49 : decode cX5_rank 49 = .ok (.istore_n 3, 1) := by decide +kernel
theorem dX5_rank_50 : decode cX5_rank 50 = .ok (.iinc 4 1, 3) := by decide +kernel
theorem dX5_rank_53 : decode cX5_rank 53 = .ok (.goto (-38), 3) := by decide +kernel
theorem dX5_rank_56 : decode cX5_rank 56 = .ok (.iload_n 3, 1) := by decide +kernel
theorem dX5_rank_57 : decode cX5_rank 57 = .ok (.ireturn, 1) := by decide +kernel
set_option maxRecDepth 20000 in
theorem ggX5_beginOf_X5_begins : GoodIn wsX5_beginOf wsX5_begins := goodIn_r _ [7, 8, 9, 6, 10, 11, 12, 13, 14, 15, 16, 17, 18, 19, 20] (by decide +kernel) (by decide +kernel)
set_option maxRecDepth 20000 in
theorem gX5_beginOf_X5_begins : GoodIn wsX5_beginOf (va_wsS RX5 70 yX5_begins wsX5_begins) := goodIn_app (goodIn_of _ (by decide +kernel)) ggX5_beginOf_X5_begins
theorem dX5_beginOf_0 : decode cX5_beginOf 0 = .ok (.iconst 0, 1) := by decide +kernel
theorem dX5_beginOf_1 : decode cX5_beginOf 1 = .ok (.istore_n 3, 1) := by decide +kernel
theorem dX5_beginOf_2 : decode cX5_beginOf 2 = .ok (.iconst 0, 1) := by decide +kernel
theorem dX5_beginOf_3 : decode cX5_beginOf 3 = .ok (.istore 4, 2) := by decide +kernel
theorem dX5_beginOf_5 : decode cX5_beginOf 5 = .ok (.iload 4, 2) := by decide +kernel
theorem dX5_beginOf_7 : decode cX5_beginOf 7 = .ok (.aload_n 0, 1) := by decide +kernel
theorem dX5_beginOf_8 : decode cX5_beginOf 8 = .ok (.getfield 67, 3) := by decide +kernel
theorem dX5_beginOf_11 : decode cX5_beginOf 11 = .ok (.if_icmp .ge 37, 3) := by decide +kernel
theorem dX5_beginOf_14 : decode cX5_beginOf 14 = .ok (.iload_n 3, 1) := by decide +kernel
theorem dX5_beginOf_15 : decode cX5_beginOf 15 = .ok (.aload_n 0, 1) := by decide +kernel
theorem dX5_beginOf_16 : decode cX5_beginOf 16 = .ok (.getfield 17, 3) := by decide +kernel
theorem dX5_beginOf_19 : decode cX5_beginOf 19 = .ok (.iload 4, 2) := by decide +kernel
theorem dX5_beginOf_21 : decode cX5_beginOf 21 = .ok (.laload, 1) := by decide +kernel
theorem dX5_beginOf_22 : decode cX5_beginOf 22 = .ok (.lload_n 1, 1) := by decide +kernel
theorem dX5_beginOf_23 : decode cX5_beginOf 23 = .ok (.invokestatic 70, 3) := by decide +kernel
theorem dX5_beginOf_26 : decode cX5_beginOf 26 = .ok (.ifCond .eq 13, 3) := by decide +kernel
theorem dX5_beginOf_29 : decode cX5_beginOf 29 = .ok (.aload_n 0, 1) := by decide +kernel
theorem dX5_beginOf_30 : decode cX5_beginOf 30 = .ok (.getfield 21, 3) := by decide +kernel
theorem dX5_beginOf_33 : decode cX5_beginOf 33 = .ok (.iload 4, 2) := by decide +kernel
theorem dX5_beginOf_35 : decode cX5_beginOf 35 = .ok (.iaload, 1) := by decide +kernel
theorem dX5_beginOf_36 : decode cX5_beginOf 36 = .ok (.goto 4, 3) := by decide +kernel
theorem dX5_beginOf_39 : decode cX5_beginOf 39 = .ok (.iconst 0, 1) := by decide +kernel
theorem dX5_beginOf_40 : decode cX5_beginOf 40 = .ok (.iadd, 1) := by decide +kernel
theorem dX5_beginOf_41 : decode cX5_beginOf 41 = .ok (.istore_n 3, 1) := by decide +kernel
theorem dX5_beginOf_42 : decode cX5_beginOf 42 = .ok (.iinc 4 1, 3) := by decide +kernel
theorem dX5_beginOf_45 : decode cX5_beginOf 45 = .ok (.goto (-40), 3) := by decide +kernel
theorem dX5_beginOf_48 : decode cX5_beginOf 48 = .ok (.iload_n 3, 1) := by decide +kernel
theorem dX5_beginOf_49 : decode cX5_beginOf 49 = .ok (.ireturn, 1) := by decide +kernel
set_option maxRecDepth 20000 in
theorem ggX5_begin_X5_own : GoodIn wsX5_begin wsX5_own := goodIn_r _ [6, 7, 8, 9, 32, 33, 34, 35, 36, 37, 38, 39, 40, 41, 42, 43, 44, 45, 46, 47] (by decide +kernel) (by decide +kernel)
set_option maxRecDepth 20000 in
theorem gX5_begin_X5_own : GoodIn wsX5_begin (wsV RX5 94 RX5 yX5_own wsX5_own) := goodIn_app (goodIn_of _ (by decide +kernel)) ggX5_begin_X5_own
set_option maxRecDepth 20000 in
theorem ggX5_begin_X5_beginOf : GoodIn wsX5_begin wsX5_beginOf := goodIn_r _ [13, 14, 15, 16, 17, 18, 5, 19, 20, 21, 22, 23, 24, 25, 7, 26, 27, 28, 29, 30, 31, 32, 33, 34, 35, 36, 37, 38, 39, 40, 41, 42, 43, 44, 45, 46, 47] (by decide +kernel) (by decide +kernel)
set_option maxRecDepth 20000 in
theorem gX5_begin_X5_beginOf : GoodIn wsX5_begin (wsV RX5 114 RX5 yX5_beginOf wsX5_beginOf) := goodIn_app (goodIn_of _ (by decide +kernel)) ggX5_begin_X5_beginOf
theorem dX5_begin_0 : decode cX5_begin 0 = .ok (.aload_n 0, 1) := by decide +kernel
theorem dX5_begin_1 : decode cX5_begin 1 = .ok (.iconst 0, 1) := by decide +kernel
theorem dX5_begin_2 : decode cX5_begin 2 = .ok (.putfield 43, 3) := by decide +kernel
theorem dX5_begin_5 : decode cX5_begin 5 = .ok (.aload_n 0, 1) := by decide +kernel
theorem dX5_begin_6 : decode cX5_begin 6 = .ok (.aload_n 0, 1) := by decide +kernel
theorem dX5_begin_7 : decode cX5_begin 7 = .ok (.invokevirtual 94, 3) := by decide +kernel
theorem dX5_begin_10 : decode cX5_begin 10 = .ok (.invokevirtual 114, 3) := by decide +kernel
theorem dX5_begin_13 : decode cX5_begin 13 = .ok (.ireturn, 1) := by decide +kernel
set_option maxRecDepth 20000 in
theorem ggX5_depth_X5_own : GoodIn wsX5_depth wsX5_own := goodIn_r _ [6, 7, 8, 9, 32, 33, 34, 35, 36, 37, 38, 39, 40, 41, 42, 43, 44, 45, 46, 47] (by decide +kernel) (by decide +kernel)
set_option maxRecDepth 20000 in
theorem gX5_depth_X5_own : GoodIn wsX5_depth (wsV RX5 94 RX5 yX5_own wsX5_own) := goodIn_app (goodIn_of _ (by decide +kernel)) ggX5_depth_X5_own
set_option maxRecDepth 20000 in
theorem ggX5_depth_X5_depthOf : GoodIn wsX5_depth wsX5_depthOf := goodIn_r _ [13, 14, 15, 5, 16, 17, 18, 19, 7, 20, 21, 22, 23, 24, 25, 26, 27, 28, 29, 30, 31, 32, 33, 34, 35, 36, 37, 38, 39, 40, 41, 42, 43, 44, 45, 46, 47] (by decide +kernel) (by decide +kernel)
set_option maxRecDepth 20000 in
theorem gX5_depth_X5_depthOf : GoodIn wsX5_depth (wsV RX5 117 RX5 yX5_depthOf wsX5_depthOf) := goodIn_app (goodIn_of _ (by decide +kernel)) ggX5_depth_X5_depthOf
theorem dX5_depth_0 : decode cX5_depth 0 = .ok (.aload_n 0, 1) := by decide +kernel
theorem dX5_depth_1 : decode cX5_depth 1 = .ok (.iconst 0, 1) := by decide +kernel
theorem dX5_depth_2 : decode cX5_depth 2 = .ok (.putfield 43, 3) := by decide +kernel
theorem dX5_depth_5 : decode cX5_depth 5 = .ok (.aload_n 0, 1) := by decide +kernel
theorem dX5_depth_6 : decode cX5_depth 6 = .ok (.aload_n 0, 1) := by decide +kernel
theorem dX5_depth_7 : decode cX5_depth 7 = .ok (.invokevirtual 94, 3) := by decide +kernel
theorem dX5_depth_10 : decode cX5_depth 10 = .ok (.invokevirtual 117, 3) := by decide +kernel
theorem dX5_depth_13 : decode cX5_depth 13 = .ok (.ireturn, 1) := by decide +kernel
set_option maxRecDepth 20000 in
theorem ggX5_container_X5_in : GoodIn wsX5_container wsX5_in := goodIn_r _ [5] (by decide +kernel) (by decide +kernel)
set_option maxRecDepth 20000 in
theorem gX5_container_X5_in : GoodIn wsX5_container (va_wsS RX5 81 yX5_in wsX5_in) := goodIn_app (goodIn_of _ (by decide +kernel)) ggX5_container_X5_in
set_option maxRecDepth 20000 in
theorem ggX5_container_X5_own : GoodIn wsX5_container wsX5_own := goodIn_r _ [9, 10, 11, 12, 44, 45, 46, 47, 48, 49, 50, 51, 52, 53, 54, 55, 56, 57, 58, 59] (by decide +kernel) (by decide +kernel)
set_option maxRecDepth 20000 in
theorem gX5_container_X5_own : GoodIn wsX5_container (wsV RX5 94 RX5 yX5_own wsX5_own) := goodIn_app (goodIn_of _ (by decide +kernel)) ggX5_container_X5_own
set_option maxRecDepth 20000 in
theorem ggX5_container_X5_containerSize : GoodIn wsX5_container wsX5_containerSize := goodIn_r _ [16, 17, 18, 4, 19, 20, 21, 22, 10, 23, 24, 25, 26, 27, 28, 29, 30, 31, 32, 33, 34, 44, 45, 46, 47, 48, 49, 50, 51, 52, 53, 54, 55, 56, 57, 58, 59] (by decide +kernel) (by decide +kernel)
set_option maxRecDepth 20000 in
theorem gX5_container_X5_containerSize : GoodIn wsX5_container (wsV RX5 88 RX5 yX5_containerSize wsX5_containerSize) := goodIn_app (goodIn_of _ (by decide +kernel)) ggX5_container_X5_containerSize
set_option maxRecDepth 20000 in
theorem ggX5_container_X5_head : GoodIn wsX5_container wsX5_head := goodIn_r _ [28, 23, 24, 4, 25, 10] (by decide +kernel) (by decide +kernel)
set_option maxRecDepth 20000 in
theorem gX5_container_X5_head : GoodIn wsX5_container (va_wsS RX5 63 yX5_head wsX5_head) := goodIn_app (goodIn_of _ (by decide +kernel)) ggX5_container_X5_head
set_option maxRecDepth 20000 in
theorem ggX5_container_X5_beginning : GoodIn wsX5_container wsX5_beginning := goodIn_r _ [38, 39, 40, 41, 42, 4, 43, 17, 18, 19, 20, 21, 22, 10, 23, 24, 25, 26, 27, 28, 44, 45, 46, 47, 48, 49, 50, 51, 52, 53, 54, 55, 56, 57, 58, 59] (by decide +kernel) (by decide +kernel)
set_option maxRecDepth 20000 in
theorem gX5_container_X5_beginning : GoodIn wsX5_container (wsV RX5 91 RX5 yX5_beginning wsX5_beginning) := goodIn_app (goodIn_of _ (by decide +kernel)) ggX5_container_X5_beginning
theorem dX5_container_0 : decode cX5_container 0 = .ok (.aload_n 0, 1) := by decide +kernel
theorem dX5_container_1 : decode cX5_container 1 = .ok (.iconst 0, 1) := by decide +kernel
theorem dX5_container_2 : decode cX5_container 2 = .ok (.putfield 43, 3) := by decide +kernel
theorem dX5_container_5 : decode cX5_container 5 = .ok (.iload_n 1, 1) := by decide +kernel
theorem dX5_container_6 : decode cX5_container 6 = .ok (.iconst 0, 1) := by decide +kernel
theorem dX5_container_7 : decode cX5_container 7 = .ok (.iconst 1, 1) := by decide +kernel
theorem dX5_container_8 : decode cX5_container 8 = .ok (.invokestatic 81, 3) := by decide +kernel
theorem dX5_container_11 : decode cX5_container 11 = .ok (.ifCond .ne 5, 3) := by decide +kernel
theorem dX5_container_14 : decode cX5_container 14 = .ok (.iconst (-1), 1) := by decide +kernel
theorem dX5_container_15 : decode cX5_container 15 = .ok (.ireturn, 1) := by decide +kernel
theorem dX5_container_16 : decode cX5_container 16 = .ok (.aload_n 0, 1) := by decide +kernel
theorem dX5_container_17 : decode cX5_container 17 = .ok (.aload_n 0, 1) := by decide +kernel
theorem dX5_container_18 : decode cX5_container 18 = .ok (.invokevirtual 94, 3) := by decide +kernel
theorem dX5_container_21 : decode cX5_container 21 = .ok (.invokevirtual 88, 3) := by decide +kernel
theorem dX5_container_24 : decode cX5_container 24 = .ok (.istore_n 2, 1) := by decide +kernel
theorem dX5_container_25 : decode cX5_container 25 = .ok (.iload_n 2, 1) := by decide +kernel
theorem dX5_container_26 : decode cX5_container 26 = .ok (.ifCond .ge 7, 3) := by decide +kernel
theorem dX5_container_29 : decode cX5_container 29 = .ok (.iconst 0, 1) := by decide +kernel
theorem dX5_container_30 : decode cX5_container 30 = .ok (.goto 15, 3) := by decide +kernel
theorem dX5_container_33 : decode cX5_container 33 = .ok (.aload_n 0, 1) := by decide +kernel
theorem dX5_container_34 : decode cX5_container 34 = .ok (.aload_n 0, 1) := by decide +kernel
theorem dX5_container_35 : decode cX5_container 35 = .ok (.invokevirtual 94, 3) := by decide +kernel
theorem dX5_container_38 : decode cX5_container 38 = .ok (.iload_n 2, 1) := by decide +kernel
theorem dX5_container_39 : decode cX5_container 39 = .ok (.invokestatic 63, 3) := by decide +kernel
theorem dX5_container_42 : decode cX5_container 42 = .ok (.invokevirtual 91, 3) := by decide +kernel
theorem dX5_container_45 : decode cX5_container 45 = .ok (.istore_n 3, 1) := by decide +kernel
theorem dX5_container_46 : decode cX5_container 46 = .ok (.iload_n 3, 1) := by decide +kernel
theorem dX5_container_47 : decode cX5_container 47 = .ok (.ifCond .ne 8, 3) := by decide +kernel
theorem dX5_container_50 : decode cX5_container 50 = .ok (.bipush (-9), 2) := by decide +kernel
theorem dX5_container_52 : decode cX5_container 52 = .ok (.goto 12, 3) := by decide +kernel
theorem dX5_container_55 : decode cX5_container 55 = .ok (.iload_n 1, 1) := by decide +kernel
theorem dX5_container_56 : decode cX5_container 56 = .ok (.ifCond .ne 7, 3) := by decide +kernel
theorem dX5_container_59 : decode cX5_container 59 = .ok (.iload_n 3, 1) := by decide +kernel
theorem dX5_container_60 : decode cX5_container 60 = .ok (.goto 4, 3) := by decide +kernel
theorem dX5_container_63 : decode cX5_container 63 = .ok (.iload_n 2, 1) := by decide +kernel
theorem dX5_container_64 : decode cX5_container 64 = .ok (.ireturn, 1) := by decide +kernel
set_option maxRecDepth 20000 in
theorem ggX5_telling_X5_own : GoodIn wsX5_telling wsX5_own := goodIn_r _ [7, 8, 2, 9, 35, 36, 37, 38, 39, 40, 41, 42, 43, 44, 45, 46, 47, 48, 49, 50] (by decide +kernel) (by decide +kernel)
set_option maxRecDepth 20000 in
theorem gX5_telling_X5_own : GoodIn wsX5_telling (wsV RX5 94 RX5 yX5_own wsX5_own) := goodIn_app (goodIn_of _ (by decide +kernel)) ggX5_telling_X5_own
set_option maxRecDepth 20000 in
theorem ggX5_telling_X5_placeOf : GoodIn wsX5_telling wsX5_placeOf := goodIn_r _ [13, 14, 15, 35, 36, 37, 38, 39, 40, 41, 42, 43, 44, 45, 46, 47, 48, 49, 50] (by decide +kernel) (by decide +kernel)
set_option maxRecDepth 20000 in
theorem gX5_telling_X5_placeOf : GoodIn wsX5_telling (wsV RX5 98 RX5 yX5_placeOf wsX5_placeOf) := goodIn_app (goodIn_of _ (by decide +kernel)) ggX5_telling_X5_placeOf
set_option maxRecDepth 20000 in
theorem ggX5_telling_X5_head : GoodIn wsX5_telling wsX5_head := goodIn_r _ [18, 19, 20, 6, 21, 8] (by decide +kernel) (by decide +kernel)
set_option maxRecDepth 20000 in
theorem gX5_telling_X5_head : GoodIn wsX5_telling (va_wsS RX5 63 yX5_head wsX5_head) := goodIn_app (goodIn_of _ (by decide +kernel)) ggX5_telling_X5_head
set_option maxRecDepth 20000 in
theorem ggX5_telling_X5_beginning : GoodIn wsX5_telling wsX5_beginning := goodIn_r _ [25, 14, 15, 26, 27, 6, 28, 29, 30, 31, 32, 33, 34, 8, 19, 20, 21, 16, 17, 18, 35, 36, 37, 38, 39, 40, 41, 42, 43, 44, 45, 46, 47, 48, 49, 50] (by decide +kernel) (by decide +kernel)
set_option maxRecDepth 20000 in
theorem gX5_telling_X5_beginning : GoodIn wsX5_telling (wsV RX5 91 RX5 yX5_beginning wsX5_beginning) := goodIn_app (goodIn_of _ (by decide +kernel)) ggX5_telling_X5_beginning
theorem dX5_telling_0 : decode cX5_telling 0 = .ok (.aload_n 0, 1) := by decide +kernel
theorem dX5_telling_1 : decode cX5_telling 1 = .ok (.iconst 0, 1) := by decide +kernel
theorem dX5_telling_2 : decode cX5_telling 2 = .ok (.putfield 43, 3) := by decide +kernel
theorem dX5_telling_5 : decode cX5_telling 5 = .ok (.aload_n 0, 1) := by decide +kernel
theorem dX5_telling_6 : decode cX5_telling 6 = .ok (.invokevirtual 94, 3) := by decide +kernel
theorem dX5_telling_9 : decode cX5_telling 9 = .ok (.lstore_n 1, 1) := by decide +kernel
theorem dX5_telling_10 : decode cX5_telling 10 = .ok (.aload_n 0, 1) := by decide +kernel
theorem dX5_telling_11 : decode cX5_telling 11 = .ok (.lload_n 1, 1) := by decide +kernel
theorem dX5_telling_12 : decode cX5_telling 12 = .ok (.invokevirtual 98, 3) := by decide +kernel
theorem dX5_telling_15 : decode cX5_telling 15 = .ok (.ifCond .ge 6, 3) := by decide +kernel
theorem dX5_telling_18 : decode cX5_telling 18 = .ok (.bipush (-9), 2) := by decide +kernel
theorem dX5_telling_20 : decode cX5_telling 20 = .ok (.ireturn, 1) := by decide +kernel
theorem dX5_telling_21 : decode cX5_telling 21 = .ok (.iconst 0, 1) := by decide +kernel
theorem dX5_telling_22 : decode cX5_telling 22 = .ok (.istore_n 3, 1) := by decide +kernel
theorem dX5_telling_23 : decode cX5_telling 23 = .ok (.iload_n 3, 1) := by decide +kernel
theorem dX5_telling_24 : decode cX5_telling 24 = .ok (.aload_n 0, 1) := by decide +kernel
theorem dX5_telling_25 : decode cX5_telling 25 = .ok (.getfield 56, 3) := by decide +kernel
theorem dX5_telling_28 : decode cX5_telling 28 = .ok (.if_icmp .gt 22, 3) := by decide +kernel
theorem dX5_telling_31 : decode cX5_telling 31 = .ok (.aload_n 0, 1) := by decide +kernel
theorem dX5_telling_32 : decode cX5_telling 32 = .ok (.lload_n 1, 1) := by decide +kernel
theorem dX5_telling_33 : decode cX5_telling 33 = .ok (.iload_n 3, 1) := by decide +kernel
theorem dX5_telling_34 : decode cX5_telling 34 = .ok (.invokestatic 63, 3) := by decide +kernel
theorem dX5_telling_37 : decode cX5_telling 37 = .ok (.invokevirtual 91, 3) := by decide +kernel
theorem dX5_telling_40 : decode cX5_telling 40 = .ok (.iconst 1, 1) := by decide +kernel
theorem dX5_telling_41 : decode cX5_telling 41 = .ok (.if_icmp .le 9, 3) := by decide +kernel
theorem dX5_telling_44 : decode cX5_telling 44 = .ok (.iinc 3 1, 3) := by decide +kernel
theorem dX5_telling_47 : decode cX5_telling 47 = .ok (.goto (-24), 3) := by decide +kernel
theorem dX5_telling_50 : decode cX5_telling 50 = .ok (.iload_n 3, 1) := by decide +kernel
theorem dX5_telling_51 : decode cX5_telling 51 = .ok (.ireturn, 1) := by decide +kernel
set_option maxRecDepth 20000 in
theorem ggX5_longest_X5_own : GoodIn wsX5_longest wsX5_own := goodIn_r _ [8, 9, 10, 11, 27, 28, 29, 30, 31, 32, 33, 34, 35, 36, 37, 38, 39, 40, 41, 42] (by decide +kernel) (by decide +kernel)
set_option maxRecDepth 20000 in
theorem gX5_longest_X5_own : GoodIn wsX5_longest (wsV RX5 94 RX5 yX5_own wsX5_own) := goodIn_app (goodIn_of _ (by decide +kernel)) ggX5_longest_X5_own
set_option maxRecDepth 20000 in
theorem ggX5_longest_X5_begins : GoodIn wsX5_longest wsX5_begins := goodIn_r _ [14, 15, 16, 7, 17, 18, 19, 20, 9, 21, 22, 23, 24, 25, 26] (by decide +kernel) (by decide +kernel)
set_option maxRecDepth 20000 in
theorem gX5_longest_X5_begins : GoodIn wsX5_longest (va_wsS RX5 70 yX5_begins wsX5_begins) := goodIn_app (goodIn_of _ (by decide +kernel)) ggX5_longest_X5_begins
set_option maxRecDepth 20000 in
theorem ggX5_longest_X5_size : GoodIn wsX5_longest wsX5_size := goodIn_r _ [17, 18, 19, 7, 20, 9, 21, 22, 23] (by decide +kernel) (by decide +kernel)
set_option maxRecDepth 20000 in
theorem gX5_longest_X5_size : GoodIn wsX5_longest (va_wsS RX5 59 yX5_size wsX5_size) := goodIn_app (goodIn_of _ (by decide +kernel)) ggX5_longest_X5_size
theorem dX5_longest_0 : decode cX5_longest 0 = .ok (.aload_n 0, 1) := by decide +kernel
theorem dX5_longest_1 : decode cX5_longest 1 = .ok (.iconst 0, 1) := by decide +kernel
theorem dX5_longest_2 : decode cX5_longest 2 = .ok (.putfield 43, 3) := by decide +kernel
theorem dX5_longest_5 : decode cX5_longest 5 = .ok (.bipush (-9), 2) := by decide +kernel
theorem dX5_longest_7 : decode cX5_longest 7 = .ok (.istore_n 1, 1) := by decide +kernel
theorem dX5_longest_8 : decode cX5_longest 8 = .ok (.iconst 0, 1) := by decide +kernel
theorem dX5_longest_9 : decode cX5_longest 9 = .ok (.istore_n 2, 1) := by decide +kernel
theorem dX5_longest_10 : decode cX5_longest 10 = .ok (.iload_n 2, 1) := by decide +kernel
theorem dX5_longest_11 : decode cX5_longest 11 = .ok (.aload_n 0, 1) := by decide +kernel
theorem dX5_longest_12 : decode cX5_longest 12 = .ok (.getfield 67, 3) := by decide +kernel
theorem dX5_longest_15 : decode cX5_longest 15 = .ok (.if_icmp .ge 52, 3) := by decide +kernel
theorem dX5_longest_18 : decode cX5_longest 18 = .ok (.aload_n 0, 1) := by decide +kernel
theorem dX5_longest_19 : decode cX5_longest 19 = .ok (.invokevirtual 94, 3) := by decide +kernel
theorem dX5_longest_22 : decode cX5_longest 22 = .ok (.aload_n 0, 1) := by decide +kernel
theorem dX5_longest_23 : decode cX5_longest 23 = .ok (.getfield 17, 3) := by decide +kernel
theorem dX5_longest_26 : decode cX5_longest 26 = .ok (.iload_n 2, 1) := by decide +kernel
theorem dX5_longest_27 : decode cX5_longest 27 = .ok (.laload, 1) := by decide +kernel
theorem dX5_longest_28 : decode cX5_longest 28 = .ok (.invokestatic 70, 3) := by decide +kernel
theorem dX5_longest_31 : decode cX5_longest 31 = .ok (.ifCond .eq 28, 3) := by decide +kernel
theorem dX5_longest_34 : decode cX5_longest 34 = .ok (.aload_n 0, 1) := by decide +kernel
theorem dX5_longest_35 : decode cX5_longest 35 = .ok (.getfield 17, 3) := by decide +kernel
theorem dX5_longest_38 : decode cX5_longest 38 = .ok (.iload_n 2, 1) := by decide +kernel
theorem dX5_longest_39 : decode cX5_longest 39 = .ok (.laload, 1) := by decide +kernel
theorem dX5_longest_40 : decode cX5_longest 40 = .ok (.invokestatic 59, 3) := by decide +kernel
theorem dX5_longest_43 : decode cX5_longest 43 = .ok (.iload_n 1, 1) := by decide +kernel
theorem dX5_longest_44 : decode cX5_longest 44 = .ok (.if_icmp .le 15, 3) := by decide +kernel
theorem dX5_longest_47 : decode cX5_longest 47 = .ok (.aload_n 0, 1) := by decide +kernel
theorem dX5_longest_48 : decode cX5_longest 48 = .ok (.getfield 17, 3) := by decide +kernel
theorem dX5_longest_51 : decode cX5_longest 51 = .ok (.iload_n 2, 1) := by decide +kernel
theorem dX5_longest_52 : decode cX5_longest 52 = .ok (.laload, 1) := by decide +kernel
theorem dX5_longest_53 : decode cX5_longest 53 = .ok (.invokestatic 59, 3) := by decide +kernel
theorem dX5_longest_56 : decode cX5_longest 56 = .ok (.goto 4, 3) := by decide +kernel
theorem dX5_longest_59 : decode cX5_longest 59 = .ok (.iload_n 1, 1) := by decide +kernel
theorem dX5_longest_60 : decode cX5_longest 60 = .ok (.istore_n 1, 1) := by decide +kernel
theorem dX5_longest_61 : decode cX5_longest 61 = .ok (.iinc 2 1, 3) := by decide +kernel
theorem dX5_longest_64 : decode cX5_longest 64 = .ok (.goto (-54), 3) := by decide +kernel
theorem dX5_longest_67 : decode cX5_longest 67 = .ok (.iload_n 1, 1) := by decide +kernel
theorem dX5_longest_68 : decode cX5_longest 68 = .ok (.ireturn, 1) := by decide +kernel
set_option maxRecDepth 20000 in
theorem ggX5_like_X5_in : GoodIn wsX5_like wsX5_in := goodIn_r _ [9] (by decide +kernel) (by decide +kernel)
set_option maxRecDepth 20000 in
theorem gX5_like_X5_in : GoodIn wsX5_like (va_wsS RX5 81 yX5_in wsX5_in) := goodIn_app (goodIn_of _ (by decide +kernel)) ggX5_like_X5_in
set_option maxRecDepth 20000 in
theorem ggX5_like_X5_sign : GoodIn wsX5_like wsX5_sign := goodIn_r _ [12, 13, 14, 15, 8, 16] (by decide +kernel) (by decide +kernel)
set_option maxRecDepth 20000 in
theorem gX5_like_X5_sign : GoodIn wsX5_like (va_wsS RX5 52 yX5_sign wsX5_sign) := goodIn_app (goodIn_of _ (by decide +kernel)) ggX5_like_X5_sign
set_option maxRecDepth 20000 in
theorem ggX5_like_X5_size : GoodIn wsX5_like wsX5_size := goodIn_r _ [19, 10, 11, 8, 12, 13, 14, 15, 16] (by decide +kernel) (by decide +kernel)
set_option maxRecDepth 20000 in
theorem gX5_like_X5_size : GoodIn wsX5_like (va_wsS RX5 59 yX5_size wsX5_size) := goodIn_app (goodIn_of _ (by decide +kernel)) ggX5_like_X5_size
