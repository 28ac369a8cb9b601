theorem dX4_init_0 : decode cX4_init 0 = .ok (.aload_n 0, 1) := by decide +kernel
theorem dX4_init_1 : decode cX4_init 1 = .ok (.invokespecial 1, 3) := by decide +kernel
theorem dX4_init_4 : decode cX4_init 4 = .ok (.aload_n 0, 1) := by decide +kernel
theorem dX4_init_5 : decode cX4_init 5 = .ok (.new 7, 3) := by decide +kernel
theorem dX4_init_8 : decode cX4_init 8 = .ok (.dup, 1) := by decide +kernel
theorem dX4_init_9 : decode cX4_init 9 = .ok (.invokespecial 9, 3) := by decide +kernel
theorem dX4_init_12 : decode cX4_init 12 = .ok (.putfield 10, 3) := by decide +kernel
theorem dX4_init_15 : decode cX4_init 15 = .ok (.aload_n 0, 1) := by decide +kernel
theorem dX4_init_16 : decode cX4_init 16 = .ok (.new 16, 3) := by decide +kernel
theorem dX4_init_19 : decode cX4_init 19 = .ok (.dup, 1) := by decide +kernel
theorem dX4_init_20 : decode cX4_init 20 = .ok (.invokespecial 18, 3) := by decide +kernel
theorem dX4_init_23 : decode cX4_init 23 = .ok (.putfield 19, 3) := by decide +kernel
theorem dX4_init_26 : decode cX4_init 26 = .ok (.aload_n 0, 1) := by decide +kernel
theorem dX4_init_27 : decode cX4_init 27 = .ok (.new 23, 3) := by decide +kernel
theorem dX4_init_30 : decode cX4_init 30 = .ok (.dup, 1) := by decide +kernel
theorem dX4_init_31 : decode cX4_init 31 = .ok (.invokespecial 25, 3) := by decide +kernel
theorem dX4_init_34 : decode cX4_init 34 = .ok (.putfield 26, 3) := by decide +kernel
theorem dX4_init_37 : decode cX4_init 37 = .ok (.aload_n 0, 1) := by decide +kernel
theorem dX4_init_38 : decode cX4_init 38 = .ok (.sipush 182, 3) := by decide +kernel
theorem dX4_init_41 : decode cX4_init 41 = .ok (.newarray .int, 2) := by decide +kernel
theorem dX4_init_43 : decode cX4_init 43 = .ok (.putfield 30, 3) := by decide +kernel
theorem dX4_init_46 : decode cX4_init 46 = .ok (.aload_n 0, 1) := by decide +kernel
theorem dX4_init_47 : decode cX4_init 47 = .ok (.lconst 0, 1) := by decide +kernel
theorem dX4_init_48 : decode cX4_init 48 = .ok (.putfield 36, 3) := by decide +kernel
theorem dX4_init_51 : decode cX4_init 51 = .ok (.aload_n 0, 1) := by decide +kernel
theorem dX4_init_52 : decode cX4_init 52 = .ok (.iconst 4, 1) := by decide +kernel
theorem dX4_init_53 : decode cX4_init 53 = .ok (.putfield 40, 3) := by decide +kernel
theorem dX4_init_56 : decode cX4_init 56 = .ok (.return_, 1) := by decide +kernel
set_option maxRecDepth 20000 in
theorem ggX4_type_X3_isLetter : GoodIn wsX4_type wsX3_isLetter := goodIn_r _ [5] (by decide +kernel) (by decide +kernel)
set_option maxRecDepth 20000 in
theorem gX4_type_X3_isLetter : GoodIn wsX4_type (va_wsS RX4 44 yX3_isLetter wsX3_isLetter) := goodIn_app (goodIn_of _ (by decide +kernel)) ggX4_type_X3_isLetter
set_option maxRecDepth 20000 in
theorem ggX4_type_X3_lengthOf : GoodIn wsX4_type wsX3_lengthOf := goodIn_r _ [8, 9, 10, 4, 11, 12, 13, 14] (by decide +kernel) (by decide +kernel)
set_option maxRecDepth 20000 in
theorem gX4_type_X3_lengthOf : GoodIn wsX4_type (va_wsS RX4 48 yX3_lengthOf wsX3_lengthOf) := goodIn_app (goodIn_of _ (by decide +kernel)) ggX4_type_X3_lengthOf
set_option maxRecDepth 20000 in
theorem ggX4_type_X3_extended : GoodIn wsX4_type wsX3_extended := goodIn_r _ [17, 12, 13, 4, 14] (by decide +kernel) (by decide +kernel)
set_option maxRecDepth 20000 in
theorem gX4_type_X3_extended : GoodIn wsX4_type (va_wsS RX4 52 yX3_extended wsX3_extended) := goodIn_app (goodIn_of _ (by decide +kernel)) ggX4_type_X3_extended
theorem dX4_type_0 : decode cX4_type 0 = .ok (.iload_n 1, 1) := by decide +kernel
theorem dX4_type_1 : decode cX4_type 1 = .ok (.invokestatic 44, 3) := by decide +kernel
theorem dX4_type_4 : decode cX4_type 4 = .ok (.ifCond .ne 5, 3) := by decide +kernel
theorem dX4_type_7 : decode cX4_type 7 = .ok (.iconst (-1), 1) := by decide +kernel
theorem dX4_type_8 : decode cX4_type 8 = .ok (.ireturn, 1) := by decide +kernel
theorem dX4_type_9 : decode cX4_type 9 = .ok (.aload_n 0, 1) := by decide +kernel
theorem dX4_type_10 : decode cX4_type 10 = .ok (.getfield 36, 3) := by decide +kernel
theorem dX4_type_13 : decode cX4_type 13 = .ok (.invokestatic 48, 3) := by decide +kernel
theorem dX4_type_16 : decode cX4_type 16 = .ok (.istore_n 2, 1) := by decide +kernel
theorem dX4_type_17 : decode cX4_type 17 = .ok (.iload_n 2, 1) := by decide +kernel
theorem dX4_type_18 : decode cX4_type 18 = .ok (.bipush 7, 2) := by decide +kernel
theorem dX4_type_20 : decode cX4_type 20 = .ok (.if_icmp .lt 6, 3) := by decide +kernel
theorem dX4_type_23 : decode cX4_type 23 = .ok (.bipush (-3), 2) := by decide +kernel
theorem dX4_type_25 : decode cX4_type 25 = .ok (.ireturn, 1) := by decide +kernel
theorem dX4_type_26 : decode cX4_type 26 = .ok (.aload_n 0, 1) := by decide +kernel
theorem dX4_type_27 : decode cX4_type 27 = .ok (.aload_n 0, 1) := by decide +kernel
theorem dX4_type_28 : decode cX4_type 28 = .ok (.getfield 36, 3) := by decide +kernel
theorem dX4_type_31 : decode cX4_type 31 = .ok (.iload_n 2, 1) := by decide +kernel
theorem dX4_type_32 : decode cX4_type 32 = .ok (.iload_n 1, 1) := by decide +kernel
theorem dX4_type_33 : decode cX4_type 33 = .ok (.invokestatic 52, 3) := by decide +kernel
theorem dX4_type_36 : decode cX4_type 36 = .ok (.putfield 36, 3) := by decide +kernel
theorem dX4_type_39 : decode cX4_type 39 = .ok (.iload_n 2, 1) := by decide +kernel
theorem dX4_type_40 : decode cX4_type 40 = .ok (.iconst 1, 1) := by decide +kernel
theorem dX4_type_41 : decode cX4_type 41 = .ok (.iadd, 1) := by decide +kernel
theorem dX4_type_42 : decode cX4_type 42 = .ok (.ireturn, 1) := by decide +kernel
set_option maxRecDepth 20000 in
theorem ggX4_clear_X3_lengthOf : GoodIn wsX4_clear wsX3_lengthOf := goodIn_r _ [5, 6, 7, 4, 8, 9, 10, 11] (by decide +kernel) (by decide +kernel)
set_option maxRecDepth 20000 in
theorem gX4_clear_X3_lengthOf : GoodIn wsX4_clear (va_wsS RX4 48 yX3_lengthOf wsX3_lengthOf) := goodIn_app (goodIn_of _ (by decide +kernel)) ggX4_clear_X3_lengthOf
theorem dX4_clear_0 : decode cX4_clear 0 = .ok (.aload_n 0, 1) := by decide +kernel
theorem dX4_clear_1 : decode cX4_clear 1 = .ok (.getfield 36, 3) := by decide +kernel
theorem dX4_clear_4 : decode cX4_clear 4 = .ok (.invokestatic 48, 3) := by decide +kernel
theorem dX4_clear_7 : decode cX4_clear 7 = .ok (.istore_n 1, 1) := by decide +kernel
theorem dX4_clear_8 : decode cX4_clear 8 = .ok (.aload_n 0, 1) := by decide +kernel
theorem dX4_clear_9 : decode cX4_clear 9 = .ok (.lconst 0, 1) := by decide +kernel
theorem dX4_clear_10 : decode cX4_clear 10 = .ok (.putfield 36, 3) := by decide +kernel
theorem dX4_clear_13 : decode cX4_clear 13 = .ok (.iload_n 1, 1) := by decide +kernel
theorem dX4_clear_14 : decode cX4_clear 14 = .ok (.ireturn, 1) := by decide +kernel
set_option maxRecDepth 20000 in
theorem ggX4_bounds_X0_size : GoodIn wsX4_bounds wsX0_size := goodIn_r _ [8, 9, 22, 23, 24, 25] (by decide +kernel) (by decide +kernel)
set_option maxRecDepth 20000 in
theorem gX4_bounds_X0_size : GoodIn wsX4_bounds (wsV RX4 56 RX0 yX0_size wsX0_size) := goodIn_app (goodIn_of _ (by decide +kernel)) ggX4_bounds_X0_size
set_option maxRecDepth 20000 in
theorem ggX4_bounds_X1_empty : GoodIn wsX4_bounds wsX1_empty := goodIn_r _ [14, 15, 26, 27, 28, 29] (by decide +kernel) (by decide +kernel)
set_option maxRecDepth 20000 in
theorem gX4_bounds_X1_empty : GoodIn wsX4_bounds (wsV RX4 60 RX1 yX1_empty wsX1_empty) := goodIn_app (goodIn_of _ (by decide +kernel)) ggX4_bounds_X1_empty
theorem dX4_bounds_0 : decode cX4_bounds 0 = .ok (.iload_n 1, 1) := by decide +kernel
theorem dX4_bounds_1 : decode cX4_bounds 1 = .ok (.iconst 2, 1) := by decide +kernel
theorem dX4_bounds_2 : decode cX4_bounds 2 = .ok (.if_icmp .lt 9, 3) := by decide +kernel
theorem dX4_bounds_5 : decode cX4_bounds 5 = .ok (.iload_n 1, 1) := by decide +kernel
theorem dX4_bounds_6 : decode cX4_bounds 6 = .ok (.bipush 8, 2) := by decide +kernel
theorem dX4_bounds_8 : decode cX4_bounds 8 = .ok (.if_icmp .le 5, 3) := by decide +kernel
theorem dX4_bounds_11 : decode cX4_bounds 11 = .ok (.iconst (-1), 1) := by decide +kernel
theorem dX4_bounds_12 : decode cX4_bounds 12 = .ok (.ireturn, 1) := by decide +kernel
theorem dX4_bounds_13 : decode cX4_bounds 13 = .ok (.aload_n 0, 1) := by decide +kernel
theorem dX4_bounds_14 : decode cX4_bounds 14 = .ok (.getfield 10, 3) := by decide +kernel
theorem dX4_bounds_17 : decode cX4_bounds 17 = .ok (.invokevirtual 56, 3) := by decide +kernel
theorem dX4_bounds_20 : decode cX4_bounds 20 = .ok (.ifCond .le 6, 3) := by decide +kernel
theorem dX4_bounds_23 : decode cX4_bounds 23 = .ok (.bipush (-2), 2) := by decide +kernel
theorem dX4_bounds_25 : decode cX4_bounds 25 = .ok (.ireturn, 1) := by decide +kernel
theorem dX4_bounds_26 : decode cX4_bounds 26 = .ok (.aload_n 0, 1) := by decide +kernel
theorem dX4_bounds_27 : decode cX4_bounds 27 = .ok (.getfield 40, 3) := by decide +kernel
theorem dX4_bounds_30 : decode cX4_bounds 30 = .ok (.istore_n 2, 1) := by decide +kernel
theorem dX4_bounds_31 : decode cX4_bounds 31 = .ok (.aload_n 0, 1) := by decide +kernel
theorem dX4_bounds_32 : decode cX4_bounds 32 = .ok (.iload_n 1, 1) := by decide +kernel
theorem dX4_bounds_33 : decode cX4_bounds 33 = .ok (.putfield 40, 3) := by decide +kernel
theorem dX4_bounds_36 : decode cX4_bounds 36 = .ok (.aload_n 0, 1) := by decide +kernel
theorem dX4_bounds_37 : decode cX4_bounds 37 = .ok (.getfield 19, 3) := by decide +kernel
theorem dX4_bounds_40 : decode cX4_bounds 40 = .ok (.invokevirtual 60, 3) := by decide +kernel
theorem dX4_bounds_43 : decode cX4_bounds 43 = .ok (.iload_n 2, 1) := by decide +kernel
theorem dX4_bounds_44 : decode cX4_bounds 44 = .ok (.ireturn, 1) := by decide +kernel
set_option maxRecDepth 20000 in
theorem ggX4_adds_X0_oftenOf : GoodIn wsX4_adds wsX0_oftenOf := goodIn_r _ [9, 10, 11, 12, 8, 13, 14, 15, 16, 17, 18, 19, 20, 21, 22, 23, 24, 25, 26, 27, 28, 111, 112, 113, 114] (by decide +kernel) (by decide +kernel)
set_option maxRecDepth 20000 in
theorem gX4_adds_X0_oftenOf : GoodIn wsX4_adds (wsV RX4 63 RX0 yX0_oftenOf wsX0_oftenOf) := goodIn_app (goodIn_of _ (by decide +kernel)) ggX4_adds_X0_oftenOf
set_option maxRecDepth 20000 in
theorem ggX4_adds_X0_size : GoodIn wsX4_adds wsX0_size := goodIn_r _ [32, 14, 111, 112, 113, 114] (by decide +kernel) (by decide +kernel)
set_option maxRecDepth 20000 in
theorem gX4_adds_X0_size : GoodIn wsX4_adds (wsV RX4 56 RX0 yX0_size wsX0_size) := goodIn_app (goodIn_of _ (by decide +kernel)) ggX4_adds_X0_size
set_option maxRecDepth 20000 in
theorem ggX4_adds_X0_depthOf : GoodIn wsX4_adds wsX0_depthOf := goodIn_r _ [36, 14, 37, 38, 39, 40, 41, 42, 43, 15, 16, 17, 8, 18, 19, 20, 21, 22, 23, 44, 45, 46, 47, 48, 49, 50, 51, 52, 53, 54, 55, 56, 57, 58, 111, 112, 113, 114] (by decide +kernel) (by decide +kernel)
set_option maxRecDepth 20000 in
theorem gX4_adds_X0_depthOf : GoodIn wsX4_adds (wsV RX4 66 RX0 yX0_depthOf wsX0_depthOf) := goodIn_app (goodIn_of _ (by decide +kernel)) ggX4_adds_X0_depthOf
set_option maxRecDepth 20000 in
theorem ggX4_adds_X1_push : GoodIn wsX4_adds wsX1_push := goodIn_r _ [63, 64, 65, 66, 67, 68, 69, 70, 62, 71, 72, 73, 74, 75, 115, 116, 117, 118] (by decide +kernel) (by decide +kernel)
set_option maxRecDepth 20000 in
theorem gX4_adds_X1_push : GoodIn wsX4_adds (wsV RX4 69 RX1 yX1_push wsX1_push) := goodIn_app (goodIn_of _ (by decide +kernel)) ggX4_adds_X1_push
set_option maxRecDepth 20000 in
theorem ggX4_adds_X0_put : GoodIn wsX4_adds wsX0_put := goodIn_r _ [79, 19, 28, 10, 11, 12, 8, 13, 14, 15, 16, 17, 18, 20, 21, 22, 23, 80, 81, 82, 83, 84, 73, 74, 75, 58, 85, 34, 35, 36, 37, 38, 39, 40, 41, 42, 43, 44, 45, 46, 47, 48, 49, 50, 51, 52, 53, 54, 55, 56, 57, 86, 87, 88, 89, 111, 112, 113, 114] (by decide +kernel) (by decide +kernel)
set_option maxRecDepth 20000 in
theorem gX4_adds_X0_put : GoodIn wsX4_adds (wsV RX4 73 RX0 yX0_put wsX0_put) := goodIn_app (goodIn_of _ (by decide +kernel)) ggX4_adds_X0_put
set_option maxRecDepth 20000 in
theorem ggX4_adds_X0_burstDepth : GoodIn wsX4_adds wsX0_burstDepth := goodIn_r _ [93, 94, 95, 46, 96, 48, 49, 50, 51, 52, 53, 97, 98, 99, 8, 100, 14, 15, 16, 17, 18, 19, 20, 21, 22, 23, 44, 45, 47, 111, 112, 113, 114] (by decide +kernel) (by decide +kernel)
set_option maxRecDepth 20000 in
theorem gX4_adds_X0_burstDepth : GoodIn wsX4_adds (wsV RX4 77 RX0 yX0_burstDepth wsX0_burstDepth) := goodIn_app (goodIn_of _ (by decide +kernel)) ggX4_adds_X0_burstDepth
set_option maxRecDepth 20000 in
theorem ggX4_adds_X0_reshape : GoodIn wsX4_adds wsX0_reshape := goodIn_r _ [104, 37, 38, 39, 40, 14, 19, 58, 44, 45, 46, 47, 48, 49, 50, 51, 52, 53, 111, 112, 113, 114] (by decide +kernel) (by decide +kernel)
set_option maxRecDepth 20000 in
theorem gX4_adds_X0_reshape : GoodIn wsX4_adds (wsV RX4 81 RX0 yX0_reshape wsX0_reshape) := goodIn_app (goodIn_of _ (by decide +kernel)) ggX4_adds_X0_reshape
theorem dX4_adds_0 : decode cX4_adds 0 = .ok (.aload_n 0, 1) := by decide +kernel
theorem dX4_adds_1 : decode cX4_adds 1 = .ok (.getfield 36, 3) := by decide +kernel
theorem dX4_adds_4 : decode cX4_adds 4 = .ok (.lconst 0, 1) := by decide +kernel
theorem dX4_adds_5 : decode cX4_adds 5 = .ok (.lcmp, 1) := by decide +kernel
theorem dX4_adds_6 : decode cX4_adds 6 = .ok (.ifCond .ne 5, 3) := by decide +kernel
theorem dX4_adds_9 : decode cX4_adds 9 = .ok (.iconst (-1), 1) := by decide +kernel
theorem dX4_adds_10 : decode cX4_adds 10 = .ok (.ireturn, 1) := by decide +kernel
theorem dX4_adds_11 : decode cX4_adds 11 = .ok (.aload_n 0, 1) := by decide +kernel
theorem dX4_adds_12 : decode cX4_adds 12 = .ok (.getfield 10, 3) := by decide +kernel
theorem dX4_adds_15 : decode cX4_adds 15 = .ok (.aload_n 0, 1) := by decide +kernel
theorem dX4_adds_16 : decode cX4_adds 16 = .ok (.getfield 36, 3) := by decide +kernel
theorem dX4_adds_19 : decode cX4_adds 19 = .ok (.invokevirtual 63, 3) := by decide +kernel
theorem dX4_adds_22 : decode cX4_adds 22 = .ok (.istore_n 1, 1) := by decide +kernel
theorem dX4_adds_23 : decode cX4_adds 23 = .ok (.iload_n 1, 1) := by decide +kernel
theorem dX4_adds_24 : decode cX4_adds 24 = .ok (.bipush 99, 2) := by decide +kernel
theorem dX4_adds_26 : decode cX4_adds 26 = .ok (.if_icmp .ge 19, 3) := by decide +kernel
theorem dX4_adds_29 : decode cX4_adds 29 = .ok (.iload_n 1, 1) := by decide +kernel
theorem dX4_adds_30 : decode cX4_adds 30 = .ok (.ifCond .ne 18, 3) := by decide +kernel
theorem dX4_adds_33 : decode cX4_adds 33 = .ok (.aload_n 0, 1) := by decide +kernel
theorem dX4_adds_34 : decode cX4_adds 34 = .ok (.getfield 10, 3) := by decide +kernel
theorem dX4_adds_37 : decode cX4_adds 37 = .ok (.invokevirtual 56, 3) := by decide +kernel
theorem dX4_adds_40 : decode cX4_adds 40 = .ok (.bipush 40, 2) := by decide +kernel
theorem dX4_adds_42 : decode cX4_adds 42 = .ok (.if_icmp .lt 6, 3) := by decide +kernel
theorem dX4_adds_45 : decode cX4_adds 45 = .ok (.bipush (-3), 2) := by decide +kernel
theorem dX4_adds_47 : decode cX4_adds 47 = .ok (.ireturn, 1) := by decide +kernel
theorem dX4_adds_48 : decode cX4_adds 48 = .ok (.aload_n 0, 1) := by decide +kernel
theorem dX4_adds_49 : decode cX4_adds 49 = .ok (.getfield 10, 3) := by decide +kernel
theorem dX4_adds_52 : decode cX4_adds 52 = .ok (.aload_n 0, 1) := by decide +kernel
theorem dX4_adds_53 : decode cX4_adds 53 = .ok (.getfield 36, 3) := by decide +kernel
theorem dX4_adds_56 : decode cX4_adds 56 = .ok (.invokevirtual 66, 3) := by decide +kernel
theorem dX4_adds_59 : decode cX4_adds 59 = .ok (.istore_n 2, 1) := by decide +kernel
theorem dX4_adds_60 : decode cX4_adds 60 = .ok (.aload_n 0, 1) := by decide +kernel
theorem dX4_adds_61 : decode cX4_adds 61 = .ok (.getfield 19, 3) := by decide +kernel
theorem dX4_adds_64 : decode cX4_adds 64 = .ok (.aload_n 0, 1) := by decide +kernel
theorem dX4_adds_65 : decode cX4_adds 65 = .ok (.getfield 36, 3) := by decide +kernel
theorem dX4_adds_68 : decode cX4_adds 68 = .ok (.iload_n 1, 1) := by decide +kernel
theorem dX4_adds_69 : decode cX4_adds 69 = .ok (.iload_n 2, 1) := by decide +kernel
theorem dX4_adds_70 : decode cX4_adds 70 = .ok (.invokevirtual 69, 3) := by decide +kernel
theorem dX4_adds_73 : decode cX4_adds 73 = .ok (.aload_n 0, 1) := by decide +kernel
theorem dX4_adds_74 : decode cX4_adds 74 = .ok (.getfield 10, 3) := by decide +kernel
theorem dX4_adds_77 : decode cX4_adds 77 = .ok (.aload_n 0, 1) := by decide +kernel
theorem dX4_adds_78 : decode cX4_adds 78 = .ok (.getfield 36, 3) := by decide +kernel
theorem dX4_adds_81 : decode cX4_adds 81 = .ok (.iload_n 1, 1) := by decide +kernel
theorem dX4_adds_82 : decode cX4_adds 82 = .ok (.iconst 1, 1) := by decide +kernel
theorem dX4_adds_83 : decode cX4_adds 83 = .ok (.iadd, 1) := by decide +kernel
theorem dX4_adds_84 : decode cX4_adds 84 = .ok (.invokevirtual 73, 3) := by decide +kernel
theorem dX4_adds_87 : decode cX4_adds 87 = .ok (.aload_n 0, 1) := by decide +kernel
theorem dX4_adds_88 : decode cX4_adds 88 = .ok (.getfield 10, 3) := by decide +kernel
theorem dX4_adds_91 : decode cX4_adds 91 = .ok (.aload_n 0, 1) := by decide +kernel
theorem dX4_adds_92 : decode cX4_adds 92 = .ok (.getfield 36, 3) := by decide +kernel
theorem dX4_adds_95 : decode cX4_adds 95 = .ok (.iload_n 2, 1) := by decide +kernel
theorem dX4_adds_96 : decode cX4_adds 96 = .ok (.aload_n 0, 1) := by decide +kernel
theorem dX4_adds_97 : decode cX4_adds 97 = .ok (.getfield 10, 3) := by decide +kernel
theorem dX4_adds_100 : decode cX4_adds 100 = .ok (.aload_n 0, 1) := by decide +kernel
theorem dX4_adds_101 : decode cX4_adds 101 = .ok (.getfield 36, 3) := by decide +kernel
theorem dX4_adds_104 : decode cX4_adds 104 = .ok (.iload_n 2, 1) := by decide +kernel
theorem dX4_adds_105 : decode cX4_adds 105 = .ok (.aload_n 0, 1) := by decide +kernel
theorem dX4_adds_106 : decode cX4_adds 106 = .ok (.getfield 40, 3) := by decide +kernel
theorem dX4_adds_109 : decode cX4_adds 109 = .ok (.invokevirtual 77, 3) := by decide +kernel
theorem dX4_adds_112 : decode cX4_adds 112 = .ok (.invokevirtual 81, 3) := by decide +kernel
theorem dX4_adds_115 : decode cX4_adds 115 = .ok (.iload_n 1, 1) := by decide +kernel
theorem dX4_adds_116 : decode cX4_adds 116 = .ok (.iconst 1, 1) := by decide +kernel
theorem dX4_adds_117 : decode cX4_adds 117 = .ok (.iadd, 1) := by decide +kernel
theorem dX4_adds_118 : decode cX4_adds 118 = .ok (.ireturn, 1) := by decide +kernel
set_option maxRecDepth 20000 in
theorem ggX4_takes_X0_oftenOf : GoodIn wsX4_takes wsX0_oftenOf := goodIn_r _ [9, 10, 11, 12, 8, 13, 14, 15, 16, 17, 18, 19, 20, 21, 22, 23, 24, 25, 26, 27, 28, 104, 105, 106, 107] (by decide +kernel) (by decide +kernel)
set_option maxRecDepth 20000 in
theorem gX4_takes_X0_oftenOf : GoodIn wsX4_takes (wsV RX4 63 RX0 yX0_oftenOf wsX0_oftenOf) := goodIn_app (goodIn_of _ (by decide +kernel)) ggX4_takes_X0_oftenOf
set_option maxRecDepth 20000 in
theorem ggX4_takes_X0_depthOf : GoodIn wsX4_takes wsX0_depthOf := goodIn_r _ [32, 14, 33, 34, 35, 36, 37, 38, 39, 15, 16, 17, 8, 18, 19, 20, 21, 22, 23, 40, 41, 42, 43, 44, 45, 46, 47, 48, 49, 50, 51, 52, 53, 54, 104, 105, 106, 107] (by decide +kernel) (by decide +kernel)
set_option maxRecDepth 20000 in
theorem gX4_takes_X0_depthOf : GoodIn wsX4_takes (wsV RX4 66 RX0 yX0_depthOf wsX0_depthOf) := goodIn_app (goodIn_of _ (by decide +kernel)) ggX4_takes_X0_depthOf
set_option maxRecDepth 20000 in
theorem ggX4_takes_X1_push : GoodIn wsX4_takes wsX1_push := goodIn_r _ [59, 60, 61, 62, 63, 64, 65, 66, 58, 67, 68, 69, 70, 71, 108, 109, 110, 111] (by decide +kernel) (by decide +kernel)
set_option maxRecDepth 20000 in
theorem gX4_takes_X1_push : GoodIn wsX4_takes (wsV RX4 69 RX1 yX1_push wsX1_push) := goodIn_app (goodIn_of _ (by decide +kernel)) ggX4_takes_X1_push
set_option maxRecDepth 20000 in
theorem ggX4_takes_X0_put : GoodIn wsX4_takes wsX0_put := goodIn_r _ [75, 19, 28, 10, 11, 12, 8, 13, 14, 15, 16, 17, 18, 20, 21, 22, 23, 76, 77, 78, 79, 80, 69, 70, 71, 54, 81, 30, 31, 32, 33, 34, 35, 36, 37, 38, 39, 40, 41, 42, 43, 44, 45, 46, 47, 48, 49, 50, 51, 52, 53, 82, 83, 84, 85, 104, 105, 106, 107] (by decide +kernel) (by decide +kernel)
set_option maxRecDepth 20000 in
theorem gX4_takes_X0_put : GoodIn wsX4_takes (wsV RX4 73 RX0 yX0_put wsX0_put) := goodIn_app (goodIn_of _ (by decide +kernel)) ggX4_takes_X0_put
set_option maxRecDepth 20000 in
theorem ggX4_takes_X0_mergedDepth : GoodIn wsX4_takes wsX0_mergedDepth := goodIn_r _ [89, 90, 91, 92, 8, 93, 14, 15, 16, 17, 18, 19, 20, 21, 22, 23, 40, 41, 42, 43, 44, 45, 46, 47, 48, 49, 104, 105, 106, 107] (by decide +kernel) (by decide +kernel)
set_option maxRecDepth 20000 in
theorem gX4_takes_X0_mergedDepth : GoodIn wsX4_takes (wsV RX4 84 RX0 yX0_mergedDepth wsX0_mergedDepth) := goodIn_app (goodIn_of _ (by decide +kernel)) ggX4_takes_X0_mergedDepth
set_option maxRecDepth 20000 in
theorem ggX4_takes_X0_reshape : GoodIn wsX4_takes wsX0_reshape := goodIn_r _ [97, 33, 34, 35, 36, 14, 19, 54, 40, 41, 42, 43, 44, 45, 46, 47, 48, 49, 104, 105, 106, 107] (by decide +kernel) (by decide +kernel)
set_option maxRecDepth 20000 in
theorem gX4_takes_X0_reshape : GoodIn wsX4_takes (wsV RX4 81 RX0 yX0_reshape wsX0_reshape) := goodIn_app (goodIn_of _ (by decide +kernel)) ggX4_takes_X0_reshape
theorem dX4_takes_0 : decode cX4_takes 0 = .ok (.aload_n 0, 1) := by decide +kernel
theorem dX4_takes_1 : decode cX4_takes 1 = .ok (.getfield 10, 3) := by decide +kernel
theorem dX4_takes_4 : decode cX4_takes 4 = .ok (.aload_n 0, 1) := by decide +kernel
theorem dX4_takes_5 : decode cX4_takes 5 = .ok (.getfield 36, 3) := by decide +kernel
theorem dX4_takes_8 : decode cX4_takes 8 = .ok (.invokevirtual 63, 3) := by decide +kernel
theorem dX4_takes_11 : decode cX4_takes 11 = .ok (.istore_n 1, 1) := by decide +kernel
theorem dX4_takes_12 : decode cX4_takes 12 = .ok (.iload_n 1, 1) := by decide +kernel
theorem dX4_takes_13 : decode cX4_takes 13 = .ok (.ifCond .ne 6, 3) := by decide +kernel
theorem dX4_takes_16 : decode cX4_takes 16 = .ok (.bipush (-2), 2) := by decide +kernel
theorem dX4_takes_18 : decode cX4_takes 18 = .ok (.ireturn, 1) := by decide +kernel
theorem dX4_takes_19 : decode cX4_takes 19 = .ok (.aload_n 0, 1) := by decide +kernel
theorem dX4_takes_20 : decode cX4_takes 20 = .ok (.getfield 10, 3) := by decide +kernel
theorem dX4_takes_23 : decode cX4_takes 23 = .ok (.aload_n 0, 1) := by decide +kernel
theorem dX4_takes_24 : decode cX4_takes 24 = .ok (.getfield 36, 3) := by decide +kernel
theorem dX4_takes_27 : decode cX4_takes 27 = .ok (.invokevirtual 66, 3) := by decide +kernel
theorem dX4_takes_30 : decode cX4_takes 30 = .ok (.istore_n 2, 1) := by decide +kernel
theorem dX4_takes_31 : decode cX4_takes 31 = .ok (.aload_n 0, 1) := by decide +kernel
theorem dX4_takes_32 : decode cX4_takes 32 = .ok (.getfield 19, 3) := by decide +kernel
theorem dX4_takes_35 : decode cX4_takes 35 = .ok (.aload_n 0, 1) := by decide +kernel
theorem dX4_takes_36 : decode cX4_takes 36 = .ok (.getfield 36, 3) := by decide +kernel
theorem dX4_takes_39 : decode cX4_takes 39 = .ok (.iload_n 1, 1) := by decide +kernel
theorem dX4_takes_40 : decode cX4_takes 40 = .ok (.iload_n 2, 1) := by decide +kernel
theorem dX4_takes_41 : decode cX4_takes 41 = .ok (.invokevirtual 69, 3) := by decide +kernel
theorem dX4_takes_44 : decode cX4_takes 44 = .ok (.aload_n 0, 1) := by decide +kernel
theorem dX4_takes_45 : decode cX4_takes 45 = .ok (.getfield 10, 3) := by decide +kernel
theorem dX4_takes_48 : decode cX4_takes 48 = .ok (.aload_n 0, 1) := by decide +kernel
theorem dX4_takes_49 : decode cX4_takes 49 = .ok (.getfield 36, 3) := by decide +kernel
theorem dX4_takes_52 : decode cX4_takes 52 = .ok (.iload_n 1, 1) := by decide +kernel
theorem dX4_takes_53 : decode cX4_takes 53 = .ok (.iconst 1, 1) := by decide +kernel
theorem dX4_takes_54 : decode cX4_takes 54 = .ok (.isub, 1) := by decide +kernel
theorem dX4_takes_55 : decode cX4_takes 55 = .ok (.invokevirtual 73, 3) := by decide +kernel
theorem dX4_takes_58 : decode cX4_takes 58 = .ok (.aload_n 0, 1) := by decide +kernel
theorem dX4_takes_59 : decode cX4_takes 59 = .ok (.getfield 10, 3) := by decide +kernel
theorem dX4_takes_62 : decode cX4_takes 62 = .ok (.aload_n 0, 1) := by decide +kernel
theorem dX4_takes_63 : decode cX4_takes 63 = .ok (.getfield 36, 3) := by decide +kernel
theorem dX4_takes_66 : decode cX4_takes 66 = .ok (.iload_n 2, 1) := by decide +kernel
theorem dX4_takes_67 : decode cX4_takes 67 = .ok (.aload_n 0, 1) := by decide +kernel
theorem dX4_takes_68 : decode cX4_takes 68 = .ok (.getfield 10, 3) := by decide +kernel
theorem dX4_takes_71 : decode cX4_takes 71 = .ok (.aload_n 0, 1) := by decide +kernel
theorem dX4_takes_72 : decode cX4_takes 72 = .ok (.getfield 36, 3) := by decide +kernel
theorem dX4_takes_75 : decode cX4_takes 75 = .ok (.iload_n 2, 1) := by decide +kernel
theorem dX4_takes_76 : decode cX4_takes 76 = .ok (.aload_n 0, 1) := by decide +kernel
theorem dX4_takes_77 : decode cX4_takes 77 = .ok (.getfield 40, 3) := by decide +kernel
theorem dX4_takes_80 : decode cX4_takes 80 = .ok (.iconst 2, 1) := by decide +kernel
theorem dX4_takes_81 : decode cX4_takes 81 = .ok (.idiv, 1) := by decide +kernel
theorem dX4_takes_82 : decode cX4_takes 82 = .ok (.invokevirtual 84, 3) := by decide +kernel
theorem dX4_takes_85 : decode cX4_takes 85 = .ok (.invokevirtual 81, 3) := by decide +kernel
theorem dX4_takes_88 : decode cX4_takes 88 = .ok (.iload_n 1, 1) := by decide +kernel
theorem dX4_takes_89 : decode cX4_takes 89 = .ok (.iconst 1, 1) := by decide +kernel
theorem dX4_takes_90 : decode cX4_takes 90 = .ok (.isub, 1) := by decide +kernel
theorem dX4_takes_91 : decode cX4_takes 91 = .ok (.ireturn, 1) := by decide +kernel
set_option maxRecDepth 20000 in
theorem ggX4_undo_X1_size : GoodIn wsX4_undo wsX1_size := goodIn_r _ [7, 8, 101, 102, 103, 104] (by decide +kernel) (by decide +kernel)
set_option maxRecDepth 20000 in
theorem gX4_undo_X1_size : GoodIn wsX4_undo (wsV RX4 87 RX1 yX1_size wsX1_size) := goodIn_app (goodIn_of _ (by decide +kernel)) ggX4_undo_X1_size
set_option maxRecDepth 20000 in
theorem ggX4_undo_X1_lastWord : GoodIn wsX4_undo wsX1_lastWord := goodIn_r _ [12, 13, 8, 14, 15, 16, 6, 17, 101, 102, 103, 104] (by decide +kernel) (by decide +kernel)
set_option maxRecDepth 20000 in
theorem gX4_undo_X1_lastWord : GoodIn wsX4_undo (wsV RX4 88 RX1 yX1_lastWord wsX1_lastWord) := goodIn_app (goodIn_of _ (by decide +kernel)) ggX4_undo_X1_lastWord
set_option maxRecDepth 20000 in
theorem ggX4_undo_X0_depthOf : GoodIn wsX4_undo wsX0_depthOf := goodIn_r _ [22, 23, 24, 25, 26, 27, 28, 29, 30, 31, 32, 33, 21, 34, 35, 36, 37, 38, 39, 40, 41, 42, 43, 44, 45, 46, 47, 48, 49, 50, 51, 52, 53, 54, 105, 106, 107, 108] (by decide +kernel) (by decide +kernel)
set_option maxRecDepth 20000 in
theorem gX4_undo_X0_depthOf : GoodIn wsX4_undo (wsV RX4 66 RX0 yX0_depthOf wsX0_depthOf) := goodIn_app (goodIn_of _ (by decide +kernel)) ggX4_undo_X0_depthOf
set_option maxRecDepth 20000 in
theorem ggX4_undo_X1_lastOften : GoodIn wsX4_undo wsX1_lastOften := goodIn_r _ [58, 59, 8, 14, 15, 16, 6, 17, 101, 102, 103, 104] (by decide +kernel) (by decide +kernel)
set_option maxRecDepth 20000 in
theorem gX4_undo_X1_lastOften : GoodIn wsX4_undo (wsV RX4 92 RX1 yX1_lastOften wsX1_lastOften) := goodIn_app (goodIn_of _ (by decide +kernel)) ggX4_undo_X1_lastOften
set_option maxRecDepth 20000 in
theorem ggX4_undo_X0_put : GoodIn wsX4_undo wsX0_put := goodIn_r _ [63, 35, 64, 65, 66, 67, 21, 68, 23, 31, 32, 33, 34, 36, 37, 38, 39, 69, 70, 71, 72, 73, 74, 75, 76, 54, 77, 19, 20, 22, 24, 25, 26, 27, 28, 29, 30, 40, 41, 42, 43, 44, 45, 46, 47, 48, 49, 50, 51, 52, 53, 78, 79, 80, 81, 105, 106, 107, 108] (by decide +kernel) (by decide +kernel)
set_option maxRecDepth 20000 in
theorem gX4_undo_X0_put : GoodIn wsX4_undo (wsV RX4 73 RX0 yX0_put wsX0_put) := goodIn_app (goodIn_of _ (by decide +kernel)) ggX4_undo_X0_put
set_option maxRecDepth 20000 in
theorem ggX4_undo_X1_lastDepth : GoodIn wsX4_undo wsX1_lastDepth := goodIn_r _ [85, 86, 8, 14, 15, 16, 6, 17, 101, 102, 103, 104] (by decide +kernel) (by decide +kernel)
set_option maxRecDepth 20000 in
theorem gX4_undo_X1_lastDepth : GoodIn wsX4_undo (wsV RX4 95 RX1 yX1_lastDepth wsX1_lastDepth) := goodIn_app (goodIn_of _ (by decide +kernel)) ggX4_undo_X1_lastDepth
set_option maxRecDepth 20000 in
theorem ggX4_undo_X0_reshape : GoodIn wsX4_undo wsX0_reshape := goodIn_r _ [90, 24, 25, 26, 27, 23, 35, 54, 40, 41, 42, 43, 44, 45, 46, 47, 48, 49, 105, 106, 107, 108] (by decide +kernel) (by decide +kernel)
set_option maxRecDepth 20000 in
theorem gX4_undo_X0_reshape : GoodIn wsX4_undo (wsV RX4 81 RX0 yX0_reshape wsX0_reshape) := goodIn_app (goodIn_of _ (by decide +kernel)) ggX4_undo_X0_reshape
set_option maxRecDepth 20000 in
theorem ggX4_undo_X1_drop : GoodIn wsX4_undo wsX1_drop := goodIn_r _ [94, 8, 14, 15, 16, 6, 17, 101, 102, 103, 104] (by decide +kernel) (by decide +kernel)
set_option maxRecDepth 20000 in
theorem gX4_undo_X1_drop : GoodIn wsX4_undo (wsV RX4 98 RX1 yX1_drop wsX1_drop) := goodIn_app (goodIn_of _ (by decide +kernel)) ggX4_undo_X1_drop
theorem dX4_undo_0 : decode cX4_undo 0 = .ok (.aload_n 0, 1) := by decide +kernel
theorem dX4_undo_1 : decode cX4_undo 1 = .ok (.getfield 19, 3) := by decide +kernel
theorem dX4_undo_4 : decode cX4_undo 4 = .ok (.invokevirtual 87, 3) := by decide +kernel
theorem dX4_undo_7 : decode cX4_undo 7 = .ok (.ifCond .ne 6, 3) := by decide +kernel
theorem dX4_undo_10 : decode cX4_undo 10 = .ok (.bipush (-2), 2) := by decide +kernel
theorem dX4_undo_12 : decode cX4_undo 12 = .ok (.ireturn, 1) := by decide +kernel
theorem dX4_undo_13 : decode cX4_undo 13 = .ok (.aload_n 0, 1) := by decide +kernel
theorem dX4_undo_14 : decode cX4_undo 14 = .ok (.getfield 19, 3) := by decide +kernel
theorem dX4_undo_17 : decode cX4_undo 17 = .ok (.invokevirtual 88, 3) := by decide +kernel
theorem dX4_undo_20 : decode cX4_undo 20 = .ok (.lstore_n 1, 1) := by decide +kernel
theorem dX4_undo_21 : decode cX4_undo 21 = .ok (.aload_n 0, 1) := by decide +kernel
theorem dX4_undo_22 : decode cX4_undo 22 = .ok (.getfield 10, 3) := by decide +kernel
theorem dX4_undo_25 : decode cX4_undo 25 = .ok (.lload_n 1, 1) := by decide +kernel
theorem dX4_undo_26 : decode cX4_undo 26 = .ok (.invokevirtual 66, 3) := by decide +kernel
theorem dX4_undo_29 : decode cX4_undo 29 = .ok (.istore_n 3, 1) := by decide +kernel
theorem dX4_undo_30 : decode cX4_undo 30 = .ok (.aload_n 0, 1) := by decide +kernel
theorem dX4_undo_31 : decode cX4_undo 31 = .ok (.getfield 10, 3) := by decide +kernel
theorem dX4_undo_34 : decode cX4_undo 34 = .ok (.lload_n 1, 1) := by decide +kernel
theorem dX4_undo_35 : decode cX4_undo 35 = .ok (.aload_n 0, 1) := by decide +kernel
theorem dX4_undo_36 : decode cX4_undo 36 = .ok (.getfield 19, 3) := by decide +kernel
theorem dX4_undo_39 : decode cX4_undo 39 = .ok (.invokevirtual 92, 3) := by decide +kernel
theorem dX4_undo_42 : decode cX4_undo 42 = .ok (.invokevirtual 73, 3) := by decide +kernel
theorem dX4_undo_45 : decode cX4_undo 45 = .ok (.aload_n 0, 1) := by decide +kernel
theorem dX4_undo_46 : decode cX4_undo 46 = .ok (.getfield 10, 3) := by decide +kernel
theorem dX4_undo_49 : decode cX4_undo 49 = .ok (.lload_n 1, 1) := by decide +kernel
theorem dX4_undo_50 : decode cX4_undo 50 = .ok (.iload_n 3, 1) := by decide +kernel
theorem dX4_undo_51 : decode cX4_undo 51 = .ok (.aload_n 0, 1) := by decide +kernel
theorem dX4_undo_52 : decode cX4_undo 52 = .ok (.getfield 19, 3) := by decide +kernel
theorem dX4_undo_55 : decode cX4_undo 55 = .ok (.invokevirtual 95, 3) := by decide +kernel
theorem dX4_undo_58 : decode cX4_undo 58 = .ok (.invokevirtual 81, 3) := by decide +kernel
theorem dX4_undo_61 : decode cX4_undo 61 = .ok (.aload_n 0, 1) := by decide +kernel
theorem dX4_undo_62 : decode cX4_undo 62 = .ok (.getfield 19, 3) := by decide +kernel
theorem dX4_undo_65 : decode cX4_undo 65 = .ok (.invokevirtual 98, 3) := by decide +kernel
theorem dX4_undo_68 : decode cX4_undo 68 = .ok (.aload_n 0, 1) := by decide +kernel
theorem dX4_undo_69 : decode cX4_undo 69 = .ok (.getfield 19, 3) := by decide +kernel
theorem dX4_undo_72 : decode cX4_undo 72 = .ok (.invokevirtual 87, 3) := by decide +kernel
theorem dX4_undo_75 : decode cX4_undo 75 = .ok (.ireturn, 1) := by decide +kernel
set_option maxRecDepth 20000 in
theorem ggX4_times_X0_oftenOf : GoodIn wsX4_times wsX0_oftenOf := goodIn_r _ [7, 8, 9, 10, 6, 11, 12, 13, 14, 15, 16, 17, 18, 19, 20, 21, 22, 23, 24, 25, 26, 33, 34, 35, 36] (by decide +kernel) (by decide +kernel)
set_option maxRecDepth 20000 in
theorem gX4_times_X0_oftenOf : GoodIn wsX4_times (wsV RX4 63 RX0 yX0_oftenOf wsX0_oftenOf) := goodIn_app (goodIn_of _ (by decide +kernel)) ggX4_times_X0_oftenOf
theorem dX4_times_0 : decode cX4_times 0 = .ok (.aload_n 0, 1) := by decide +kernel
theorem dX4_times_1 : decode cX4_times 1 = .ok (.getfield 10, 3) := by decide +kernel
theorem dX4_times_4 : decode cX4_times 4 = .ok (.aload_n 0, 1) := by decide +kernel
theorem dX4_times_5 : decode cX4_times 5 = .ok (.getfield 36, 3) := by decide +kernel
theorem dX4_times_8 : decode cX4_times 8 = .ok (.invokevirtual 63, 3) := by decide +kernel
theorem dX4_times_11 : decode cX4_times 11 = .ok (.ireturn, 1) := by decide +kernel
set_option maxRecDepth 20000 in
theorem ggX4_rank_X0_placeOf : GoodIn wsX4_rank wsX0_placeOf := goodIn_r _ [7, 8, 9, 10, 11, 6, 12, 13, 14, 15, 16, 17, 33, 34, 35, 36] (by decide +kernel) (by decide +kernel)
set_option maxRecDepth 20000 in
theorem gX4_rank_X0_placeOf : GoodIn wsX4_rank (wsV RX4 101 RX0 yX0_placeOf wsX0_placeOf) := goodIn_app (goodIn_of _ (by decide +kernel)) ggX4_rank_X0_placeOf
set_option maxRecDepth 20000 in
theorem ggX4_rank_X0_oftenBelow : GoodIn wsX4_rank wsX0_oftenBelow := goodIn_r _ [21, 8, 22, 23, 24, 6, 25, 26, 14, 15, 16, 17, 33, 34, 35, 36] (by decide +kernel) (by decide +kernel)
set_option maxRecDepth 20000 in
theorem gX4_rank_X0_oftenBelow : GoodIn wsX4_rank (wsV RX4 104 RX0 yX0_oftenBelow wsX0_oftenBelow) := goodIn_app (goodIn_of _ (by decide +kernel)) ggX4_rank_X0_oftenBelow
theorem dX4_rank_0 : decode cX4_rank 0 = .ok (.aload_n 0, 1) := by decide +kernel
theorem dX4_rank_1 : decode cX4_rank 1 = .ok (.getfield 10, 3) := by decide +kernel
theorem dX4_rank_4 : decode cX4_rank 4 = .ok (.aload_n 0, 1) := by decide +kernel
theorem dX4_rank_5 : decode cX4_rank 5 = .ok (.getfield 10, 3) := by decide +kernel
theorem dX4_rank_8 : decode cX4_rank 8 = .ok (.aload_n 0, 1) := by decide +kernel
theorem dX4_rank_9 : decode cX4_rank 9 = .ok (.getfield 36, 3) := by decide +kernel
theorem dX4_rank_12 : decode cX4_rank 12 = .ok (.invokevirtual 101, 3) := by decide +kernel
theorem dX4_rank_15 : decode cX4_rank 15 = .ok (.invokevirtual 104, 3) := by decide +kernel
theorem dX4_rank_18 : decode cX4_rank 18 = .ok (.ireturn, 1) := by decide +kernel
set_option maxRecDepth 20000 in
theorem ggX4_begin_X0_oftenBegun : GoodIn wsX4_begin wsX0_oftenBegun := goodIn_r _ [7, 8, 9, 10, 11, 6, 12, 13, 14, 15, 16, 17, 18, 19, 20, 21, 22, 23, 24, 25, 26, 27, 28, 29, 30, 31, 32, 33, 34, 35, 36, 37, 38, 45, 46, 47, 48] (by decide +kernel) (by decide +kernel)
set_option maxRecDepth 20000 in
theorem gX4_begin_X0_oftenBegun : GoodIn wsX4_begin (wsV RX4 108 RX0 yX0_oftenBegun wsX0_oftenBegun) := goodIn_app (goodIn_of _ (by decide +kernel)) ggX4_begin_X0_oftenBegun
theorem dX4_begin_0 : decode cX4_begin 0 = .ok (.aload_n 0, 1) := by decide +kernel
theorem dX4_begin_1 : decode cX4_begin 1 = .ok (.getfield 10, 3) := by decide +kernel
theorem dX4_begin_4 : decode cX4_begin 4 = .ok (.aload_n 0, 1) := by decide +kernel
theorem dX4_begin_5 : decode cX4_begin 5 = .ok (.getfield 36, 3) := by decide +kernel
theorem dX4_begin_8 : decode cX4_begin 8 = .ok (.invokevirtual 108, 3) := by decide +kernel
theorem dX4_begin_11 : decode cX4_begin 11 = .ok (.ireturn, 1) := by decide +kernel
set_option maxRecDepth 20000 in
theorem ggX4_depth_X0_depthOf : GoodIn wsX4_depth wsX0_depthOf := goodIn_r _ [7, 8, 9, 10, 11, 12, 13, 14, 15, 16, 17, 18, 6, 19, 20, 21, 22, 23, 24, 25, 26, 27, 28, 29, 30, 31, 32, 33, 34, 35, 36, 37, 38, 39, 46, 47, 48, 49] (by decide +kernel) (by decide +kernel)
set_option maxRecDepth 20000 in
theorem gX4_depth_X0_depthOf : GoodIn wsX4_depth (wsV RX4 66 RX0 yX0_depthOf wsX0_depthOf) := goodIn_app (goodIn_of _ (by decide +kernel)) ggX4_depth_X0_depthOf
theorem dX4_depth_0 : decode cX4_depth 0 = .ok (.aload_n 0, 1) := by decide +kernel
theorem dX4_depth_1 : decode cX4_depth 1 = .ok (.getfield 10, 3) := by decide +kernel
theorem dX4_depth_4 : decode cX4_depth 4 = .ok (.aload_n 0, 1) := by decide +kernel
theorem dX4_depth_5 : decode cX4_depth 5 = .ok (.getfield 36, 3) := by decide +kernel
theorem dX4_depth_8 : decode cX4_depth 8 = .ok (.invokevirtual 66, 3) := by decide +kernel
theorem dX4_depth_11 : decode cX4_depth 11 = .ok (.ireturn, 1) := by decide +kernel
set_option maxRecDepth 20000 in
theorem ggX4_container_X4_isHalf : GoodIn wsX4_container wsX4_isHalf := goodIn_r _ [6] (by decide +kernel) (by decide +kernel)
set_option maxRecDepth 20000 in
theorem gX4_container_X4_isHalf : GoodIn wsX4_container (va_wsS RX4 111 yX4_isHalf wsX4_isHalf) := goodIn_app (goodIn_of _ (by decide +kernel)) ggX4_container_X4_isHalf
set_option maxRecDepth 20000 in
theorem ggX4_container_X0_depthOf : GoodIn wsX4_container wsX0_depthOf := goodIn_r _ [11, 12, 13, 14, 15, 16, 17, 18, 19, 20, 21, 22, 10, 23, 24, 25, 26, 27, 28, 29, 30, 31, 32, 33, 34, 35, 36, 37, 38, 39, 40, 41, 42, 43, 57, 58, 59, 60] (by decide +kernel) (by decide +kernel)
set_option maxRecDepth 20000 in
theorem gX4_container_X0_depthOf : GoodIn wsX4_container (wsV RX4 66 RX0 yX0_depthOf wsX0_depthOf) := goodIn_app (goodIn_of _ (by decide +kernel)) ggX4_container_X0_depthOf
set_option maxRecDepth 20000 in
theorem ggX4_container_X3_lengthOf : GoodIn wsX4_container wsX3_lengthOf := goodIn_r _ [46, 33, 34, 31, 35, 36, 37, 38] (by decide +kernel) (by decide +kernel)
set_option maxRecDepth 20000 in
theorem gX4_container_X3_lengthOf : GoodIn wsX4_container (va_wsS RX4 48 yX3_lengthOf wsX3_lengthOf) := goodIn_app (goodIn_of _ (by decide +kernel)) ggX4_container_X3_lengthOf
set_option maxRecDepth 20000 in
theorem ggX4_container_X0_sharing : GoodIn wsX4_container wsX0_sharing := goodIn_r _ [50, 12, 20, 21, 22, 10, 23, 24, 25, 26, 27, 28, 29, 30, 31, 32, 33, 34, 35, 36, 37, 38, 57, 58, 59, 60] (by decide +kernel) (by decide +kernel)
set_option maxRecDepth 20000 in
theorem gX4_container_X0_sharing : GoodIn wsX4_container (wsV RX4 114 RX0 yX0_sharing wsX0_sharing) := goodIn_app (goodIn_of _ (by decide +kernel)) ggX4_container_X0_sharing
theorem dX4_container_0 : decode cX4_container 0 = .ok (.iload_n 1, 1) := by decide +kernel
theorem dX4_container_1 : decode cX4_container 1 = .ok (.invokestatic 111, 3) := by decide +kernel
theorem dX4_container_4 : decode cX4_container 4 = .ok (.ifCond .ne 5, 3) := by decide +kernel
theorem dX4_container_7 : decode cX4_container 7 = .ok (.iconst (-1), 1) := by decide +kernel
theorem dX4_container_8 : decode cX4_container 8 = .ok (.ireturn, 1) := by decide +kernel
theorem dX4_container_9 : decode cX4_container 9 = .ok (.aload_n 0, 1) := by decide +kernel
theorem dX4_container_10 : decode cX4_container 10 = .ok (.getfield 10, 3) := by decide +kernel
theorem dX4_container_13 : decode cX4_container 13 = .ok (.aload_n 0, 1) := by decide +kernel
theorem dX4_container_14 : decode cX4_container 14 = .ok (.getfield 36, 3) := by decide +kernel
theorem dX4_container_17 : decode cX4_container 17 = .ok (.invokevirtual 66, 3) := by decide +kernel
theorem dX4_container_20 : decode cX4_container 20 = .ok (.istore_n 2, 1) := by decide +kernel
theorem dX4_container_21 : decode cX4_container 21 = .ok (.iload_n 2, 1) := by decide +kernel
theorem dX4_container_22 : decode cX4_container 22 = .ok (.aload_n 0, 1) := by decide +kernel
theorem dX4_container_23 : decode cX4_container 23 = .ok (.getfield 36, 3) := by decide +kernel
theorem dX4_container_26 : decode cX4_container 26 = .ok (.invokestatic 48, 3) := by decide +kernel
theorem dX4_container_29 : decode cX4_container 29 = .ok (.if_icmp .le 6, 3) := by decide +kernel
theorem dX4_container_32 : decode cX4_container 32 = .ok (.bipush (-9), 2) := by decide +kernel
theorem dX4_container_34 : decode cX4_container 34 = .ok (.ireturn, 1) := by decide +kernel
theorem dX4_container_35 : decode cX4_container 35 = .ok (.aload_n 0, 1) := by decide +kernel
theorem dX4_container_36 : decode cX4_container 36 = .ok (.getfield 10, 3) := by decide +kernel
theorem dX4_container_39 : decode cX4_container 39 = .ok (.aload_n 0, 1) := by decide +kernel
theorem dX4_container_40 : decode cX4_container 40 = .ok (.getfield 36, 3) := by decide +kernel
theorem dX4_container_43 : decode cX4_container 43 = .ok (.iload_n 2, 1) := by decide +kernel
theorem dX4_container_44 : decode cX4_container 44 = .ok (.invokevirtual 114, 3) := by decide +kernel
theorem dX4_container_47 : decode cX4_container 47 = .ok (.istore_n 3, 1) := by decide +kernel
theorem dX4_container_48 : decode cX4_container 48 = .ok (.iload_n 3, 1) := by decide +kernel
theorem dX4_container_49 : decode cX4_container 49 = .ok (.ifCond .ne 6, 3) := by decide +kernel
theorem dX4_container_52 : decode cX4_container 52 = .ok (.bipush (-9), 2) := by decide +kernel
theorem dX4_container_54 : decode cX4_container 54 = .ok (.ireturn, 1) := by decide +kernel
theorem dX4_container_55 : decode cX4_container 55 = .ok (.iload_n 1, 1) := by decide +kernel
theorem dX4_container_56 : decode cX4_container 56 = .ok (.ifCond .ne 7, 3) := by decide +kernel
theorem dX4_container_59 : decode cX4_container 59 = .ok (.iload_n 3, 1) := by decide +kernel
theorem dX4_container_60 : decode cX4_container 60 = .ok (.goto 4, 3) := by decide +kernel
theorem dX4_container_63 : decode cX4_container 63 = .ok (.iload_n 2, 1) := by decide +kernel
theorem dX4_container_64 : decode cX4_container 64 = .ok (.ireturn, 1) := by decide +kernel
set_option maxRecDepth 20000 in
theorem ggX4_telling_X0_oftenOf : GoodIn wsX4_telling wsX0_oftenOf := goodIn_r _ [7, 8, 9, 10, 6, 11, 12, 13, 14, 15, 16, 17, 18, 19, 20, 21, 22, 23, 24, 25, 26, 51, 52, 53, 54] (by decide +kernel) (by decide +kernel)
set_option maxRecDepth 20000 in
theorem gX4_telling_X0_oftenOf : GoodIn wsX4_telling (wsV RX4 63 RX0 yX0_oftenOf wsX0_oftenOf) := goodIn_app (goodIn_of _ (by decide +kernel)) ggX4_telling_X0_oftenOf
set_option maxRecDepth 20000 in
theorem ggX4_telling_X0_mostSharedWithOthers : GoodIn wsX4_telling wsX0_mostSharedWithOthers := goodIn_r _ [30, 12, 31, 32, 33, 34, 13, 14, 15, 6, 16, 17, 18, 19, 20, 21, 35, 36, 37, 38, 39, 40, 41, 42, 43, 44, 51, 52, 53, 54] (by decide +kernel) (by decide +kernel)
set_option maxRecDepth 20000 in
theorem gX4_telling_X0_mostSharedWithOthers : GoodIn wsX4_telling (wsV RX4 118 RX0 yX0_mostSharedWithOthers wsX0_mostSharedWithOthers) := goodIn_app (goodIn_of _ (by decide +kernel)) ggX4_telling_X0_mostSharedWithOthers
theorem dX4_telling_0 : decode cX4_telling 0 = .ok (.aload_n 0, 1) := by decide +kernel
theorem dX4_telling_1 : decode cX4_telling 1 = .ok (.getfield 10, 3) := by decide +kernel
theorem dX4_telling_4 : decode cX4_telling 4 = .ok (.aload_n 0, 1) := by decide +kernel
theorem dX4_telling_5 : decode cX4_telling 5 = .ok (.getfield 36, 3) := by decide +kernel
theorem dX4_telling_8 : decode cX4_telling 8 = .ok (.invokevirtual 63, 3) := by decide +kernel
theorem dX4_telling_11 : decode cX4_telling 11 = .ok (.ifCond .ne 6, 3) := by decide +kernel
theorem dX4_telling_14 : decode cX4_telling 14 = .ok (.bipush (-9), 2) := by decide +kernel
theorem dX4_telling_16 : decode cX4_telling 16 = .ok (.ireturn, 1) := by decide +kernel
theorem dX4_telling_17 : decode cX4_telling 17 = .ok (.aload_n 0, 1) := by decide +kernel
theorem dX4_telling_18 : decode cX4_telling 18 = .ok (.getfield 10, 3) := by decide +kernel
theorem dX4_telling_21 : decode cX4_telling 21 = .ok (.aload_n 0, 1) := by decide +kernel
theorem dX4_telling_22 : decode cX4_telling 22 = .ok (.getfield 36, 3) := by decide +kernel
theorem dX4_telling_25 : decode cX4_telling 25 = .ok (.invokevirtual 118, 3) := by decide +kernel
theorem dX4_telling_28 : decode cX4_telling 28 = .ok (.iconst 1, 1) := by decide +kernel
theorem dX4_telling_29 : decode cX4_telling 29 = .ok (.iadd, 1) := by decide +kernel
theorem dX4_telling_30 : decode cX4_telling 30 = .ok (.ireturn, 1) := by decide +kernel
set_option maxRecDepth 20000 in
theorem ggX4_longest_X0_longestIn : GoodIn wsX4_longest wsX0_longestIn := goodIn_r _ [7, 8, 9, 10, 11, 12, 13, 14, 15, 6, 16, 17, 18, 19, 20, 21, 22, 23, 24, 25, 26, 27, 28, 29, 30, 31, 32, 33, 34, 35, 36, 37, 38, 45, 46, 47, 48] (by decide +kernel) (by decide +kernel)
set_option maxRecDepth 20000 in
theorem gX4_longest_X0_longestIn : GoodIn wsX4_longest (wsV RX4 121 RX0 yX0_longestIn wsX0_longestIn) := goodIn_app (goodIn_of _ (by decide +kernel)) ggX4_longest_X0_longestIn
theorem dX4_longest_0 : decode cX4_longest 0 = .ok (.aload_n 0, 1) := by decide +kernel
theorem dX4_longest_1 : decode cX4_longest 1 = .ok (.getfield 10, 3) := by decide +kernel
theorem dX4_longest_4 : decode cX4_longest 4 = .ok (.aload_n 0, 1) := by decide +kernel
theorem dX4_longest_5 : decode cX4_longest 5 = .ok (.getfield 36, 3) := by decide +kernel
theorem dX4_longest_8 : decode cX4_longest 8 = .ok (.invokevirtual 121, 3) := by decide +kernel
theorem dX4_longest_11 : decode cX4_longest 11 = .ok (.istore_n 1, 1) := by decide +kernel
theorem dX4_longest_12 : decode cX4_longest 12 = .ok (.iload_n 1, 1) := by decide +kernel
theorem dX4_longest_13 : decode cX4_longest 13 = .ok (.ifCond .ne 8, 3) := by decide +kernel
theorem dX4_longest_16 : decode cX4_longest 16 = .ok (.bipush (-9), 2) := by decide +kernel
theorem dX4_longest_18 : decode cX4_longest 18 = .ok (.goto 4, 3) := by decide +kernel
theorem dX4_longest_21 : decode cX4_longest 21 = .ok (.iload_n 1, 1) := by decide +kernel
theorem dX4_longest_22 : decode cX4_longest 22 = .ok (.ireturn, 1) := by decide +kernel
set_option maxRecDepth 20000 in
theorem ggX4_like_X0_alike : GoodIn wsX4_like wsX0_alike := goodIn_r _ [7, 8, 9, 10, 11, 12, 13, 14, 15, 16, 17, 18, 19, 20, 21, 6, 22, 23, 24, 25, 26, 27, 28, 29, 30, 37, 38, 39, 40] (by decide +kernel) (by decide +kernel)
set_option maxRecDepth 20000 in
theorem gX4_like_X0_alike : GoodIn wsX4_like (wsV RX4 124 RX0 yX0_alike wsX0_alike) := goodIn_app (goodIn_of _ (by decide +kernel)) ggX4_like_X0_alike
theorem dX4_like_0 : decode cX4_like 0 = .ok (.iload_n 1, 1) := by decide +kernel
theorem dX4_like_1 : decode cX4_like 1 = .ok (.ifCond .lt 9, 3) := by decide +kernel
theorem dX4_like_4 : decode cX4_like 4 = .ok (.iload_n 1, 1) := by decide +kernel
theorem dX4_like_5 : decode cX4_like 5 = .ok (.bipush 7, 2) := by decide +kernel
theorem dX4_like_7 : decode cX4_like 7 = .ok (.if_icmp .le 5, 3) := by decide +kernel
theorem dX4_like_10 : decode cX4_like 10 = .ok (.iconst (-1), 1) := by decide +kernel
theorem dX4_like_11 : decode cX4_like 11 = .ok (.ireturn, 1) := by decide +kernel
theorem dX4_like_12 : decode cX4_like 12 = .ok (.aload_n 0, 1) := by decide +kernel
theorem dX4_like_13 : decode cX4_like 13 = .ok (.getfield 10, 3) := by decide +kernel
theorem dX4_like_16 : decode cX4_like 16 = .ok (.aload_n 0, 1) := by decide +kernel
theorem dX4_like_17 : decode cX4_like 17 = .ok (.getfield 36, 3) := by decide +kernel
theorem dX4_like_20 : decode cX4_like 20 = .ok (.iload_n 1, 1) := by decide +kernel
theorem dX4_like_21 : decode cX4_like 21 = .ok (.invokevirtual 124, 3) := by decide +kernel
theorem dX4_like_24 : decode cX4_like 24 = .ok (.ireturn, 1) := by decide +kernel
set_option maxRecDepth 20000 in
theorem ggX4_odds_X4_isHalf : GoodIn wsX4_odds wsX4_isHalf := goodIn_r _ [6] (by decide +kernel) (by decide +kernel)
set_option maxRecDepth 20000 in
theorem gX4_odds_X4_isHalf : GoodIn wsX4_odds (va_wsS RX4 111 yX4_isHalf wsX4_isHalf) := goodIn_app (goodIn_of _ (by decide +kernel)) ggX4_odds_X4_isHalf
set_option maxRecDepth 20000 in
theorem ggX4_odds_X0_size : GoodIn wsX4_odds wsX0_size := goodIn_r _ [11, 12, 60, 61, 62, 63] (by decide +kernel) (by decide +kernel)
set_option maxRecDepth 20000 in
theorem gX4_odds_X0_size : GoodIn wsX4_odds (wsV RX4 56 RX0 yX0_size wsX0_size) := goodIn_app (goodIn_of _ (by decide +kernel)) ggX4_odds_X0_size
set_option maxRecDepth 20000 in
theorem ggX4_odds_X0_oftenBelow : GoodIn wsX4_odds wsX0_oftenBelow := goodIn_r _ [16, 12, 17, 18, 19, 10, 20, 21, 22, 23, 24, 25, 60, 61, 62, 63] (by decide +kernel) (by decide +kernel)
set_option maxRecDepth 20000 in
theorem gX4_odds_X0_oftenBelow : GoodIn wsX4_odds (wsV RX4 104 RX0 yX0_oftenBelow wsX0_oftenBelow) := goodIn_app (goodIn_of _ (by decide +kernel)) ggX4_odds_X0_oftenBelow
set_option maxRecDepth 20000 in
theorem ggX4_odds_X0_oftenBegun : GoodIn wsX4_odds wsX0_oftenBegun := goodIn_r _ [29, 12, 30, 31, 32, 10, 33, 34, 22, 23, 24, 25, 35, 36, 37, 38, 39, 40, 41, 42, 43, 44, 45, 46, 47, 48, 49, 50, 17, 18, 19, 20, 21, 60, 61, 62, 63] (by decide +kernel) (by decide +kernel)
set_option maxRecDepth 20000 in
theorem gX4_odds_X0_oftenBegun : GoodIn wsX4_odds (wsV RX4 108 RX0 yX0_oftenBegun wsX0_oftenBegun) := goodIn_app (goodIn_of _ (by decide +kernel)) ggX4_odds_X0_oftenBegun
set_option maxRecDepth 20000 in
theorem ggX4_odds_X4_commonDivisor : GoodIn wsX4_odds wsX4_commonDivisor := goodIn_r _ [53] (by decide +kernel) (by decide +kernel)
set_option maxRecDepth 20000 in
theorem gX4_odds_X4_commonDivisor : GoodIn wsX4_odds (va_wsS RX4 127 yX4_commonDivisor wsX4_commonDivisor) := goodIn_app (goodIn_of _ (by decide +kernel)) ggX4_odds_X4_commonDivisor
theorem dX4_odds_0 : decode cX4_odds 0 = .ok (.iload_n 1, 1) := by decide +kernel
theorem dX4_odds_1 : decode cX4_odds 1 = .ok (.invokestatic 111, 3) := by decide +kernel
theorem dX4_odds_4 : decode cX4_odds 4 = .ok (.ifCond .ne 5, 3) := by decide +kernel
theorem dX4_odds_7 : decode cX4_odds 7 = .ok (.iconst (-1), 1) := by decide +kernel
theorem dX4_odds_8 : decode cX4_odds 8 = .ok (.ireturn, 1) := by decide +kernel
theorem dX4_odds_9 : decode cX4_odds 9 = .ok (.aload_n 0, 1) := by decide +kernel
theorem dX4_odds_10 : decode cX4_odds 10 = .ok (.getfield 10, 3) := by decide +kernel
theorem dX4_odds_13 : decode cX4_odds 13 = .ok (.aload_n 0, 1) := by decide +kernel
theorem dX4_odds_14 : decode cX4_odds 14 = .ok (.getfield 10, 3) := by decide +kernel
theorem dX4_odds_17 : decode cX4_odds 17 = .ok (.invokevirtual 56, 3) := by decide +kernel
theorem dX4_odds_20 : decode cX4_odds 20 = .ok (.invokevirtual 104, 3) := by decide +kernel
theorem dX4_odds_23 : decode cX4_odds 23 = .ok (.istore_n 2, 1) := by decide +kernel
theorem dX4_odds_24 : decode cX4_odds 24 = .ok (.aload_n 0, 1) := by decide +kernel
theorem dX4_odds_25 : decode cX4_odds 25 = .ok (.getfield 10, 3) := by decide +kernel
theorem dX4_odds_28 : decode cX4_odds 28 = .ok (.aload_n 0, 1) := by decide +kernel
theorem dX4_odds_29 : decode cX4_odds 29 = .ok (.getfield 36, 3) := by decide +kernel
theorem dX4_odds_32 : decode cX4_odds 32 = .ok (.invokevirtual 108, 3) := by decide +kernel
theorem dX4_odds_35 : decode cX4_odds 35 = .ok (.istore_n 3, 1) := by decide +kernel
theorem dX4_odds_36 : decode cX4_odds 36 = .ok (.iload_n 2, 1) := by decide +kernel
theorem dX4_odds_37 : decode cX4_odds 37 = .ok (.iload_n 3, 1) := by decide +kernel
theorem dX4_odds_38 : decode cX4_odds 38 = .ok (.invokestatic 127, 3) := by decide +kernel
theorem dX4_odds_41 : decode cX4_odds 41 = .ok (.istore 4, 2) := by decide +kernel
theorem dX4_odds_43 : decode cX4_odds 43 = .ok (.iload 4, 2) := by decide +kernel
theorem dX4_odds_45 : decode cX4_odds 45 = .ok (.ifCond .gt 5, 3) := by decide +kernel
theorem dX4_odds_48 : decode cX4_odds 48 = .ok (.iload_n 1, 1) := by decide +kernel
theorem dX4_odds_49 : decode cX4_odds 49 = .ok (.ireturn, 1) := by decide +kernel
theorem dX4_odds_50 : decode cX4_odds 50 = .ok (.iload_n 1, 1) := by decide +kernel
theorem dX4_odds_51 : decode cX4_odds 51 = .ok (.ifCond .ne 7, 3) := by decide +kernel
theorem dX4_odds_54 : decode cX4_odds 54 = .ok (.iload_n 3, 1) := by decide +kernel
theorem dX4_odds_55 : decode cX4_odds 55 = .ok (.goto 4, 3) := by decide +kernel
theorem dX4_odds_58 : decode cX4_odds 58 = .ok (.iload_n 2, 1) := by decide +kernel
theorem dX4_odds_59 : decode cX4_odds 59 = .ok (.iload 4, 2) := by decide +kernel
theorem dX4_odds_61 : decode cX4_odds 61 = .ok (.idiv, 1) := by decide +kernel
theorem dX4_odds_62 : decode cX4_odds 62 = .ok (.ireturn, 1) := by decide +kernel
set_option maxRecDepth 20000 in
theorem ggX4_kth_X4_isAsked : GoodIn wsX4_kth wsX4_isAsked := goodIn_r _ [5] (by decide +kernel) (by decide +kernel)
set_option maxRecDepth 20000 in
theorem gX4_kth_X4_isAsked : GoodIn wsX4_kth (va_wsS RX4 131 yX4_isAsked wsX4_isAsked) := goodIn_app (goodIn_of _ (by decide +kernel)) ggX4_kth_X4_isAsked
set_option maxRecDepth 20000 in
theorem ggX4_kth_X0_holderOf : GoodIn wsX4_kth wsX0_holderOf := goodIn_r _ [10, 11, 12, 13, 14, 9, 15, 16, 17, 18, 19, 20, 51, 52, 53, 54] (by decide +kernel) (by decide +kernel)
set_option maxRecDepth 20000 in
theorem gX4_kth_X0_holderOf : GoodIn wsX4_kth (wsV RX4 134 RX0 yX0_holderOf wsX0_holderOf) := goodIn_app (goodIn_of _ (by decide +kernel)) ggX4_kth_X0_holderOf
set_option maxRecDepth 20000 in
theorem ggX4_kth_X4_told : GoodIn wsX4_kth wsX4_told := goodIn_r _ [24, 1, 25, 26, 27, 9, 28, 11, 29, 30, 31, 32, 33, 17, 18, 19, 20, 34, 35, 36, 37, 38, 39, 40, 41, 42, 43, 44, 45, 46, 47, 48, 49, 50, 51, 52, 53, 54] (by decide +kernel) (by decide +kernel)
set_option maxRecDepth 20000 in
theorem gX4_kth_X4_told : GoodIn wsX4_kth (wsV RX4 137 RX4 yX4_told wsX4_told) := goodIn_app (goodIn_of _ (by decide +kernel)) ggX4_kth_X4_told
theorem dX4_kth_0 : decode cX4_kth 0 = .ok (.iload_n 1, 1) := by decide +kernel
theorem dX4_kth_1 : decode cX4_kth 1 = .ok (.ifCond .lt 10, 3) := by decide +kernel
theorem dX4_kth_4 : decode cX4_kth 4 = .ok (.iload_n 2, 1) := by decide +kernel
theorem dX4_kth_5 : decode cX4_kth 5 = .ok (.invokestatic 131, 3) := by decide +kernel
theorem dX4_kth_8 : decode cX4_kth 8 = .ok (.ifCond .ne 5, 3) := by decide +kernel
theorem dX4_kth_11 : decode cX4_kth 11 = .ok (.iconst (-1), 1) := by decide +kernel
theorem dX4_kth_12 : decode cX4_kth 12 = .ok (.ireturn, 1) := by decide +kernel
theorem dX4_kth_13 : decode cX4_kth 13 = .ok (.aload_n 0, 1) := by decide +kernel
theorem dX4_kth_14 : decode cX4_kth 14 = .ok (.aload_n 0, 1) := by decide +kernel
theorem dX4_kth_15 : decode cX4_kth 15 = .ok (.getfield 10, 3) := by decide +kernel
theorem dX4_kth_18 : decode cX4_kth 18 = .ok (.iload_n 1, 1) := by decide +kernel
theorem dX4_kth_19 : decode cX4_kth 19 = .ok (.invokevirtual 134, 3) := by decide +kernel
theorem dX4_kth_22 : decode cX4_kth 22 = .ok (.iload_n 2, 1) := by decide +kernel
theorem dX4_kth_23 : decode cX4_kth 23 = .ok (.invokevirtual 137, 3) := by decide +kernel
theorem dX4_kth_26 : decode cX4_kth 26 = .ok (.ireturn, 1) := by decide +kernel
set_option maxRecDepth 20000 in
theorem ggX4_unlike_X4_isAsked : GoodIn wsX4_unlike wsX4_isAsked := goodIn_r _ [4] (by decide +kernel) (by decide +kernel)
set_option maxRecDepth 20000 in
theorem gX4_unlike_X4_isAsked : GoodIn wsX4_unlike (va_wsS RX4 131 yX4_isAsked wsX4_isAsked) := goodIn_app (goodIn_of _ (by decide +kernel)) ggX4_unlike_X4_isAsked
set_option maxRecDepth 20000 in
theorem ggX4_unlike_X4_told : GoodIn wsX4_unlike wsX4_told := goodIn_r _ [8, 9, 10, 11, 12, 13, 14, 15, 16, 17, 18, 19, 20, 21, 22, 23, 24, 25, 26, 27, 28, 29, 30, 31, 32, 33, 34, 35, 36, 37, 38, 39, 40, 41, 42, 43, 44, 45] (by decide +kernel) (by decide +kernel)
set_option maxRecDepth 20000 in
theorem gX4_unlike_X4_told : GoodIn wsX4_unlike (wsV RX4 137 RX4 yX4_told wsX4_told) := goodIn_app (goodIn_of _ (by decide +kernel)) ggX4_unlike_X4_told
theorem dX4_unlike_0 : decode cX4_unlike 0 = .ok (.iload_n 1, 1) := by decide +kernel
theorem dX4_unlike_1 : decode cX4_unlike 1 = .ok (.ifCond .lt 10, 3) := by decide +kernel
theorem dX4_unlike_4 : decode cX4_unlike 4 = .ok (.iload_n 2, 1) := by decide +kernel
theorem dX4_unlike_5 : decode cX4_unlike 5 = .ok (.invokestatic 131, 3) := by decide +kernel
theorem dX4_unlike_8 : decode cX4_unlike 8 = .ok (.ifCond .ne 5, 3) := by decide +kernel
theorem dX4_unlike_11 : decode cX4_unlike 11 = .ok (.iconst (-1), 1) := by decide +kernel
theorem dX4_unlike_12 : decode cX4_unlike 12 = .ok (.ireturn, 1) := by decide +kernel
theorem dX4_unlike_13 : decode cX4_unlike 13 = .ok (.aload_n 0, 1) := by decide +kernel
theorem dX4_unlike_14 : decode cX4_unlike 14 = .ok (.iload_n 1, 1) := by decide +kernel
theorem dX4_unlike_15 : decode cX4_unlike 15 = .ok (.iload_n 2, 1) := by decide +kernel
theorem dX4_unlike_16 : decode cX4_unlike 16 = .ok (.invokevirtual 137, 3) := by decide +kernel
theorem dX4_unlike_19 : decode cX4_unlike 19 = .ok (.ireturn, 1) := by decide +kernel
set_option maxRecDepth 20000 in
theorem ggX4_next_X4_isAsked : GoodIn wsX4_next wsX4_isAsked := goodIn_r _ [6] (by decide +kernel) (by decide +kernel)
set_option maxRecDepth 20000 in
theorem gX4_next_X4_isAsked : GoodIn wsX4_next (va_wsS RX4 131 yX4_isAsked wsX4_isAsked) := goodIn_app (goodIn_of _ (by decide +kernel)) ggX4_next_X4_isAsked
set_option maxRecDepth 20000 in
theorem ggX4_next_X0_placeOf : GoodIn wsX4_next wsX0_placeOf := goodIn_r _ [11, 12, 13, 14, 15, 10, 16, 17, 18, 19, 20, 21, 58, 59, 60, 61] (by decide +kernel) (by decide +kernel)
set_option maxRecDepth 20000 in
theorem gX4_next_X0_placeOf : GoodIn wsX4_next (wsV RX4 101 RX0 yX0_placeOf wsX0_placeOf) := goodIn_app (goodIn_of _ (by decide +kernel)) ggX4_next_X0_placeOf
set_option maxRecDepth 20000 in
theorem ggX4_next_X0_oftenOf : GoodIn wsX4_next wsX0_oftenOf := goodIn_r _ [25, 26, 8, 9, 10, 11, 12, 13, 14, 15, 16, 17, 18, 19, 20, 21, 27, 28, 29, 30, 31, 58, 59, 60, 61] (by decide +kernel) (by decide +kernel)
set_option maxRecDepth 20000 in
theorem gX4_next_X0_oftenOf : GoodIn wsX4_next (wsV RX4 63 RX0 yX0_oftenOf wsX0_oftenOf) := goodIn_app (goodIn_of _ (by decide +kernel)) ggX4_next_X0_oftenOf
set_option maxRecDepth 20000 in
theorem ggX4_next_X4_told : GoodIn wsX4_next wsX4_told := goodIn_r _ [35, 1, 36, 37, 38, 10, 39, 12, 40, 14, 15, 16, 17, 18, 19, 20, 21, 41, 42, 43, 44, 45, 46, 47, 48, 49, 50, 51, 52, 53, 54, 55, 56, 57, 58, 59, 60, 61] (by decide +kernel) (by decide +kernel)
set_option maxRecDepth 20000 in
theorem gX4_next_X4_told : GoodIn wsX4_next (wsV RX4 137 RX4 yX4_told wsX4_told) := goodIn_app (goodIn_of _ (by decide +kernel)) ggX4_next_X4_told
theorem dX4_next_0 : decode cX4_next 0 = .ok (.iload_n 1, 1) := by decide +kernel
theorem dX4_next_1 : decode cX4_next 1 = .ok (.invokestatic 131, 3) := by decide +kernel
theorem dX4_next_4 : decode cX4_next 4 = .ok (.ifCond .ne 5, 3) := by decide +kernel
theorem dX4_next_7 : decode cX4_next 7 = .ok (.iconst (-1), 1) := by decide +kernel
theorem dX4_next_8 : decode cX4_next 8 = .ok (.ireturn, 1) := by decide +kernel
theorem dX4_next_9 : decode cX4_next 9 = .ok (.aload_n 0, 1) := by decide +kernel
theorem dX4_next_10 : decode cX4_next 10 = .ok (.getfield 10, 3) := by decide +kernel
theorem dX4_next_13 : decode cX4_next 13 = .ok (.aload_n 0, 1) := by decide +kernel
theorem dX4_next_14 : decode cX4_next 14 = .ok (.getfield 36, 3) := by decide +kernel
theorem dX4_next_17 : decode cX4_next 17 = .ok (.invokevirtual 101, 3) := by decide +kernel
theorem dX4_next_20 : decode cX4_next 20 = .ok (.istore_n 2, 1) := by decide +kernel
theorem dX4_next_21 : decode cX4_next 21 = .ok (.aload_n 0, 1) := by decide +kernel
theorem dX4_next_22 : decode cX4_next 22 = .ok (.aload_n 0, 1) := by decide +kernel
theorem dX4_next_23 : decode cX4_next 23 = .ok (.getfield 10, 3) := by decide +kernel
theorem dX4_next_26 : decode cX4_next 26 = .ok (.aload_n 0, 1) := by decide +kernel
theorem dX4_next_27 : decode cX4_next 27 = .ok (.getfield 36, 3) := by decide +kernel
theorem dX4_next_30 : decode cX4_next 30 = .ok (.invokevirtual 63, 3) := by decide +kernel
theorem dX4_next_33 : decode cX4_next 33 = .ok (.ifCond .ne 7, 3) := by decide +kernel
theorem dX4_next_36 : decode cX4_next 36 = .ok (.iload_n 2, 1) := by decide +kernel
theorem dX4_next_37 : decode cX4_next 37 = .ok (.goto 6, 3) := by decide +kernel
theorem dX4_next_40 : decode cX4_next 40 = .ok (.iload_n 2, 1) := by decide +kernel
theorem dX4_next_41 : decode cX4_next 41 = .ok (.iconst 1, 1) := by decide +kernel
theorem dX4_next_42 : decode cX4_next 42 = .ok (.iadd, 1) := by decide +kernel
theorem dX4_next_43 : decode cX4_next 43 = .ok (.iload_n 1, 1) := by decide +kernel
theorem dX4_next_44 : decode cX4_next 44 = .ok (.invokevirtual 137, 3) := by decide +kernel
theorem dX4_next_47 : decode cX4_next 47 = .ok (.ireturn, 1) := by decide +kernel
set_option maxRecDepth 20000 in
theorem ggX4_top_X4_isAsked : GoodIn wsX4_top wsX4_isAsked := goodIn_r _ [6] (by decide +kernel) (by decide +kernel)
set_option maxRecDepth 20000 in
theorem gX4_top_X4_isAsked : GoodIn wsX4_top (va_wsS RX4 131 yX4_isAsked wsX4_isAsked) := goodIn_app (goodIn_of _ (by decide +kernel)) ggX4_top_X4_isAsked
set_option maxRecDepth 20000 in
theorem ggX4_top_X0_frequent : GoodIn wsX4_top wsX0_frequent := goodIn_r _ [11, 12, 13, 14, 15, 10, 16, 17, 18, 19, 20, 21, 22, 23, 24, 25, 26, 27, 28, 29, 30, 31, 32, 33, 34, 35, 36, 37, 38, 39, 40, 41, 42, 43, 44, 45, 46, 64, 65, 66, 67] (by decide +kernel) (by decide +kernel)
set_option maxRecDepth 20000 in
theorem gX4_top_X0_frequent : GoodIn wsX4_top (wsV RX4 140 RX0 yX0_frequent wsX0_frequent) := goodIn_app (goodIn_of _ (by decide +kernel)) ggX4_top_X0_frequent
set_option maxRecDepth 20000 in
theorem ggX4_top_X4_told : GoodIn wsX4_top wsX4_told := goodIn_r _ [50, 1, 51, 52, 53, 10, 54, 12, 55, 14, 15, 16, 17, 18, 19, 20, 21, 56, 36, 24, 37, 29, 30, 31, 32, 33, 34, 57, 58, 59, 60, 61, 62, 63, 64, 65, 66, 67] (by decide +kernel) (by decide +kernel)
set_option maxRecDepth 20000 in
theorem gX4_top_X4_told : GoodIn wsX4_top (wsV RX4 137 RX4 yX4_told wsX4_told) := goodIn_app (goodIn_of _ (by decide +kernel)) ggX4_top_X4_told
theorem dX4_top_0 : decode cX4_top 0 = .ok (.iload_n 1, 1) := by decide +kernel
theorem dX4_top_1 : decode cX4_top 1 = .ok (.ifCond .lt 10, 3) := by decide +kernel
theorem dX4_top_4 : decode cX4_top 4 = .ok (.iload_n 2, 1) := by decide +kernel
theorem dX4_top_5 : decode cX4_top 5 = .ok (.invokestatic 131, 3) := by decide +kernel
theorem dX4_top_8 : decode cX4_top 8 = .ok (.ifCond .ne 5, 3) := by decide +kernel
theorem dX4_top_11 : decode cX4_top 11 = .ok (.iconst (-1), 1) := by decide +kernel
theorem dX4_top_12 : decode cX4_top 12 = .ok (.ireturn, 1) := by decide +kernel
theorem dX4_top_13 : decode cX4_top 13 = .ok (.aload_n 0, 1) := by decide +kernel
theorem dX4_top_14 : decode cX4_top 14 = .ok (.aload_n 0, 1) := by decide +kernel
theorem dX4_top_15 : decode cX4_top 15 = .ok (.getfield 10, 3) := by decide +kernel
theorem dX4_top_18 : decode cX4_top 18 = .ok (.aload_n 0, 1) := by decide +kernel
theorem dX4_top_19 : decode cX4_top 19 = .ok (.getfield 36, 3) := by decide +kernel
theorem dX4_top_22 : decode cX4_top 22 = .ok (.iload_n 1, 1) := by decide +kernel
theorem dX4_top_23 : decode cX4_top 23 = .ok (.invokevirtual 140, 3) := by decide +kernel
theorem dX4_top_26 : decode cX4_top 26 = .ok (.iload_n 2, 1) := by decide +kernel
theorem dX4_top_27 : decode cX4_top 27 = .ok (.invokevirtual 137, 3) := by decide +kernel
theorem dX4_top_30 : decode cX4_top 30 = .ok (.ireturn, 1) := by decide +kernel
set_option maxRecDepth 20000 in
theorem ggX4_sees_X3_isLetter : GoodIn wsX4_sees wsX3_isLetter := goodIn_r _ [5] (by decide +kernel) (by decide +kernel)
set_option maxRecDepth 20000 in
theorem gX4_sees_X3_isLetter : GoodIn wsX4_sees (va_wsS RX4 44 yX3_isLetter wsX3_isLetter) := goodIn_app (goodIn_of _ (by decide +kernel)) ggX4_sees_X3_isLetter
set_option maxRecDepth 20000 in
theorem ggX4_sees_X4_isHalf : GoodIn wsX4_sees wsX4_isHalf := goodIn_r _ [9] (by decide +kernel) (by decide +kernel)
set_option maxRecDepth 20000 in
theorem gX4_sees_X4_isHalf : GoodIn wsX4_sees (va_wsS RX4 111 yX4_isHalf wsX4_isHalf) := goodIn_app (goodIn_of _ (by decide +kernel)) ggX4_sees_X4_isHalf
set_option maxRecDepth 20000 in
theorem ggX4_sees_X2_size : GoodIn wsX4_sees wsX2_size := goodIn_r _ [14, 15, 29, 30, 31, 32] (by decide +kernel) (by decide +kernel)
set_option maxRecDepth 20000 in
theorem gX4_sees_X2_size : GoodIn wsX4_sees (wsV RX4 143 RX2 yX2_size wsX2_size) := goodIn_app (goodIn_of _ (by decide +kernel)) ggX4_sees_X2_size
set_option maxRecDepth 20000 in
theorem ggX4_sees_X2_push : GoodIn wsX4_sees wsX2_push := goodIn_r _ [19, 15, 20, 21, 22, 29, 30, 31, 32] (by decide +kernel) (by decide +kernel)
set_option maxRecDepth 20000 in
theorem gX4_sees_X2_push : GoodIn wsX4_sees (wsV RX4 144 RX2 yX2_push wsX2_push) := goodIn_app (goodIn_of _ (by decide +kernel)) ggX4_sees_X2_push
theorem dX4_sees_0 : decode cX4_sees 0 = .ok (.iload_n 1, 1) := by decide +kernel
theorem dX4_sees_1 : decode cX4_sees 1 = .ok (.ifCond .lt 23, 3) := by decide +kernel
theorem dX4_sees_4 : decode cX4_sees 4 = .ok (.iload_n 1, 1) := by decide +kernel
theorem dX4_sees_5 : decode cX4_sees 5 = .ok (.bipush 7, 2) := by decide +kernel
theorem dX4_sees_7 : decode cX4_sees 7 = .ok (.if_icmp .ge 17, 3) := by decide +kernel
theorem dX4_sees_10 : decode cX4_sees 10 = .ok (.iload_n 2, 1) := by decide +kernel
theorem dX4_sees_11 : decode cX4_sees 11 = .ok (.invokestatic 44, 3) := by decide +kernel
theorem dX4_sees_14 : decode cX4_sees 14 = .ok (.ifCond .eq 10, 3) := by decide +kernel
theorem dX4_sees_17 : decode cX4_sees 17 = .ok (.iload_n 3, 1) := by decide +kernel
theorem dX4_sees_18 : decode cX4_sees 18 = .ok (.invokestatic 111, 3) := by decide +kernel
theorem dX4_sees_21 : decode cX4_sees 21 = .ok (.ifCond .ne 5, 3) := by decide +kernel
theorem dX4_sees_24 : decode cX4_sees 24 = .ok (.iconst (-1), 1) := by decide +kernel
theorem dX4_sees_25 : decode cX4_sees 25 = .ok (.ireturn, 1) := by decide +kernel
theorem dX4_sees_26 : decode cX4_sees 26 = .ok (.aload_n 0, 1) := by decide +kernel
theorem dX4_sees_27 : decode cX4_sees 27 = .ok (.getfield 26, 3) := by decide +kernel
theorem dX4_sees_30 : decode cX4_sees 30 = .ok (.invokevirtual 143, 3) := by decide +kernel
theorem dX4_sees_33 : decode cX4_sees 33 = .ok (.bipush 8, 2) := by decide +kernel
theorem dX4_sees_35 : decode cX4_sees 35 = .ok (.if_icmp .lt 6, 3) := by decide +kernel
theorem dX4_sees_38 : decode cX4_sees 38 = .ok (.bipush (-3), 2) := by decide +kernel
theorem dX4_sees_40 : decode cX4_sees 40 = .ok (.ireturn, 1) := by decide +kernel
theorem dX4_sees_41 : decode cX4_sees 41 = .ok (.aload_n 0, 1) := by decide +kernel
theorem dX4_sees_42 : decode cX4_sees 42 = .ok (.getfield 26, 3) := by decide +kernel
theorem dX4_sees_45 : decode cX4_sees 45 = .ok (.iload_n 1, 1) := by decide +kernel
theorem dX4_sees_46 : decode cX4_sees 46 = .ok (.iload_n 2, 1) := by decide +kernel
theorem dX4_sees_47 : decode cX4_sees 47 = .ok (.iload_n 3, 1) := by decide +kernel
theorem dX4_sees_48 : decode cX4_sees 48 = .ok (.iconst 1, 1) := by decide +kernel
theorem dX4_sees_49 : decode cX4_sees 49 = .ok (.if_icmp .ne 7, 3) := by decide +kernel
theorem dX4_sees_52 : decode cX4_sees 52 = .ok (.iconst 1, 1) := by decide +kernel
theorem dX4_sees_53 : decode cX4_sees 53 = .ok (.goto 4, 3) := by decide +kernel
theorem dX4_sees_56 : decode cX4_sees 56 = .ok (.iconst 0, 1) := by decide +kernel
theorem dX4_sees_57 : decode cX4_sees 57 = .ok (.invokevirtual 144, 3) := by decide +kernel
theorem dX4_sees_60 : decode cX4_sees 60 = .ok (.aload_n 0, 1) := by decide +kernel
theorem dX4_sees_61 : decode cX4_sees 61 = .ok (.getfield 26, 3) := by decide +kernel
theorem dX4_sees_64 : decode cX4_sees 64 = .ok (.invokevirtual 143, 3) := by decide +kernel
theorem dX4_sees_67 : decode cX4_sees 67 = .ok (.ireturn, 1) := by decide +kernel
set_option maxRecDepth 20000 in
theorem ggX4_forget_X2_size : GoodIn wsX4_forget wsX2_size := goodIn_r _ [6, 7, 18, 19, 20, 21] (by decide +kernel) (by decide +kernel)
set_option maxRecDepth 20000 in
theorem gX4_forget_X2_size : GoodIn wsX4_forget (wsV RX4 143 RX2 yX2_size wsX2_size) := goodIn_app (goodIn_of _ (by decide +kernel)) ggX4_forget_X2_size
set_option maxRecDepth 20000 in
theorem ggX4_forget_X2_empty : GoodIn wsX4_forget wsX2_empty := goodIn_r _ [11, 7, 18, 19, 20, 21] (by decide +kernel) (by decide +kernel)
set_option maxRecDepth 20000 in
theorem gX4_forget_X2_empty : GoodIn wsX4_forget (wsV RX4 147 RX2 yX2_empty wsX2_empty) := goodIn_app (goodIn_of _ (by decide +kernel)) ggX4_forget_X2_empty
theorem dX4_forget_0 : decode cX4_forget 0 = .ok (.aload_n 0, 1) := by decide +kernel
theorem dX4_forget_1 : decode cX4_forget 1 = .ok (.getfield 26, 3) := by decide +kernel
theorem dX4_forget_4 : decode cX4_forget 4 = .ok (.invokevirtual 143, 3) := by decide +kernel
theorem dX4_forget_7 : decode cX4_forget 7 = .ok (.istore_n 1, 1) := by decide +kernel
theorem dX4_forget_8 : decode cX4_forget 8 = .ok (.aload_n 0, 1) := by decide +kernel
theorem dX4_forget_9 : decode cX4_forget 9 = .ok (.getfield 26, 3) := by decide +kernel
theorem dX4_forget_12 : decode cX4_forget 12 = .ok (.invokevirtual 147, 3) := by decide +kernel
theorem dX4_forget_15 : decode cX4_forget 15 = .ok (.iload_n 1, 1) := by decide +kernel
theorem dX4_forget_16 : decode cX4_forget 16 = .ok (.ireturn, 1) := by decide +kernel
set_option maxRecDepth 20000 in
theorem ggX4_fit_X4_isHalf : GoodIn wsX4_fit wsX4_isHalf := goodIn_r _ [6] (by decide +kernel) (by decide +kernel)
set_option maxRecDepth 20000 in
theorem gX4_fit_X4_isHalf : GoodIn wsX4_fit (va_wsS RX4 111 yX4_isHalf wsX4_isHalf) := goodIn_app (goodIn_of _ (by decide +kernel)) ggX4_fit_X4_isHalf
set_option maxRecDepth 20000 in
theorem ggX4_fit_X0_size : GoodIn wsX4_fit wsX0_size := goodIn_r _ [11, 12, 44, 45, 46, 47] (by decide +kernel) (by decide +kernel)
set_option maxRecDepth 20000 in
theorem gX4_fit_X0_size : GoodIn wsX4_fit (wsV RX4 56 RX0 yX0_size wsX0_size) := goodIn_app (goodIn_of _ (by decide +kernel)) ggX4_fit_X0_size
set_option maxRecDepth 20000 in
theorem ggX4_fit_X0_wordAt : GoodIn wsX4_fit wsX0_wordAt := goodIn_r _ [16, 17, 18, 19, 20, 10, 21, 12, 44, 45, 46, 47] (by decide +kernel) (by decide +kernel)
set_option maxRecDepth 20000 in
theorem gX4_fit_X0_wordAt : GoodIn wsX4_fit (wsV RX4 148 RX0 yX0_wordAt wsX0_wordAt) := goodIn_app (goodIn_of _ (by decide +kernel)) ggX4_fit_X0_wordAt
set_option maxRecDepth 20000 in
theorem ggX4_fit_X2_allow : GoodIn wsX4_fit wsX2_allow := goodIn_r _ [26, 27, 28, 29, 30, 31, 32, 33, 34, 35, 36, 37, 48, 49, 50, 51] (by decide +kernel) (by decide +kernel)
set_option maxRecDepth 20000 in
theorem gX4_fit_X2_allow : GoodIn wsX4_fit (wsV RX4 152 RX2 yX2_allow wsX2_allow) := goodIn_app (goodIn_of _ (by decide +kernel)) ggX4_fit_X2_allow
theorem dX4_fit_0 : decode cX4_fit 0 = .ok (.iload_n 1, 1) := by decide +kernel
theorem dX4_fit_1 : decode cX4_fit 1 = .ok (.invokestatic 111, 3) := by decide +kernel
theorem dX4_fit_4 : decode cX4_fit 4 = .ok (.ifCond .ne 5, 3) := by decide +kernel
theorem dX4_fit_7 : decode cX4_fit 7 = .ok (.iconst (-1), 1) := by decide +kernel
theorem dX4_fit_8 : decode cX4_fit 8 = .ok (.ireturn, 1) := by decide +kernel
theorem dX4_fit_9 : decode cX4_fit 9 = .ok (.iconst 0, 1) := by decide +kernel
theorem dX4_fit_10 : decode cX4_fit 10 = .ok (.istore_n 2, 1) := by decide +kernel
theorem dX4_fit_11 : decode cX4_fit 11 = .ok (.iconst 0, 1) := by decide +kernel
theorem dX4_fit_12 : decode cX4_fit 12 = .ok (.istore_n 3, 1) := by decide +kernel
theorem dX4_fit_13 : decode cX4_fit 13 = .ok (.iload_n 3, 1) := by decide +kernel
theorem dX4_fit_14 : decode cX4_fit 14 = .ok (.aload_n 0, 1) := by decide +kernel
theorem dX4_fit_15 : decode cX4_fit 15 = .ok (.getfield 10, 3) := by decide +kernel
theorem dX4_fit_18 : decode cX4_fit 18 = .ok (.invokevirtual 56, 3) := by decide +kernel
theorem dX4_fit_21 : decode cX4_fit 21 = .ok (.if_icmp .ge 37, 3) := by decide +kernel
theorem dX4_fit_24 : decode cX4_fit 24 = .ok (.aload_n 0, 1) := by decide +kernel
theorem dX4_fit_25 : decode cX4_fit 25 = .ok (.getfield 26, 3) := by decide +kernel
theorem dX4_fit_28 : decode cX4_fit 28 = .ok (.aload_n 0, 1) := by decide +kernel
theorem dX4_fit_29 : decode cX4_fit 29 = .ok (.getfield 10, 3) := by decide +kernel
theorem dX4_fit_32 : decode cX4_fit 32 = .ok (.iload_n 3, 1) := by decide +kernel
theorem dX4_fit_33 : decode cX4_fit 33 = .ok (.invokevirtual 148, 3) := by decide +kernel
theorem dX4_fit_36 : decode cX4_fit 36 = .ok (.invokevirtual 152, 3) := by decide +kernel
theorem dX4_fit_39 : decode cX4_fit 39 = .ok (.ifCond .eq 13, 3) := by decide +kernel
theorem dX4_fit_42 : decode cX4_fit 42 = .ok (.iload_n 1, 1) := by decide +kernel
theorem dX4_fit_43 : decode cX4_fit 43 = .ok (.iconst 1, 1) := by decide +kernel
theorem dX4_fit_44 : decode cX4_fit 44 = .ok (.if_icmp .ne 5, 3) := by decide +kernel
theorem dX4_fit_47 : decode cX4_fit 47 = .ok (.iload_n 3, 1) := by decide +kernel
theorem dX4_fit_48 : decode cX4_fit 48 = .ok (.ireturn, 1) := by decide +kernel
theorem dX4_fit_49 : decode cX4_fit 49 = .ok (.iinc 2 1, 3) := by decide +kernel
theorem dX4_fit_52 : decode cX4_fit 52 = .ok (.iinc 3 1, 3) := by decide +kernel
theorem dX4_fit_55 : decode cX4_fit 55 = .ok (.goto (-42), 3) := by decide +kernel
theorem dX4_fit_58 : decode cX4_fit 58 = .ok (.iload_n 1, 1) := by decide +kernel
theorem dX4_fit_59 : decode cX4_fit 59 = .ok (.iconst 1, 1) := by decide +kernel
theorem dX4_fit_60 : decode cX4_fit 60 = .ok (.if_icmp .ne 8, 3) := by decide +kernel
theorem dX4_fit_63 : decode cX4_fit 63 = .ok (.bipush (-9), 2) := by decide +kernel
theorem dX4_fit_65 : decode cX4_fit 65 = .ok (.goto 4, 3) := by decide +kernel
theorem dX4_fit_68 : decode cX4_fit 68 = .ok (.iload_n 2, 1) := by decide +kernel
theorem dX4_fit_69 : decode cX4_fit 69 = .ok (.ireturn, 1) := by decide +kernel
set_option maxRecDepth 20000 in
theorem ggX4_ask_X4_tallyFitting : GoodIn wsX4_ask wsX4_tallyFitting := goodIn_r _ [10, 1, 11, 12, 13, 14, 15, 16, 17, 18, 19, 20, 21, 22, 23, 24, 25, 26, 27, 28, 29, 30, 31, 32, 33, 34, 35, 36, 37, 38, 39, 40, 41, 42, 43, 44, 45, 46, 47, 48, 49, 50, 9, 51, 52, 53, 54, 55, 56, 57, 58, 59, 60, 61, 62, 63, 64, 65, 66, 67, 68, 69] (by decide +kernel) (by decide +kernel)
set_option maxRecDepth 20000 in
theorem gX4_ask_X4_tallyFitting : GoodIn wsX4_ask (wsV RX4 156 RX4 yX4_tallyFitting wsX4_tallyFitting) := goodIn_app (goodIn_of _ (by decide +kernel)) ggX4_ask_X4_tallyFitting
theorem dX4_ask_0 : decode cX4_ask 0 = .ok (.aload_n 0, 1) := by decide +kernel
theorem dX4_ask_1 : decode cX4_ask 1 = .ok (.invokevirtual 156, 3) := by decide +kernel
theorem dX4_ask_4 : decode cX4_ask 4 = .ok (.istore_n 1, 1) := by decide +kernel
theorem dX4_ask_5 : decode cX4_ask 5 = .ok (.iload_n 1, 1) := by decide +kernel
theorem dX4_ask_6 : decode cX4_ask 6 = .ok (.iconst 2, 1) := by decide +kernel
theorem dX4_ask_7 : decode cX4_ask 7 = .ok (.if_icmp .ge 6, 3) := by decide +kernel
theorem dX4_ask_10 : decode cX4_ask 10 = .ok (.bipush (-9), 2) := by decide +kernel
theorem dX4_ask_12 : decode cX4_ask 12 = .ok (.ireturn, 1) := by decide +kernel
theorem dX4_ask_13 : decode cX4_ask 13 = .ok (.iload_n 1, 1) := by decide +kernel
theorem dX4_ask_14 : decode cX4_ask 14 = .ok (.iconst 1, 1) := by decide +kernel
theorem dX4_ask_15 : decode cX4_ask 15 = .ok (.iadd, 1) := by decide +kernel
theorem dX4_ask_16 : decode cX4_ask 16 = .ok (.istore_n 2, 1) := by decide +kernel
theorem dX4_ask_17 : decode cX4_ask 17 = .ok (.bipush (-9), 2) := by decide +kernel
theorem dX4_ask_19 : decode cX4_ask 19 = .ok (.istore_n 3, 1) := by decide +kernel
theorem dX4_ask_20 : decode cX4_ask 20 = .ok (.iconst 0, 1) := by decide +kernel
theorem dX4_ask_21 : decode cX4_ask 21 = .ok (.istore 4, 2) := by decide +kernel
theorem dX4_ask_23 : decode cX4_ask 23 = .ok (.iload 4, 2) := by decide +kernel
theorem dX4_ask_25 : decode cX4_ask 25 = .ok (.sipush 182, 3) := by decide +kernel
theorem dX4_ask_28 : decode cX4_ask 28 = .ok (.if_icmp .ge 54, 3) := by decide +kernel
theorem dX4_ask_31 : decode cX4_ask 31 = .ok (.aload_n 0, 1) := by decide +kernel
theorem dX4_ask_32 : decode cX4_ask 32 = .ok (.getfield 30, 3) := by decide +kernel
theorem dX4_ask_35 : decode cX4_ask 35 = .ok (.iload 4, 2) := by decide +kernel
theorem dX4_ask_37 : decode cX4_ask 37 = .ok (.iaload, 1) := by decide +kernel
theorem dX4_ask_38 : decode cX4_ask 38 = .ok (.iload_n 1, 1) := by decide +kernel
theorem dX4_ask_39 : decode cX4_ask 39 = .ok (.aload_n 0, 1) := by decide +kernel
theorem dX4_ask_40 : decode cX4_ask 40 = .ok (.getfield 30, 3) := by decide +kernel
theorem dX4_ask_43 : decode cX4_ask 43 = .ok (.iload 4, 2) := by decide +kernel
theorem dX4_ask_45 : decode cX4_ask 45 = .ok (.iaload, 1) := by decide +kernel
theorem dX4_ask_46 : decode cX4_ask 46 = .ok (.isub, 1) := by decide +kernel
theorem dX4_ask_47 : decode cX4_ask 47 = .ok (.invokestatic 159, 3) := by decide +kernel
theorem dX4_ask_50 : decode cX4_ask 50 = .ok (.istore 5, 2) := by decide +kernel
theorem dX4_ask_52 : decode cX4_ask 52 = .ok (.iload 5, 2) := by decide +kernel
theorem dX4_ask_54 : decode cX4_ask 54 = .ok (.iload_n 2, 1) := by decide +kernel
theorem dX4_ask_55 : decode cX4_ask 55 = .ok (.if_icmp .ge 21, 3) := by decide +kernel
theorem dX4_ask_58 : decode cX4_ask 58 = .ok (.iload 5, 2) := by decide +kernel
theorem dX4_ask_60 : decode cX4_ask 60 = .ok (.istore_n 2, 1) := by decide +kernel
theorem dX4_ask_61 : decode cX4_ask 61 = .ok (.bipush 32, 2) := by decide +kernel
theorem dX4_ask_63 : decode cX4_ask 63 = .ok (.iload 4, 2) := by decide +kernel
theorem dX4_ask_65 : decode cX4_ask 65 = .ok (.bipush 26, 2) := by decide +kernel
theorem dX4_ask_67 : decode cX4_ask 67 = .ok (.idiv, 1) := by decide +kernel
theorem dX4_ask_68 : decode cX4_ask 68 = .ok (.imul, 1) := by decide +kernel
theorem dX4_ask_69 : decode cX4_ask 69 = .ok (.iload 4, 2) := by decide +kernel
theorem dX4_ask_71 : decode cX4_ask 71 = .ok (.bipush 26, 2) := by decide +kernel
theorem dX4_ask_73 : decode cX4_ask 73 = .ok (.irem, 1) := by decide +kernel
theorem dX4_ask_74 : decode cX4_ask 74 = .ok (.iadd, 1) := by decide +kernel
theorem dX4_ask_75 : decode cX4_ask 75 = .ok (.istore_n 3, 1) := by decide +kernel
theorem dX4_ask_76 : decode cX4_ask 76 = .ok (.iinc 4 1, 3) := by decide +kernel
theorem dX4_ask_79 : decode cX4_ask 79 = .ok (.goto (-56), 3) := by decide +kernel
theorem dX4_ask_82 : decode cX4_ask 82 = .ok (.iload_n 3, 1) := by decide +kernel
theorem dX4_ask_83 : decode cX4_ask 83 = .ok (.ireturn, 1) := by decide +kernel
set_option maxRecDepth 20000 in
theorem ggX4_count_X0_size : GoodIn wsX4_count wsX0_size := goodIn_r _ [9, 10, 104, 105, 106, 107] (by decide +kernel) (by decide +kernel)
set_option maxRecDepth 20000 in
theorem gX4_count_X0_size : GoodIn wsX4_count (wsV RX4 56 RX0 yX0_size wsX0_size) := goodIn_app (goodIn_of _ (by decide +kernel)) ggX4_count_X0_size
set_option maxRecDepth 20000 in
theorem ggX4_count_X0_oftenBelow : GoodIn wsX4_count wsX0_oftenBelow := goodIn_r _ [14, 10, 15, 16, 17, 8, 18, 19, 20, 21, 22, 23, 104, 105, 106, 107] (by decide +kernel) (by decide +kernel)
set_option maxRecDepth 20000 in
theorem gX4_count_X0_oftenBelow : GoodIn wsX4_count (wsV RX4 104 RX0 yX0_oftenBelow wsX0_oftenBelow) := goodIn_app (goodIn_of _ (by decide +kernel)) ggX4_count_X0_oftenBelow
set_option maxRecDepth 20000 in
theorem ggX4_count_X0_nodes : GoodIn wsX4_count wsX0_nodes := goodIn_r _ [27, 10, 28, 29, 30, 31, 32, 33, 34, 8, 35, 36, 20, 21, 22, 23, 37, 38, 39, 40, 41, 42, 43, 44, 45, 46, 47, 48, 49, 50, 51, 52, 53, 54, 55, 104, 105, 106, 107] (by decide +kernel) (by decide +kernel)
set_option maxRecDepth 20000 in
theorem gX4_count_X0_nodes : GoodIn wsX4_count (wsV RX4 164 RX0 yX0_nodes wsX0_nodes) := goodIn_app (goodIn_of _ (by decide +kernel)) ggX4_count_X0_nodes
set_option maxRecDepth 20000 in
theorem ggX4_count_X0_containers : GoodIn wsX4_count wsX0_containers := goodIn_r _ [59, 10, 60, 61, 62, 8, 63, 64, 65, 66, 67, 32, 33, 34, 35, 36, 20, 21, 22, 23, 41, 42, 43, 44, 45, 68, 69, 48, 70, 50, 51, 52, 53, 54, 55, 37, 38, 39, 40, 46, 47, 49, 104, 105, 106, 107] (by decide +kernel) (by decide +kernel)
set_option maxRecDepth 20000 in
theorem gX4_count_X0_containers : GoodIn wsX4_count (wsV RX4 167 RX0 yX0_containers wsX0_containers) := goodIn_app (goodIn_of _ (by decide +kernel)) ggX4_count_X0_containers
set_option maxRecDepth 20000 in
theorem ggX4_count_X0_fullest : GoodIn wsX4_count wsX0_fullest := goodIn_r _ [74, 10, 28, 29, 30, 31, 64, 65, 66, 8, 67, 32, 33, 34, 35, 36, 20, 21, 22, 23, 41, 42, 43, 44, 45, 68, 69, 48, 70, 50, 51, 52, 53, 54, 55, 60, 61, 62, 63, 37, 38, 39, 40, 46, 47, 49, 104, 105, 106, 107] (by decide +kernel) (by decide +kernel)
set_option maxRecDepth 20000 in
theorem gX4_count_X0_fullest : GoodIn wsX4_count (wsV RX4 170 RX0 yX0_fullest wsX0_fullest) := goodIn_app (goodIn_of _ (by decide +kernel)) ggX4_count_X0_fullest
set_option maxRecDepth 20000 in
theorem ggX4_count_X0_deepest : GoodIn wsX4_count wsX0_deepest := goodIn_r _ [78, 10, 28, 29, 30, 31, 32, 33, 34, 8, 35, 36, 20, 21, 22, 23, 104, 105, 106, 107] (by decide +kernel) (by decide +kernel)
set_option maxRecDepth 20000 in
theorem gX4_count_X0_deepest : GoodIn wsX4_count (wsV RX4 173 RX0 yX0_deepest wsX0_deepest) := goodIn_app (goodIn_of _ (by decide +kernel)) ggX4_count_X0_deepest
set_option maxRecDepth 20000 in
theorem ggX4_count_X0_lettersKept : GoodIn wsX4_count wsX0_lettersKept := goodIn_r _ [82, 10, 64, 65, 66, 8, 67, 32, 33, 34, 35, 36, 20, 21, 22, 23, 41, 42, 43, 44, 45, 68, 69, 48, 70, 50, 51, 52, 53, 54, 55, 104, 105, 106, 107] (by decide +kernel) (by decide +kernel)
set_option maxRecDepth 20000 in
theorem gX4_count_X0_lettersKept : GoodIn wsX4_count (wsV RX4 176 RX0 yX0_lettersKept wsX0_lettersKept) := goodIn_app (goodIn_of _ (by decide +kernel)) ggX4_count_X0_lettersKept
set_option maxRecDepth 20000 in
theorem ggX4_count_X0_mostShared : GoodIn wsX4_count wsX0_mostShared := goodIn_r _ [86, 10, 28, 29, 30, 31, 37, 38, 39, 8, 40, 41, 42, 43, 44, 45, 20, 21, 22, 23, 46, 47, 48, 49, 50, 51, 52, 53, 54, 55, 104, 105, 106, 107] (by decide +kernel) (by decide +kernel)
set_option maxRecDepth 20000 in
theorem gX4_count_X0_mostShared : GoodIn wsX4_count (wsV RX4 179 RX0 yX0_mostShared wsX0_mostShared) := goodIn_app (goodIn_of _ (by decide +kernel)) ggX4_count_X0_mostShared
set_option maxRecDepth 20000 in
theorem ggX4_count_X0_pairsSharing : GoodIn wsX4_count wsX0_pairsSharing := goodIn_r _ [90, 10, 37, 38, 39, 8, 40, 41, 42, 43, 44, 45, 20, 21, 22, 23, 46, 47, 48, 49, 50, 51, 52, 53, 54, 55, 104, 105, 106, 107] (by decide +kernel) (by decide +kernel)
set_option maxRecDepth 20000 in
theorem gX4_count_X0_pairsSharing : GoodIn wsX4_count (wsV RX4 182 RX0 yX0_pairsSharing wsX0_pairsSharing) := goodIn_app (goodIn_of _ (by decide +kernel)) ggX4_count_X0_pairsSharing
set_option maxRecDepth 20000 in
theorem ggX4_count_X3_lengthOf : GoodIn wsX4_count wsX3_lengthOf := goodIn_r _ [70, 50, 51, 48, 52, 53, 54, 55] (by decide +kernel) (by decide +kernel)
set_option maxRecDepth 20000 in
theorem gX4_count_X3_lengthOf : GoodIn wsX4_count (va_wsS RX4 48 yX3_lengthOf wsX3_lengthOf) := goodIn_app (goodIn_of _ (by decide +kernel)) ggX4_count_X3_lengthOf
set_option maxRecDepth 20000 in
theorem ggX4_count_X1_size : GoodIn wsX4_count wsX1_size := goodIn_r _ [96, 97, 108, 109, 110, 111] (by decide +kernel) (by decide +kernel)
set_option maxRecDepth 20000 in
theorem gX4_count_X1_size : GoodIn wsX4_count (wsV RX4 87 RX1 yX1_size wsX1_size) := goodIn_app (goodIn_of _ (by decide +kernel)) ggX4_count_X1_size
theorem dX4_count_0 : decode cX4_count 0 = .ok (.iload_n 1, 1) := by decide +kernel
theorem dX4_count_1 : decode cX4_count 1 = .ok (.tableswitch 186 0 11 #[63, 71, 86, 94, 102, 110, 118, 126, 150, 165, 170, 178], 63) := by decide +kernel
theorem dX4_count_64 : decode cX4_count 64 = .ok (.aload_n 0, 1) := by decide +kernel
theorem dX4_count_65 : decode cX4_count 65 = .ok (.getfield 10, 3) := by decide +kernel
theorem dX4_count_68 : decode cX4_count 68 = .ok (.invokevirtual 56, 3) := by decide +kernel
theorem dX4_count_71 : decode cX4_count 71 = .ok (.ireturn, 1) := by decide +kernel
theorem dX4_count_72 : decode cX4_count 72 = .ok (.aload_n 0, 1) := by decide +kernel
theorem dX4_count_73 : decode cX4_count 73 = .ok (.getfield 10, 3) := by decide +kernel
theorem dX4_count_76 : decode cX4_count 76 = .ok (.aload_n 0, 1) := by decide +kernel
theorem dX4_count_77 : decode cX4_count 77 = .ok (.getfield 10, 3) := by decide +kernel
theorem dX4_count_80 : decode cX4_count 80 = .ok (.invokevirtual 56, 3) := by decide +kernel
theorem dX4_count_83 : decode cX4_count 83 = .ok (.invokevirtual 104, 3) := by decide +kernel
theorem dX4_count_86 : decode cX4_count 86 = .ok (.ireturn, 1) := by decide +kernel
theorem dX4_count_87 : decode cX4_count 87 = .ok (.aload_n 0, 1) := by decide +kernel
theorem dX4_count_88 : decode cX4_count 88 = .ok (.getfield 10, 3) := by decide +kernel
theorem dX4_count_91 : decode cX4_count 91 = .ok (.invokevirtual 164, 3) := by decide +kernel
theorem dX4_count_94 : decode cX4_count 94 = .ok (.ireturn, 1) := by decide +kernel
theorem dX4_count_95 : decode cX4_count 95 = .ok (.aload_n 0, 1) := by decide +kernel
theorem dX4_count_96 : decode cX4_count 96 = .ok (.getfield 10, 3) := by decide +kernel
theorem dX4_count_99 : decode cX4_count 99 = .ok (.invokevirtual 167, 3) := by decide +kernel
theorem dX4_count_102 : decode cX4_count 102 = .ok (.ireturn, 1) := by decide +kernel
theorem dX4_count_103 : decode cX4_count 103 = .ok (.aload_n 0, 1) := by decide +kernel
theorem dX4_count_104 : decode cX4_count 104 = .ok (.getfield 10, 3) := by decide +kernel
theorem dX4_count_107 : decode cX4_count 107 = .ok (.invokevirtual 170, 3) := by decide +kernel
theorem dX4_count_110 : decode cX4_count 110 = .ok (.ireturn, 1) := by decide +kernel
theorem dX4_count_111 : decode cX4_count 111 = .ok (.aload_n 0, 1) := by decide +kernel
theorem dX4_count_112 : decode cX4_count 112 = .ok (.getfield 10, 3) := by decide +kernel
theorem dX4_count_115 : decode cX4_count 115 = .ok (.invokevirtual 173, 3) := by decide +kernel
theorem dX4_count_118 : decode cX4_count 118 = .ok (.ireturn, 1) := by decide +kernel
theorem dX4_count_119 : decode cX4_count 119 = .ok (.aload_n 0, 1) := by decide +kernel
theorem dX4_count_120 : decode cX4_count 120 = .ok (.getfield 10, 3) := by decide +kernel
theorem dX4_count_123 : decode cX4_count 123 = .ok (.invokevirtual 176, 3) := by decide +kernel
theorem dX4_count_126 : decode cX4_count 126 = .ok (.ireturn, 1) := by decide +kernel
theorem dX4_count_127 : decode cX4_count 127 = .ok (.aload_n 0, 1) := by decide +kernel
theorem dX4_count_128 : decode cX4_count 128 = .ok (.getfield 10, 3) := by decide +kernel
theorem dX4_count_131 : decode cX4_count 131 = .ok (.invokevirtual 56, 3) := by decide +kernel
theorem dX4_count_134 : decode cX4_count 134 = .ok (.iconst 2, 1) := by decide +kernel
theorem dX4_count_135 : decode cX4_count 135 = .ok (.if_icmp .ge 8, 3) := by decide +kernel
theorem dX4_count_138 : decode cX4_count 138 = .ok (.bipush (-9), 2) := by decide +kernel
theorem dX4_count_140 : decode cX4_count 140 = .ok (.goto 10, 3) := by decide +kernel
theorem dX4_count_143 : decode cX4_count 143 = .ok (.aload_n 0, 1) := by decide +kernel
theorem dX4_count_144 : decode cX4_count 144 = .ok (.getfield 10, 3) := by decide +kernel
theorem dX4_count_147 : decode cX4_count 147 = .ok (.invokevirtual 179, 3) := by decide +kernel
theorem dX4_count_150 : decode cX4_count 150 = .ok (.ireturn, 1) := by decide +kernel
theorem dX4_count_151 : decode cX4_count 151 = .ok (.aload_n 0, 1) := by decide +kernel
theorem dX4_count_152 : decode cX4_count 152 = .ok (.getfield 10, 3) := by decide +kernel
theorem dX4_count_155 : decode cX4_count 155 = .ok (.aload_n 0, 1) := by decide +kernel
theorem dX4_count_156 : decode cX4_count 156 = .ok (.getfield 10, 3) := by decide +kernel
theorem dX4_count_159 : decode cX4_count 159 = .ok (.invokevirtual 179, 3) := by decide +kernel
theorem dX4_count_162 : decode cX4_count 162 = .ok (.invokevirtual 182, 3) := by decide +kernel
theorem dX4_count_165 : decode cX4_count 165 = .ok (.ireturn, 1) := by decide +kernel
theorem dX4_count_166 : decode cX4_count 166 = .ok (.aload_n 0, 1) := by decide +kernel
theorem dX4_count_167 : decode cX4_count 167 = .ok (.getfield 40, 3) := by decide +kernel
theorem dX4_count_170 : decode cX4_count 170 = .ok (.ireturn, 1) := by decide +kernel
theorem dX4_count_171 : decode cX4_count 171 = .ok (.aload_n 0, 1) := by decide +kernel
theorem dX4_count_172 : decode cX4_count 172 = .ok (.getfield 36, 3) := by decide +kernel
theorem dX4_count_175 : decode cX4_count 175 = .ok (.invokestatic 48, 3) := by decide +kernel
theorem dX4_count_178 : decode cX4_count 178 = .ok (.ireturn, 1) := by decide +kernel
theorem dX4_count_179 : decode cX4_count 179 = .ok (.aload_n 0, 1) := by decide +kernel
theorem dX4_count_180 : decode cX4_count 180 = .ok (.getfield 19, 3) := by decide +kernel
theorem dX4_count_183 : decode cX4_count 183 = .ok (.invokevirtual 87, 3) := by decide +kernel
theorem dX4_count_186 : decode cX4_count 186 = .ok (.ireturn, 1) := by decide +kernel
theorem dX4_count_187 : decode cX4_count 187 = .ok (.iconst (-1), 1) := by decide +kernel
theorem dX4_count_188 : decode cX4_count 188 = .ok (.ireturn, 1) := by decide +kernel
set_option maxRecDepth 20000 in
theorem ggX4_digest_X0_size : GoodIn wsX4_digest wsX0_size := goodIn_r _ [8, 9, 46, 47, 48, 49] (by decide +kernel) (by decide +kernel)
set_option maxRecDepth 20000 in
theorem gX4_digest_X0_size : GoodIn wsX4_digest (wsV RX4 56 RX0 yX0_size wsX0_size) := goodIn_app (goodIn_of _ (by decide +kernel)) ggX4_digest_X0_size
set_option maxRecDepth 20000 in
theorem ggX4_digest_X0_wordAt : GoodIn wsX4_digest wsX0_wordAt := goodIn_r _ [13, 14, 15, 16, 17, 7, 18, 9, 46, 47, 48, 49] (by decide +kernel) (by decide +kernel)
set_option maxRecDepth 20000 in
theorem gX4_digest_X0_wordAt : GoodIn wsX4_digest (wsV RX4 148 RX0 yX0_wordAt wsX0_wordAt) := goodIn_app (goodIn_of _ (by decide +kernel)) ggX4_digest_X0_wordAt
set_option maxRecDepth 20000 in
theorem ggX4_digest_X3_lengthOf : GoodIn wsX4_digest wsX3_lengthOf := goodIn_r _ [22, 23, 24, 21, 25, 26, 27, 28] (by decide +kernel) (by decide +kernel)
set_option maxRecDepth 20000 in
theorem gX4_digest_X3_lengthOf : GoodIn wsX4_digest (va_wsS RX4 48 yX3_lengthOf wsX3_lengthOf) := goodIn_app (goodIn_of _ (by decide +kernel)) ggX4_digest_X3_lengthOf
set_option maxRecDepth 20000 in
theorem ggX4_digest_X3_letterAt : GoodIn wsX4_digest wsX3_letterAt := goodIn_r _ [25, 26, 27, 21, 28] (by decide +kernel) (by decide +kernel)
set_option maxRecDepth 20000 in
theorem gX4_digest_X3_letterAt : GoodIn wsX4_digest (va_wsS RX4 189 yX3_letterAt wsX3_letterAt) := goodIn_app (goodIn_of _ (by decide +kernel)) ggX4_digest_X3_letterAt
set_option maxRecDepth 20000 in
theorem ggX4_digest_X0_oftenAt : GoodIn wsX4_digest wsX0_oftenAt := goodIn_r _ [33, 34, 15, 16, 17, 7, 18, 9, 46, 47, 48, 49] (by decide +kernel) (by decide +kernel)
set_option maxRecDepth 20000 in
theorem gX4_digest_X0_oftenAt : GoodIn wsX4_digest (wsV RX4 192 RX0 yX0_oftenAt wsX0_oftenAt) := goodIn_app (goodIn_of _ (by decide +kernel)) ggX4_digest_X0_oftenAt
set_option maxRecDepth 20000 in
theorem ggX4_digest_X0_depthAt : GoodIn wsX4_digest wsX0_depthAt := goodIn_r _ [38, 39, 15, 16, 17, 7, 18, 9, 46, 47, 48, 49] (by decide +kernel) (by decide +kernel)
set_option maxRecDepth 20000 in
theorem gX4_digest_X0_depthAt : GoodIn wsX4_digest (wsV RX4 195 RX0 yX0_depthAt wsX0_depthAt) := goodIn_app (goodIn_of _ (by decide +kernel)) ggX4_digest_X0_depthAt
theorem dX4_digest_0 : decode cX4_digest 0 = .ok (.ldc2_w 185, 3) := by decide +kernel
theorem dX4_digest_3 : decode cX4_digest 3 = .ok (.lstore_n 1, 1) := by decide +kernel
theorem dX4_digest_4 : decode cX4_digest 4 = .ok (.iconst 0, 1) := by decide +kernel
theorem dX4_digest_5 : decode cX4_digest 5 = .ok (.istore_n 3, 1) := by decide +kernel
theorem dX4_digest_6 : decode cX4_digest 6 = .ok (.iload_n 3, 1) := by decide +kernel
theorem dX4_digest_7 : decode cX4_digest 7 = .ok (.aload_n 0, 1) := by decide +kernel
theorem dX4_digest_8 : decode cX4_digest 8 = .ok (.getfield 10, 3) := by decide +kernel
theorem dX4_digest_11 : decode cX4_digest 11 = .ok (.invokevirtual 56, 3) := by decide +kernel
theorem dX4_digest_14 : decode cX4_digest 14 = .ok (.if_icmp .ge 89, 3) := by decide +kernel
theorem dX4_digest_17 : decode cX4_digest 17 = .ok (.aload_n 0, 1) := by decide +kernel
theorem dX4_digest_18 : decode cX4_digest 18 = .ok (.getfield 10, 3) := by decide +kernel
theorem dX4_digest_21 : decode cX4_digest 21 = .ok (.iload_n 3, 1) := by decide +kernel
theorem dX4_digest_22 : decode cX4_digest 22 = .ok (.invokevirtual 148, 3) := by decide +kernel
theorem dX4_digest_25 : decode cX4_digest 25 = .ok (.lstore 4, 2) := by decide +kernel
theorem dX4_digest_27 : decode cX4_digest 27 = .ok (.lload 4, 2) := by decide +kernel
theorem dX4_digest_29 : decode cX4_digest 29 = .ok (.invokestatic 48, 3) := by decide +kernel
theorem dX4_digest_32 : decode cX4_digest 32 = .ok (.istore 6, 2) := by decide +kernel
theorem dX4_digest_34 : decode cX4_digest 34 = .ok (.iconst 0, 1) := by decide +kernel
theorem dX4_digest_35 : decode cX4_digest 35 = .ok (.istore 7, 2) := by decide +kernel
theorem dX4_digest_37 : decode cX4_digest 37 = .ok (.iload 7, 2) := by decide +kernel
theorem dX4_digest_39 : decode cX4_digest 39 = .ok (.iload 6, 2) := by decide +kernel
theorem dX4_digest_41 : decode cX4_digest 41 = .ok (.if_icmp .ge 24, 3) := by decide +kernel
theorem dX4_digest_44 : decode cX4_digest 44 = .ok (.ldc2_w 187, 3) := by decide +kernel
theorem dX4_digest_47 : decode cX4_digest 47 = .ok (.lload_n 1, 1) := by decide +kernel
theorem dX4_digest_48 : decode cX4_digest 48 = .ok (.lmul, 1) := by decide +kernel
theorem dX4_digest_49 : decode cX4_digest 49 = .ok (.lload 4, 2) := by decide +kernel
theorem dX4_digest_51 : decode cX4_digest 51 = .ok (.iload 7, 2) := by decide +kernel
theorem dX4_digest_53 : decode cX4_digest 53 = .ok (.invokestatic 189, 3) := by decide +kernel
theorem dX4_digest_56 : decode cX4_digest 56 = .ok (.i2l, 1) := by decide +kernel
theorem dX4_digest_57 : decode cX4_digest 57 = .ok (.ladd, 1) := by decide +kernel
theorem dX4_digest_58 : decode cX4_digest 58 = .ok (.lstore_n 1, 1) := by decide +kernel
theorem dX4_digest_59 : decode cX4_digest 59 = .ok (.iinc 7 1, 3) := by decide +kernel
theorem dX4_digest_62 : decode cX4_digest 62 = .ok (.goto (-25), 3) := by decide +kernel
theorem dX4_digest_65 : decode cX4_digest 65 = .ok (.ldc2_w 187, 3) := by decide +kernel
theorem dX4_digest_68 : decode cX4_digest 68 = .ok (.lload_n 1, 1) := by decide +kernel
theorem dX4_digest_69 : decode cX4_digest 69 = .ok (.lmul, 1) := by decide +kernel
theorem dX4_digest_70 : decode cX4_digest 70 = .ok (.aload_n 0, 1) := by decide +kernel
theorem dX4_digest_71 : decode cX4_digest 71 = .ok (.getfield 10, 3) := by decide +kernel
theorem dX4_digest_74 : decode cX4_digest 74 = .ok (.iload_n 3, 1) := by decide +kernel
theorem dX4_digest_75 : decode cX4_digest 75 = .ok (.invokevirtual 192, 3) := by decide +kernel
theorem dX4_digest_78 : decode cX4_digest 78 = .ok (.i2l, 1) := by decide +kernel
theorem dX4_digest_79 : decode cX4_digest 79 = .ok (.ladd, 1) := by decide +kernel
theorem dX4_digest_80 : decode cX4_digest 80 = .ok (.lstore_n 1, 1) := by decide +kernel
theorem dX4_digest_81 : decode cX4_digest 81 = .ok (.ldc2_w 187, 3) := by decide +kernel
theorem dX4_digest_84 : decode cX4_digest 84 = .ok (.lload_n 1, 1) := by decide +kernel
theorem dX4_digest_85 : decode cX4_digest 85 = .ok (.lmul, 1) := by decide +kernel
theorem dX4_digest_86 : decode cX4_digest 86 = .ok (.aload_n 0, 1) := by decide +kernel
theorem dX4_digest_87 : decode cX4_digest 87 = .ok (.getfield 10, 3) := by decide +kernel
theorem dX4_digest_90 : decode cX4_digest 90 = .ok (.iload_n 3, 1) := by decide +kernel
theorem dX4_digest_91 : decode cX4_digest 91 = .ok (.invokevirtual 195, 3) := by decide +kernel
theorem dX4_digest_94 : decode cX4_digest 94 = .ok (.i2l, 1) := by decide +kernel
theorem dX4_digest_95 : decode cX4_digest 95 = .ok (.ladd, 1) := by decide +kernel
theorem dX4_digest_96 : decode cX4_digest 96 = .ok (.lstore_n 1, 1) := by decide +kernel
theorem dX4_digest_97 : decode cX4_digest 97 = .ok (.iinc 3 1, 3) := by decide +kernel
theorem dX4_digest_100 : decode cX4_digest 100 = .ok (.goto (-94), 3) := by decide +kernel
theorem dX4_digest_103 : decode cX4_digest 103 = .ok (.lload_n 1, 1) := by decide +kernel
theorem dX4_digest_104 : decode cX4_digest 104 = .ok (.lreturn, 1) := by decide +kernel
theorem dX4_isHalf_0 : decode cX4_isHalf 0 = .ok (.iload_n 0, 1) := by decide +kernel
theorem dX4_isHalf_1 : decode cX4_isHalf 1 = .ok (.ifCond .eq 8, 3) := by decide +kernel
theorem dX4_isHalf_4 : decode cX4_isHalf 4 = .ok (.iload_n 0, 1) := by decide +kernel
theorem dX4_isHalf_5 : decode cX4_isHalf 5 = .ok (.iconst 1, 1) := by decide +kernel
theorem dX4_isHalf_6 : decode cX4_isHalf 6 = .ok (.if_icmp .ne 7, 3) := by decide +kernel
theorem dX4_isHalf_9 : decode cX4_isHalf 9 = .ok (.iconst 1, 1) := by decide +kernel
theorem dX4_isHalf_10 : decode cX4_isHalf 10 = .ok (.goto 4, 3) := by decide +kernel
theorem dX4_isHalf_13 : decode cX4_isHalf 13 = .ok (.iconst 0, 1) := by decide +kernel
theorem dX4_isHalf_14 : decode cX4_isHalf 14 = .ok (.ireturn, 1) := by decide +kernel
theorem dX4_isAsked_0 : decode cX4_isAsked 0 = .ok (.iload_n 0, 1) := by decide +kernel
theorem dX4_isAsked_1 : decode cX4_isAsked 1 = .ok (.iconst (-1), 1) := by decide +kernel
theorem dX4_isAsked_2 : decode cX4_isAsked 2 = .ok (.if_icmp .lt 13, 3) := by decide +kernel
theorem dX4_isAsked_5 : decode cX4_isAsked 5 = .ok (.iload_n 0, 1) := by decide +kernel
theorem dX4_isAsked_6 : decode cX4_isAsked 6 = .ok (.bipush 7, 2) := by decide +kernel
theorem dX4_isAsked_8 : decode cX4_isAsked 8 = .ok (.if_icmp .ge 7, 3) := by decide +kernel
theorem dX4_isAsked_11 : decode cX4_isAsked 11 = .ok (.iconst 1, 1) := by decide +kernel
theorem dX4_isAsked_12 : decode cX4_isAsked 12 = .ok (.goto 4, 3) := by decide +kernel
theorem dX4_isAsked_15 : decode cX4_isAsked 15 = .ok (.iconst 0, 1) := by decide +kernel
theorem dX4_isAsked_16 : decode cX4_isAsked 16 = .ok (.ireturn, 1) := by decide +kernel
theorem dX4_commonDivisor_0 : decode cX4_commonDivisor 0 = .ok (.iload_n 0, 1) := by decide +kernel
theorem dX4_commonDivisor_1 : decode cX4_commonDivisor 1 = .ok (.istore_n 2, 1) := by decide +kernel
theorem dX4_commonDivisor_2 : decode cX4_commonDivisor 2 = .ok (.iload_n 1, 1) := by decide +kernel
theorem dX4_commonDivisor_3 : decode cX4_commonDivisor 3 = .ok (.istore_n 3, 1) := by decide +kernel
theorem dX4_commonDivisor_4 : decode cX4_commonDivisor 4 = .ok (.iconst 0, 1) := by decide +kernel
theorem dX4_commonDivisor_5 : decode cX4_commonDivisor 5 = .ok (.istore 4, 2) := by decide +kernel
theorem dX4_commonDivisor_7 : decode cX4_commonDivisor 7 = .ok (.iload 4, 2) := by decide +kernel
theorem dX4_commonDivisor_9 : decode cX4_commonDivisor 9 = .ok (.bipush 64, 2) := by decide +kernel
theorem dX4_commonDivisor_11 : decode cX4_commonDivisor 11 = .ok (.if_icmp .ge 23, 3) := by decide +kernel
theorem dX4_commonDivisor_14 : decode cX4_commonDivisor 14 = .ok (.iload_n 3, 1) := by decide +kernel
theorem dX4_commonDivisor_15 : decode cX4_commonDivisor 15 = .ok (.ifCond .le 19, 3) := by decide +kernel
theorem dX4_commonDivisor_18 : decode cX4_commonDivisor 18 = .ok (.iload_n 2, 1) := by decide +kernel
theorem dX4_commonDivisor_19 : decode cX4_commonDivisor 19 = .ok (.iload_n 3, 1) := by decide +kernel
theorem dX4_commonDivisor_20 : decode cX4_commonDivisor 20 = .ok (.irem, 1) := by decide +kernel
theorem dX4_commonDivisor_21 : decode cX4_commonDivisor 21 = .ok (.istore 5, 2) := by decide +kernel
theorem dX4_commonDivisor_23 : decode cX4_commonDivisor 23 = .ok (.iload_n 3, 1) := by decide +kernel
theorem dX4_commonDivisor_24 : decode cX4_commonDivisor 24 = .ok (.istore_n 2, 1) := by decide +kernel
theorem dX4_commonDivisor_25 : decode cX4_commonDivisor 25 = .ok (.iload 5, 2) := by decide +kernel
theorem dX4_commonDivisor_27 : decode cX4_commonDivisor 27 = .ok (.istore_n 3, 1) := by decide +kernel
theorem dX4_commonDivisor_28 : decode cX4_commonDivisor 28 = .ok (.iinc 4 1, 3) := by decide +kernel
theorem dX4_commonDivisor_31 : decode cX4_commonDivisor 31 = .ok (.goto (-24), 3) := by decide +kernel
theorem dX4_commonDivisor_34 : decode cX4_commonDivisor 34 = .ok (.iload_n 2, 1) := by decide +kernel
theorem dX4_commonDivisor_35 : decode cX4_commonDivisor 35 = .ok (.ireturn, 1) := by decide +kernel
set_option maxRecDepth 20000 in
theorem ggX4_told_X0_size : GoodIn wsX4_told wsX0_size := goodIn_r _ [6, 7, 34, 35, 36, 37] (by decide +kernel) (by decide +kernel)
set_option maxRecDepth 20000 in
theorem gX4_told_X0_size : GoodIn wsX4_told (wsV RX4 56 RX0 yX0_size wsX0_size) := goodIn_app (goodIn_of _ (by decide +kernel)) ggX4_told_X0_size
set_option maxRecDepth 20000 in
theorem ggX4_told_X0_wordAt : GoodIn wsX4_told wsX0_wordAt := goodIn_r _ [11, 12, 13, 14, 15, 5, 16, 7, 34, 35, 36, 37] (by decide +kernel) (by decide +kernel)
set_option maxRecDepth 20000 in
theorem gX4_told_X0_wordAt : GoodIn wsX4_told (wsV RX4 148 RX0 yX0_wordAt wsX0_wordAt) := goodIn_app (goodIn_of _ (by decide +kernel)) ggX4_told_X0_wordAt
set_option maxRecDepth 20000 in
theorem ggX4_told_X3_lengthOf : GoodIn wsX4_told wsX3_lengthOf := goodIn_r _ [20, 21, 22, 19, 23, 24, 25, 26] (by decide +kernel) (by decide +kernel)
set_option maxRecDepth 20000 in
theorem gX4_told_X3_lengthOf : GoodIn wsX4_told (va_wsS RX4 48 yX3_lengthOf wsX3_lengthOf) := goodIn_app (goodIn_of _ (by decide +kernel)) ggX4_told_X3_lengthOf
set_option maxRecDepth 20000 in
theorem ggX4_told_X3_letterAt : GoodIn wsX4_told wsX3_letterAt := goodIn_r _ [23, 24, 25, 19, 26] (by decide +kernel) (by decide +kernel)
set_option maxRecDepth 20000 in
theorem gX4_told_X3_letterAt : GoodIn wsX4_told (va_wsS RX4 189 yX3_letterAt wsX3_letterAt) := goodIn_app (goodIn_of _ (by decide +kernel)) ggX4_told_X3_letterAt
theorem dX4_told_0 : decode cX4_told 0 = .ok (.iload_n 1, 1) := by decide +kernel
theorem dX4_told_1 : decode cX4_told 1 = .ok (.ifCond .lt 14, 3) := by decide +kernel
theorem dX4_told_4 : decode cX4_told 4 = .ok (.iload_n 1, 1) := by decide +kernel
theorem dX4_told_5 : decode cX4_told 5 = .ok (.aload_n 0, 1) := by decide +kernel
theorem dX4_told_6 : decode cX4_told 6 = .ok (.getfield 10, 3) := by decide +kernel
theorem dX4_told_9 : decode cX4_told 9 = .ok (.invokevirtual 56, 3) := by decide +kernel
theorem dX4_told_12 : decode cX4_told 12 = .ok (.if_icmp .lt 6, 3) := by decide +kernel
theorem dX4_told_15 : decode cX4_told 15 = .ok (.bipush (-9), 2) := by decide +kernel
theorem dX4_told_17 : decode cX4_told 17 = .ok (.ireturn, 1) := by decide +kernel
theorem dX4_told_18 : decode cX4_told 18 = .ok (.aload_n 0, 1) := by decide +kernel
theorem dX4_told_19 : decode cX4_told 19 = .ok (.getfield 10, 3) := by decide +kernel
theorem dX4_told_22 : decode cX4_told 22 = .ok (.iload_n 1, 1) := by decide +kernel
theorem dX4_told_23 : decode cX4_told 23 = .ok (.invokevirtual 148, 3) := by decide +kernel
theorem dX4_told_26 : decode cX4_told 26 = .ok (.lstore_n 3, 1) := by decide +kernel
theorem dX4_told_27 : decode cX4_told 27 = .ok (.iload_n 2, 1) := by decide +kernel
theorem dX4_told_28 : decode cX4_told 28 = .ok (.ifCond .ge 8, 3) := by decide +kernel
theorem dX4_told_31 : decode cX4_told 31 = .ok (.lload_n 3, 1) := by decide +kernel
theorem dX4_told_32 : decode cX4_told 32 = .ok (.invokestatic 48, 3) := by decide +kernel
theorem dX4_told_35 : decode cX4_told 35 = .ok (.ireturn, 1) := by decide +kernel
theorem dX4_told_36 : decode cX4_told 36 = .ok (.lload_n 3, 1) := by decide +kernel
theorem dX4_told_37 : decode cX4_told 37 = .ok (.iload_n 2, 1) := by decide +kernel
theorem dX4_told_38 : decode cX4_told 38 = .ok (.invokestatic 189, 3) := by decide +kernel
theorem dX4_told_41 : decode cX4_told 41 = .ok (.istore 5, 2) := by decide +kernel
theorem dX4_told_43 : decode cX4_told 43 = .ok (.iload 5, 2) := by decide +kernel
theorem dX4_told_45 : decode cX4_told 45 = .ok (.ifCond .ne 8, 3) := by decide +kernel
theorem dX4_told_48 : decode cX4_told 48 = .ok (.bipush (-9), 2) := by decide +kernel
theorem dX4_told_50 : decode cX4_told 50 = .ok (.goto 5, 3) := by decide +kernel
theorem dX4_told_53 : decode cX4_told 53 = .ok (.iload 5, 2) := by decide +kernel
theorem dX4_told_55 : decode cX4_told 55 = .ok (.ireturn, 1) := by decide +kernel
set_option maxRecDepth 20000 in
theorem ggX4_tallyFitting_J7_fill_53178 : GoodIn wsX4_tallyFitting wsJ7_fill_53178 := goodIn_r _ [7] (by decide +kernel) (by decide +kernel)
set_option maxRecDepth 20000 in
theorem gX4_tallyFitting_J7_fill_53178 : GoodIn wsX4_tallyFitting (va_wsS RX4 198 yJ7_fill_53178 wsJ7_fill_53178) := goodIn_app (goodIn_of _ (by decide +kernel)) ggX4_tallyFitting_J7_fill_53178
set_option maxRecDepth 20000 in
theorem ggX4_tallyFitting_X0_size : GoodIn wsX4_tallyFitting wsX0_size := goodIn_r _ [12, 13, 54, 55, 56, 57] (by decide +kernel) (by decide +kernel)
set_option maxRecDepth 20000 in
theorem gX4_tallyFitting_X0_size : GoodIn wsX4_tallyFitting (wsV RX4 56 RX0 yX0_size wsX0_size) := goodIn_app (goodIn_of _ (by decide +kernel)) ggX4_tallyFitting_X0_size
set_option maxRecDepth 20000 in
theorem ggX4_tallyFitting_X0_wordAt : GoodIn wsX4_tallyFitting wsX0_wordAt := goodIn_r _ [17, 18, 19, 20, 21, 11, 22, 13, 54, 55, 56, 57] (by decide +kernel) (by decide +kernel)
set_option maxRecDepth 20000 in
theorem gX4_tallyFitting_X0_wordAt : GoodIn wsX4_tallyFitting (wsV RX4 148 RX0 yX0_wordAt wsX0_wordAt) := goodIn_app (goodIn_of _ (by decide +kernel)) ggX4_tallyFitting_X0_wordAt
set_option maxRecDepth 20000 in
theorem ggX4_tallyFitting_X2_allow : GoodIn wsX4_tallyFitting wsX2_allow := goodIn_r _ [27, 28, 29, 30, 31, 32, 33, 34, 35, 36, 37, 38, 58, 59, 60, 61] (by decide +kernel) (by decide +kernel)
set_option maxRecDepth 20000 in
theorem gX4_tallyFitting_X2_allow : GoodIn wsX4_tallyFitting (wsV RX4 152 RX2 yX2_allow wsX2_allow) := goodIn_app (goodIn_of _ (by decide +kernel)) ggX4_tallyFitting_X2_allow
set_option maxRecDepth 20000 in
theorem ggX4_tallyFitting_X4_tallyLetters : GoodIn wsX4_tallyFitting wsX4_tallyLetters := goodIn_r _ [43, 1, 44, 33, 34, 35, 36, 37, 38, 45, 46, 47, 48, 49, 50, 51, 52, 53] (by decide +kernel) (by decide +kernel)
set_option maxRecDepth 20000 in
theorem gX4_tallyFitting_X4_tallyLetters : GoodIn wsX4_tallyFitting (wsV RX4 204 RX4 yX4_tallyLetters wsX4_tallyLetters) := goodIn_app (goodIn_of _ (by decide +kernel)) ggX4_tallyFitting_X4_tallyLetters
theorem dX4_tallyFitting_0 : decode cX4_tallyFitting 0 = .ok (.aload_n 0, 1) := by decide +kernel
theorem dX4_tallyFitting_1 : decode cX4_tallyFitting 1 = .ok (.getfield 30, 3) := by decide +kernel
theorem dX4_tallyFitting_4 : decode cX4_tallyFitting 4 = .ok (.iconst 0, 1) := by decide +kernel
theorem dX4_tallyFitting_5 : decode cX4_tallyFitting 5 = .ok (.invokestatic 198, 3) := by decide +kernel
theorem dX4_tallyFitting_8 : decode cX4_tallyFitting 8 = .ok (.iconst 0, 1) := by decide +kernel
theorem dX4_tallyFitting_9 : decode cX4_tallyFitting 9 = .ok (.istore_n 1, 1) := by decide +kernel
theorem dX4_tallyFitting_10 : decode cX4_tallyFitting 10 = .ok (.iconst 0, 1) := by decide +kernel
theorem dX4_tallyFitting_11 : decode cX4_tallyFitting 11 = .ok (.istore_n 2, 1) := by decide +kernel
theorem dX4_tallyFitting_12 : decode cX4_tallyFitting 12 = .ok (.iload_n 2, 1) := by decide +kernel
theorem dX4_tallyFitting_13 : decode cX4_tallyFitting 13 = .ok (.aload_n 0, 1) := by decide +kernel
theorem dX4_tallyFitting_14 : decode cX4_tallyFitting 14 = .ok (.getfield 10, 3) := by decide +kernel
theorem dX4_tallyFitting_17 : decode cX4_tallyFitting 17 = .ok (.invokevirtual 56, 3) := by decide +kernel
theorem dX4_tallyFitting_20 : decode cX4_tallyFitting 20 = .ok (.if_icmp .ge 37, 3) := by decide +kernel
theorem dX4_tallyFitting_23 : decode cX4_tallyFitting 23 = .ok (.aload_n 0, 1) := by decide +kernel
theorem dX4_tallyFitting_24 : decode cX4_tallyFitting 24 = .ok (.getfield 10, 3) := by decide +kernel
theorem dX4_tallyFitting_27 : decode cX4_tallyFitting 27 = .ok (.iload_n 2, 1) := by decide +kernel
theorem dX4_tallyFitting_28 : decode cX4_tallyFitting 28 = .ok (.invokevirtual 148, 3) := by decide +kernel
theorem dX4_tallyFitting_31 : decode cX4_tallyFitting 31 = .ok (.lstore_n 3, 1) := by decide +kernel
theorem dX4_tallyFitting_32 : decode cX4_tallyFitting 32 = .ok (.aload_n 0, 1) := by decide +kernel
theorem dX4_tallyFitting_33 : decode cX4_tallyFitting 33 = .ok (.getfield 26, 3) := by decide +kernel
theorem dX4_tallyFitting_36 : decode cX4_tallyFitting 36 = .ok (.lload_n 3, 1) := by decide +kernel
theorem dX4_tallyFitting_37 : decode cX4_tallyFitting 37 = .ok (.invokevirtual 152, 3) := by decide +kernel
theorem dX4_tallyFitting_40 : decode cX4_tallyFitting 40 = .ok (.ifCond .eq 11, 3) := by decide +kernel
theorem dX4_tallyFitting_43 : decode cX4_tallyFitting 43 = .ok (.iinc 1 1, 3) := by decide +kernel
theorem dX4_tallyFitting_46 : decode cX4_tallyFitting 46 = .ok (.aload_n 0, 1) := by decide +kernel
theorem dX4_tallyFitting_47 : decode cX4_tallyFitting 47 = .ok (.lload_n 3, 1) := by decide +kernel
theorem dX4_tallyFitting_48 : decode cX4_tallyFitting 48 = .ok (.invokevirtual 204, 3) := by decide +kernel
theorem dX4_tallyFitting_51 : decode cX4_tallyFitting 51 = .ok (.iinc 2 1, 3) := by decide +kernel
theorem dX4_tallyFitting_54 : decode cX4_tallyFitting 54 = .ok (.goto (-42), 3) := by decide +kernel
theorem dX4_tallyFitting_57 : decode cX4_tallyFitting 57 = .ok (.iload_n 1, 1) := by decide +kernel
theorem dX4_tallyFitting_58 : decode cX4_tallyFitting 58 = .ok (.ireturn, 1) := by decide +kernel
set_option maxRecDepth 20000 in
theorem ggX4_tallyLetters_X3_letterAt : GoodIn wsX4_tallyLetters wsX3_letterAt := goodIn_r _ [5, 6, 7, 4, 8] (by decide +kernel) (by decide +kernel)
set_option maxRecDepth 20000 in
theorem gX4_tallyLetters_X3_letterAt : GoodIn wsX4_tallyLetters (va_wsS RX4 189 yX3_letterAt wsX3_letterAt) := goodIn_app (goodIn_of _ (by decide +kernel)) ggX4_tallyLetters_X3_letterAt
set_option maxRecDepth 20000 in
theorem ggX4_tallyLetters_X3_isLetter : GoodIn wsX4_tallyLetters wsX3_isLetter := goodIn_r _ [11] (by decide +kernel) (by decide +kernel)
set_option maxRecDepth 20000 in
theorem gX4_tallyLetters_X3_isLetter : GoodIn wsX4_tallyLetters (va_wsS RX4 44 yX3_isLetter wsX3_isLetter) := goodIn_app (goodIn_of _ (by decide +kernel)) ggX4_tallyLetters_X3_isLetter
theorem dX4_tallyLetters_0 : decode cX4_tallyLetters 0 = .ok (.iconst 0, 1) := by decide +kernel
theorem dX4_tallyLetters_1 : decode cX4_tallyLetters 1 = .ok (.istore_n 3, 1) := by decide +kernel
theorem dX4_tallyLetters_2 : decode cX4_tallyLetters 2 = .ok (.iload_n 3, 1) := by decide +kernel
theorem dX4_tallyLetters_3 : decode cX4_tallyLetters 3 = .ok (.bipush 7, 2) := by decide +kernel
theorem dX4_tallyLetters_5 : decode cX4_tallyLetters 5 = .ok (.if_icmp .ge 43, 3) := by decide +kernel
theorem dX4_tallyLetters_8 : decode cX4_tallyLetters 8 = .ok (.lload_n 1, 1) := by decide +kernel
theorem dX4_tallyLetters_9 : decode cX4_tallyLetters 9 = .ok (.iload_n 3, 1) := by decide +kernel
theorem dX4_tallyLetters_10 : decode cX4_tallyLetters 10 = .ok (.invokestatic 189, 3) := by decide +kernel
theorem dX4_tallyLetters_13 : decode cX4_tallyLetters 13 = .ok (.istore 4, 2) := by decide +kernel
theorem dX4_tallyLetters_15 : decode cX4_tallyLetters 15 = .ok (.iload 4, 2) := by decide +kernel
theorem dX4_tallyLetters_17 : decode cX4_tallyLetters 17 = .ok (.invokestatic 44, 3) := by decide +kernel
theorem dX4_tallyLetters_20 : decode cX4_tallyLetters 20 = .ok (.ifCond .eq 22, 3) := by decide +kernel
theorem dX4_tallyLetters_23 : decode cX4_tallyLetters 23 = .ok (.aload_n 0, 1) := by decide +kernel
theorem dX4_tallyLetters_24 : decode cX4_tallyLetters 24 = .ok (.getfield 30, 3) := by decide +kernel
theorem dX4_tallyLetters_27 : decode cX4_tallyLetters 27 = .ok (.iload_n 3, 1) := by decide +kernel
theorem dX4_tallyLetters_28 : decode cX4_tallyLetters 28 = .ok (.bipush 26, 2) := by decide +kernel
theorem dX4_tallyLetters_30 : decode cX4_tallyLetters 30 = .ok (.imul, 1) := by decide +kernel
theorem dX4_tallyLetters_31 : decode cX4_tallyLetters 31 = .ok (.iload 4, 2) := by decide +kernel
theorem dX4_tallyLetters_33 : decode cX4_tallyLetters 33 = .ok (.iadd, 1) := by decide +kernel
theorem dX4_tallyLetters_34 : decode cX4_tallyLetters 34 = .ok (.bipush 97, 2) := by decide +kernel
theorem dX4_tallyLetters_36 : decode cX4_tallyLetters 36 = .ok (.isub, 1) := by decide +kernel
theorem dX4_tallyLetters_37 : decode cX4_tallyLetters 37 = .ok (.dup2, 1) := by decide +kernel
theorem dX4_tallyLetters_38 : decode cX4_tallyLetters 38 = .ok (.iaload, 1) := by decide +kernel
theorem dX4_tallyLetters_39 : decode cX4_tallyLetters 39 = .ok (.iconst 1, 1) := by decide +kernel
theorem dX4_tallyLetters_40 : decode cX4_tallyLetters 40 = .ok (.iadd, 1) := by decide +kernel
theorem dX4_tallyLetters_41 : decode cX4_tallyLetters 41 = .ok (.iastore, 1) := by decide +kernel
theorem dX4_tallyLetters_42 : decode cX4_tallyLetters 42 = .ok (.iinc 3 1, 3) := by decide +kernel
theorem dX4_tallyLetters_45 : decode cX4_tallyLetters 45 = .ok (.goto (-43), 3) := by decide +kernel
theorem dX4_tallyLetters_48 : decode cX4_tallyLetters 48 = .ok (.return_, 1) := by decide +kernel
