set_option maxRecDepth 20000 in
theorem ggX4_init_X0_init : GoodIn wsX4_init wsX0_init := goodIn_r _ [21, 22, 2, 3, 23, 24, 25, 62, 63] (by decide +kernel) (by decide +kernel)
set_option maxRecDepth 20000 in
theorem gX4_init_X0_init_n9 : GoodIn wsX4_init (wsX0_init) := ggX4_init_X0_init
set_option maxRecDepth 20000 in
theorem ggX4_init_X1_init : GoodIn wsX4_init wsX1_init := goodIn_r _ [27, 28, 2, 3, 23, 29, 30, 31, 68, 69, 70] (by decide +kernel) (by decide +kernel)
set_option maxRecDepth 20000 in
theorem gX4_init_X1_init_n18 : GoodIn wsX4_init (wsX1_init) := ggX4_init_X1_init
set_option maxRecDepth 20000 in
theorem ggX4_init_X3_init : GoodIn wsX4_init wsX3_init := goodIn_r _ [33, 34, 2, 3, 23, 35, 36, 37, 38, 39, 40, 71, 72, 73, 74, 75, 76] (by decide +kernel) (by decide +kernel)
set_option maxRecDepth 20000 in
theorem gX4_init_X3_init_n25 : GoodIn wsX4_init (wsX3_init) := ggX4_init_X3_init
set_option maxRecDepth 20000 in
theorem ggX4_init_X2_init : GoodIn wsX4_init wsX2_init := goodIn_r _ [42, 43, 2, 3, 44, 23, 45, 46, 47, 48, 49, 50, 51, 52, 53, 54, 55, 56, 57, 58, 59, 60, 61, 77, 78, 79, 80, 81, 82, 83, 84, 85, 86, 87, 88, 89, 90, 91, 92, 93] (by decide +kernel) (by decide +kernel)
set_option maxRecDepth 20000 in
theorem gX4_init_X2_init_n32 : GoodIn wsX4_init (wsX2_init) := ggX4_init_X2_init
theorem dX4_init_0 : decode cX4_init 0 = .ok (.aload_n 0, 1) := by decide +kernel
theorem dX4_init_1 : decode cX4_init 1 = .ok (.invokespecial 1, 3) := by decide +kernel
theorem dX4_init_4 : decode cX4_init 4 = .ok (.aload_n 0, 1) := by decide +kernel
theorem dX4_init_5 : decode cX4_init 5 = .ok (.new 7, 3) := by decide +kernel
theorem dX4_init_8 : decode cX4_init 8 = .ok (.dup, 1) := by decide +kernel
theorem dX4_init_9 : decode cX4_init 9 = .ok (.invokespecial 9, 3) := by decide +kernel
theorem dX4_init_12 : decode cX4_init 12 = .ok (.putfield 10, 3) := by decide +kernel
theorem dX4_init_15 : decode cX4_init 15 = .ok (.aload_n 0, 1) := by decide +kernel
theorem dX4_init_16 : decode cX4_init 16 = .ok (.new 16, 3) := by decide +kernel
theorem dX4_init_19 : decode cX4_init 19 = .ok (.dup, 1) := by decide +kernel
theorem dX4_init_20 : decode cX4_init 20 = .ok (.invokespecial 18, 3) := by decide +kernel
theorem dX4_init_23 : decode cX4_init 23 = .ok (.putfield 19, 3) := by decide +kernel
theorem dX4_init_26 : decode cX4_init 26 = .ok (.aload_n 0, 1) := by decide +kernel
theorem dX4_init_27 : decode cX4_init 27 = .ok (.new 23, 3) := by decide +kernel
theorem dX4_init_30 : decode cX4_init 30 = .ok (.dup, 1) := by decide +kernel
theorem dX4_init_31 : decode cX4_init 31 = .ok (.invokespecial 25, 3) := by decide +kernel
theorem dX4_init_34 : decode cX4_init 34 = .ok (.putfield 26, 3) := by decide +kernel
theorem dX4_init_37 : decode cX4_init 37 = .ok (.aload_n 0, 1) := by decide +kernel
theorem dX4_init_38 : decode cX4_init 38 = .ok (.new 30, 3) := by decide +kernel
theorem dX4_init_41 : decode cX4_init 41 = .ok (.dup, 1) := by decide +kernel
theorem dX4_init_42 : decode cX4_init 42 = .ok (.invokespecial 32, 3) := by decide +kernel
theorem dX4_init_45 : decode cX4_init 45 = .ok (.putfield 33, 3) := by decide +kernel
theorem dX4_init_48 : decode cX4_init 48 = .ok (.return_, 1) := by decide +kernel
set_option maxRecDepth 20000 in
theorem ggX4_add_X4_isSquare : GoodIn wsX4_add wsX4_isSquare := goodIn_r _ [10] (by decide +kernel) (by decide +kernel)
set_option maxRecDepth 20000 in
theorem gX4_add_X4_isSquare : GoodIn wsX4_add (va_wsS RX4 37 yX4_isSquare wsX4_isSquare) := goodIn_app (goodIn_of _ (by decide +kernel)) ggX4_add_X4_isSquare
set_option maxRecDepth 20000 in
theorem ggX4_add_X4_isSize : GoodIn wsX4_add wsX4_isSize := goodIn_r _ [13] (by decide +kernel) (by decide +kernel)
set_option maxRecDepth 20000 in
theorem gX4_add_X4_isSize : GoodIn wsX4_add (va_wsS RX4 41 yX4_isSize wsX4_isSize) := goodIn_app (goodIn_of _ (by decide +kernel)) ggX4_add_X4_isSize
set_option maxRecDepth 20000 in
theorem ggX4_add_X4_isWeight : GoodIn wsX4_add wsX4_isWeight := goodIn_r _ [16] (by decide +kernel) (by decide +kernel)
set_option maxRecDepth 20000 in
theorem gX4_add_X4_isWeight : GoodIn wsX4_add (va_wsS RX4 44 yX4_isWeight wsX4_isWeight) := goodIn_app (goodIn_of _ (by decide +kernel)) ggX4_add_X4_isWeight
set_option maxRecDepth 20000 in
theorem ggX4_add_X0_takesPointOn : GoodIn wsX4_add wsX0_takesPointOn := goodIn_r _ [21, 22, 23, 24, 25, 20, 26, 27, 74, 75] (by decide +kernel) (by decide +kernel)
set_option maxRecDepth 20000 in
theorem gX4_add_X0_takesPointOn : GoodIn wsX4_add (wsV RX4 55 RX0 yX0_takesPointOn wsX0_takesPointOn) := goodIn_app (goodIn_of _ (by decide +kernel)) ggX4_add_X0_takesPointOn
set_option maxRecDepth 20000 in
theorem ggX4_add_X1_save : GoodIn wsX4_add wsX1_save := goodIn_r _ [32, 33, 34, 35, 36, 37, 38, 39, 40, 41, 42, 43, 44, 31, 45, 76, 77, 78, 74, 75] (by decide +kernel) (by decide +kernel)
set_option maxRecDepth 20000 in
theorem gX4_add_X1_save : GoodIn wsX4_add (wsV RX4 63 RX1 yX1_save wsX1_save) := goodIn_app (goodIn_of _ (by decide +kernel)) ggX4_add_X1_save
set_option maxRecDepth 20000 in
theorem ggX4_add_X0_insert : GoodIn wsX4_add wsX0_insert := goodIn_r _ [49, 27, 22, 50, 51, 52, 20, 53, 54, 55, 56, 57, 58, 59, 60, 61, 62, 63, 64, 65, 66, 67, 68, 69, 74, 75] (by decide +kernel) (by decide +kernel)
set_option maxRecDepth 20000 in
theorem gX4_add_X0_insert : GoodIn wsX4_add (wsV RX4 67 RX0 yX0_insert wsX0_insert) := goodIn_app (goodIn_of _ (by decide +kernel)) ggX4_add_X0_insert
theorem dX4_add_0 : decode cX4_add 0 = .ok (.iload_n 1, 1) := by decide +kernel
theorem dX4_add_1 : decode cX4_add 1 = .ok (.iload_n 2, 1) := by decide +kernel
theorem dX4_add_2 : decode cX4_add 2 = .ok (.invokestatic 37, 3) := by decide +kernel
theorem dX4_add_5 : decode cX4_add 5 = .ok (.ifCond .eq 20, 3) := by decide +kernel
theorem dX4_add_8 : decode cX4_add 8 = .ok (.iload_n 3, 1) := by decide +kernel
theorem dX4_add_9 : decode cX4_add 9 = .ok (.iload 4, 2) := by decide +kernel
theorem dX4_add_11 : decode cX4_add 11 = .ok (.invokestatic 41, 3) := by decide +kernel
theorem dX4_add_14 : decode cX4_add 14 = .ok (.ifCond .eq 11, 3) := by decide +kernel
theorem dX4_add_17 : decode cX4_add 17 = .ok (.iload 5, 2) := by decide +kernel
theorem dX4_add_19 : decode cX4_add 19 = .ok (.invokestatic 44, 3) := by decide +kernel
theorem dX4_add_22 : decode cX4_add 22 = .ok (.ifCond .ne 13, 3) := by decide +kernel
theorem dX4_add_25 : decode cX4_add 25 = .ok (.new 48, 3) := by decide +kernel
theorem dX4_add_28 : decode cX4_add 28 = .ok (.dup, 1) := by decide +kernel
theorem dX4_add_29 : decode cX4_add 29 = .ok (.ldc 50, 2) := by decide +kernel
theorem dX4_add_31 : decode cX4_add 31 = .ok (.invokespecial 52, 3) := by decide +kernel
theorem dX4_add_34 : decode cX4_add 34 = .ok (.athrow, 1) := by decide +kernel
theorem dX4_add_35 : decode cX4_add 35 = .ok (.aload_n 0, 1) := by decide +kernel
theorem dX4_add_36 : decode cX4_add 36 = .ok (.getfield 10, 3) := by decide +kernel
theorem dX4_add_39 : decode cX4_add 39 = .ok (.iload_n 1, 1) := by decide +kernel
theorem dX4_add_40 : decode cX4_add 40 = .ok (.iload_n 2, 1) := by decide +kernel
theorem dX4_add_41 : decode cX4_add 41 = .ok (.invokevirtual 55, 3) := by decide +kernel
theorem dX4_add_44 : decode cX4_add 44 = .ok (.ifCond .ne 13, 3) := by decide +kernel
theorem dX4_add_47 : decode cX4_add 47 = .ok (.new 58, 3) := by decide +kernel
theorem dX4_add_50 : decode cX4_add 50 = .ok (.dup, 1) := by decide +kernel
theorem dX4_add_51 : decode cX4_add 51 = .ok (.ldc 60, 2) := by decide +kernel
theorem dX4_add_53 : decode cX4_add 53 = .ok (.invokespecial 62, 3) := by decide +kernel
theorem dX4_add_56 : decode cX4_add 56 = .ok (.athrow, 1) := by decide +kernel
theorem dX4_add_57 : decode cX4_add 57 = .ok (.aload_n 0, 1) := by decide +kernel
theorem dX4_add_58 : decode cX4_add 58 = .ok (.getfield 19, 3) := by decide +kernel
theorem dX4_add_61 : decode cX4_add 61 = .ok (.aload_n 0, 1) := by decide +kernel
theorem dX4_add_62 : decode cX4_add 62 = .ok (.getfield 10, 3) := by decide +kernel
theorem dX4_add_65 : decode cX4_add 65 = .ok (.invokevirtual 63, 3) := by decide +kernel
theorem dX4_add_68 : decode cX4_add 68 = .ok (.aload_n 0, 1) := by decide +kernel
theorem dX4_add_69 : decode cX4_add 69 = .ok (.getfield 10, 3) := by decide +kernel
theorem dX4_add_72 : decode cX4_add 72 = .ok (.iload_n 1, 1) := by decide +kernel
theorem dX4_add_73 : decode cX4_add 73 = .ok (.iload_n 2, 1) := by decide +kernel
theorem dX4_add_74 : decode cX4_add 74 = .ok (.iload_n 3, 1) := by decide +kernel
theorem dX4_add_75 : decode cX4_add 75 = .ok (.iload 4, 2) := by decide +kernel
theorem dX4_add_77 : decode cX4_add 77 = .ok (.iload 5, 2) := by decide +kernel
theorem dX4_add_79 : decode cX4_add 79 = .ok (.invokevirtual 67, 3) := by decide +kernel
theorem dX4_add_82 : decode cX4_add 82 = .ok (.ireturn, 1) := by decide +kernel
set_option maxRecDepth 20000 in
theorem ggX4_remove_X0_has : GoodIn wsX4_remove wsX0_has := goodIn_r _ [9, 10, 65, 66] (by decide +kernel) (by decide +kernel)
set_option maxRecDepth 20000 in
theorem gX4_remove_X0_has : GoodIn wsX4_remove (wsV RX4 71 RX0 yX0_has wsX0_has) := goodIn_app (goodIn_of _ (by decide +kernel)) ggX4_remove_X0_has
set_option maxRecDepth 20000 in
theorem ggX4_remove_X1_save : GoodIn wsX4_remove wsX1_save := goodIn_r _ [15, 16, 17, 18, 19, 20, 21, 22, 23, 24, 25, 26, 27, 14, 28, 67, 68, 69, 65, 66] (by decide +kernel) (by decide +kernel)
set_option maxRecDepth 20000 in
theorem gX4_remove_X1_save : GoodIn wsX4_remove (wsV RX4 63 RX1 yX1_save wsX1_save) := goodIn_app (goodIn_of _ (by decide +kernel)) ggX4_remove_X1_save
set_option maxRecDepth 20000 in
theorem ggX4_remove_X0_openCornersBeside : GoodIn wsX4_remove wsX0_openCornersBeside := goodIn_r _ [32, 10, 33, 34, 35, 8, 36, 37, 38, 39, 40, 41, 42, 43, 44, 45, 46, 47, 48, 49, 50, 51, 52, 53, 54, 55, 56, 65, 66] (by decide +kernel) (by decide +kernel)
set_option maxRecDepth 20000 in
theorem gX4_remove_X0_openCornersBeside : GoodIn wsX4_remove (wsV RX4 79 RX0 yX0_openCornersBeside wsX0_openCornersBeside) := goodIn_app (goodIn_of _ (by decide +kernel)) ggX4_remove_X0_openCornersBeside
set_option maxRecDepth 20000 in
theorem ggX4_remove_X0_takeOut : GoodIn wsX4_remove wsX0_takeOut := goodIn_r _ [60, 10, 41, 65, 66] (by decide +kernel) (by decide +kernel)
set_option maxRecDepth 20000 in
theorem gX4_remove_X0_takeOut : GoodIn wsX4_remove (wsV RX4 83 RX0 yX0_takeOut wsX0_takeOut) := goodIn_app (goodIn_of _ (by decide +kernel)) ggX4_remove_X0_takeOut
theorem dX4_remove_0 : decode cX4_remove 0 = .ok (.aload_n 0, 1) := by decide +kernel
theorem dX4_remove_1 : decode cX4_remove 1 = .ok (.getfield 10, 3) := by decide +kernel
theorem dX4_remove_4 : decode cX4_remove 4 = .ok (.iload_n 1, 1) := by decide +kernel
theorem dX4_remove_5 : decode cX4_remove 5 = .ok (.invokevirtual 71, 3) := by decide +kernel
theorem dX4_remove_8 : decode cX4_remove 8 = .ok (.ifCond .ne 13, 3) := by decide +kernel
theorem dX4_remove_11 : decode cX4_remove 11 = .ok (.new 74, 3) := by decide +kernel
theorem dX4_remove_14 : decode cX4_remove 14 = .ok (.dup, 1) := by decide +kernel
theorem dX4_remove_15 : decode cX4_remove 15 = .ok (.ldc 76, 2) := by decide +kernel
theorem dX4_remove_17 : decode cX4_remove 17 = .ok (.invokespecial 78, 3) := by decide +kernel
theorem dX4_remove_20 : decode cX4_remove 20 = .ok (.athrow, 1) := by decide +kernel
theorem dX4_remove_21 : decode cX4_remove 21 = .ok (.aload_n 0, 1) := by decide +kernel
theorem dX4_remove_22 : decode cX4_remove 22 = .ok (.getfield 19, 3) := by decide +kernel
theorem dX4_remove_25 : decode cX4_remove 25 = .ok (.aload_n 0, 1) := by decide +kernel
theorem dX4_remove_26 : decode cX4_remove 26 = .ok (.getfield 10, 3) := by decide +kernel
theorem dX4_remove_29 : decode cX4_remove 29 = .ok (.invokevirtual 63, 3) := by decide +kernel
theorem dX4_remove_32 : decode cX4_remove 32 = .ok (.aload_n 0, 1) := by decide +kernel
theorem dX4_remove_33 : decode cX4_remove 33 = .ok (.getfield 10, 3) := by decide +kernel
theorem dX4_remove_36 : decode cX4_remove 36 = .ok (.iload_n 1, 1) := by decide +kernel
theorem dX4_remove_37 : decode cX4_remove 37 = .ok (.invokevirtual 79, 3) := by decide +kernel
theorem dX4_remove_40 : decode cX4_remove 40 = .ok (.istore_n 2, 1) := by decide +kernel
theorem dX4_remove_41 : decode cX4_remove 41 = .ok (.aload_n 0, 1) := by decide +kernel
theorem dX4_remove_42 : decode cX4_remove 42 = .ok (.getfield 10, 3) := by decide +kernel
theorem dX4_remove_45 : decode cX4_remove 45 = .ok (.iload_n 1, 1) := by decide +kernel
theorem dX4_remove_46 : decode cX4_remove 46 = .ok (.invokevirtual 83, 3) := by decide +kernel
theorem dX4_remove_49 : decode cX4_remove 49 = .ok (.aload_n 0, 1) := by decide +kernel
theorem dX4_remove_50 : decode cX4_remove 50 = .ok (.getfield 10, 3) := by decide +kernel
theorem dX4_remove_53 : decode cX4_remove 53 = .ok (.iconst (-1), 1) := by decide +kernel
theorem dX4_remove_54 : decode cX4_remove 54 = .ok (.invokevirtual 79, 3) := by decide +kernel
theorem dX4_remove_57 : decode cX4_remove 57 = .ok (.iload_n 2, 1) := by decide +kernel
theorem dX4_remove_58 : decode cX4_remove 58 = .ok (.isub, 1) := by decide +kernel
theorem dX4_remove_59 : decode cX4_remove 59 = .ok (.ireturn, 1) := by decide +kernel
set_option maxRecDepth 20000 in
theorem ggX4_weigh_X0_has : GoodIn wsX4_weigh wsX0_has := goodIn_r _ [12, 13, 40, 41] (by decide +kernel) (by decide +kernel)
set_option maxRecDepth 20000 in
theorem gX4_weigh_X0_has : GoodIn wsX4_weigh (wsV RX4 71 RX0 yX0_has wsX0_has) := goodIn_app (goodIn_of _ (by decide +kernel)) ggX4_weigh_X0_has
set_option maxRecDepth 20000 in
theorem ggX4_weigh_X4_isWeight : GoodIn wsX4_weigh wsX4_isWeight := goodIn_r _ [17] (by decide +kernel) (by decide +kernel)
set_option maxRecDepth 20000 in
theorem gX4_weigh_X4_isWeight : GoodIn wsX4_weigh (va_wsS RX4 44 yX4_isWeight wsX4_isWeight) := goodIn_app (goodIn_of _ (by decide +kernel)) ggX4_weigh_X4_isWeight
set_option maxRecDepth 20000 in
theorem ggX4_weigh_X1_save : GoodIn wsX4_weigh wsX1_save := goodIn_r _ [22, 23, 24, 25, 26, 27, 28, 29, 30, 31, 32, 33, 34, 21, 35, 42, 43, 44, 40, 41] (by decide +kernel) (by decide +kernel)
set_option maxRecDepth 20000 in
theorem gX4_weigh_X1_save : GoodIn wsX4_weigh (wsV RX4 63 RX1 yX1_save wsX1_save) := goodIn_app (goodIn_of _ (by decide +kernel)) ggX4_weigh_X1_save
theorem dX4_weigh_0 : decode cX4_weigh 0 = .ok (.aload_n 0, 1) := by decide +kernel
theorem dX4_weigh_1 : decode cX4_weigh 1 = .ok (.getfield 10, 3) := by decide +kernel
theorem dX4_weigh_4 : decode cX4_weigh 4 = .ok (.iload_n 1, 1) := by decide +kernel
theorem dX4_weigh_5 : decode cX4_weigh 5 = .ok (.invokevirtual 71, 3) := by decide +kernel
theorem dX4_weigh_8 : decode cX4_weigh 8 = .ok (.ifCond .ne 13, 3) := by decide +kernel
theorem dX4_weigh_11 : decode cX4_weigh 11 = .ok (.new 74, 3) := by decide +kernel
theorem dX4_weigh_14 : decode cX4_weigh 14 = .ok (.dup, 1) := by decide +kernel
theorem dX4_weigh_15 : decode cX4_weigh 15 = .ok (.ldc 76, 2) := by decide +kernel
theorem dX4_weigh_17 : decode cX4_weigh 17 = .ok (.invokespecial 78, 3) := by decide +kernel
theorem dX4_weigh_20 : decode cX4_weigh 20 = .ok (.athrow, 1) := by decide +kernel
theorem dX4_weigh_21 : decode cX4_weigh 21 = .ok (.iload_n 2, 1) := by decide +kernel
theorem dX4_weigh_22 : decode cX4_weigh 22 = .ok (.invokestatic 44, 3) := by decide +kernel
theorem dX4_weigh_25 : decode cX4_weigh 25 = .ok (.ifCond .ne 13, 3) := by decide +kernel
theorem dX4_weigh_28 : decode cX4_weigh 28 = .ok (.new 48, 3) := by decide +kernel
theorem dX4_weigh_31 : decode cX4_weigh 31 = .ok (.dup, 1) := by decide +kernel
theorem dX4_weigh_32 : decode cX4_weigh 32 = .ok (.ldc 87, 2) := by decide +kernel
theorem dX4_weigh_34 : decode cX4_weigh 34 = .ok (.invokespecial 52, 3) := by decide +kernel
theorem dX4_weigh_37 : decode cX4_weigh 37 = .ok (.athrow, 1) := by decide +kernel
theorem dX4_weigh_38 : decode cX4_weigh 38 = .ok (.aload_n 0, 1) := by decide +kernel
theorem dX4_weigh_39 : decode cX4_weigh 39 = .ok (.getfield 19, 3) := by decide +kernel
theorem dX4_weigh_42 : decode cX4_weigh 42 = .ok (.aload_n 0, 1) := by decide +kernel
theorem dX4_weigh_43 : decode cX4_weigh 43 = .ok (.getfield 10, 3) := by decide +kernel
theorem dX4_weigh_46 : decode cX4_weigh 46 = .ok (.invokevirtual 63, 3) := by decide +kernel
theorem dX4_weigh_49 : decode cX4_weigh 49 = .ok (.aload_n 0, 1) := by decide +kernel
theorem dX4_weigh_50 : decode cX4_weigh 50 = .ok (.getfield 10, 3) := by decide +kernel
theorem dX4_weigh_53 : decode cX4_weigh 53 = .ok (.getfield 89, 3) := by decide +kernel
theorem dX4_weigh_56 : decode cX4_weigh 56 = .ok (.bipush 32, 2) := by decide +kernel
theorem dX4_weigh_58 : decode cX4_weigh 58 = .ok (.iload_n 1, 1) := by decide +kernel
theorem dX4_weigh_59 : decode cX4_weigh 59 = .ok (.iadd, 1) := by decide +kernel
theorem dX4_weigh_60 : decode cX4_weigh 60 = .ok (.iaload, 1) := by decide +kernel
theorem dX4_weigh_61 : decode cX4_weigh 61 = .ok (.istore_n 3, 1) := by decide +kernel
theorem dX4_weigh_62 : decode cX4_weigh 62 = .ok (.aload_n 0, 1) := by decide +kernel
theorem dX4_weigh_63 : decode cX4_weigh 63 = .ok (.getfield 10, 3) := by decide +kernel
theorem dX4_weigh_66 : decode cX4_weigh 66 = .ok (.getfield 89, 3) := by decide +kernel
theorem dX4_weigh_69 : decode cX4_weigh 69 = .ok (.bipush 32, 2) := by decide +kernel
theorem dX4_weigh_71 : decode cX4_weigh 71 = .ok (.iload_n 1, 1) := by decide +kernel
theorem dX4_weigh_72 : decode cX4_weigh 72 = .ok (.iadd, 1) := by decide +kernel
theorem dX4_weigh_73 : decode cX4_weigh 73 = .ok (.iload_n 2, 1) := by decide +kernel
theorem dX4_weigh_74 : decode cX4_weigh 74 = .ok (.iastore, 1) := by decide +kernel
theorem dX4_weigh_75 : decode cX4_weigh 75 = .ok (.iload_n 3, 1) := by decide +kernel
theorem dX4_weigh_76 : decode cX4_weigh 76 = .ok (.ireturn, 1) := by decide +kernel
set_option maxRecDepth 20000 in
theorem ggX4_resize_X0_has : GoodIn wsX4_resize wsX0_has := goodIn_r _ [12, 13, 64, 65] (by decide +kernel) (by decide +kernel)
set_option maxRecDepth 20000 in
theorem gX4_resize_X0_has : GoodIn wsX4_resize (wsV RX4 71 RX0 yX0_has wsX0_has) := goodIn_app (goodIn_of _ (by decide +kernel)) ggX4_resize_X0_has
set_option maxRecDepth 20000 in
theorem ggX4_resize_X4_isSize : GoodIn wsX4_resize wsX4_isSize := goodIn_r _ [17] (by decide +kernel) (by decide +kernel)
set_option maxRecDepth 20000 in
theorem gX4_resize_X4_isSize : GoodIn wsX4_resize (va_wsS RX4 41 yX4_isSize wsX4_isSize) := goodIn_app (goodIn_of _ (by decide +kernel)) ggX4_resize_X4_isSize
set_option maxRecDepth 20000 in
theorem ggX4_resize_X1_save : GoodIn wsX4_resize wsX1_save := goodIn_r _ [22, 23, 24, 25, 26, 27, 28, 29, 30, 31, 32, 33, 34, 21, 35, 66, 67, 68, 64, 65] (by decide +kernel) (by decide +kernel)
set_option maxRecDepth 20000 in
theorem gX4_resize_X1_save : GoodIn wsX4_resize (wsV RX4 63 RX1 yX1_save wsX1_save) := goodIn_app (goodIn_of _ (by decide +kernel)) ggX4_resize_X1_save
set_option maxRecDepth 20000 in
theorem ggX4_resize_X0_openMask : GoodIn wsX4_resize wsX0_openMask := goodIn_r _ [39, 40, 41, 42, 11, 43, 44, 13, 45, 46, 47, 48, 49, 50, 51, 52, 64, 65] (by decide +kernel) (by decide +kernel)
set_option maxRecDepth 20000 in
theorem gX4_resize_X0_openMask : GoodIn wsX4_resize (wsV RX4 95 RX0 yX0_openMask wsX0_openMask) := goodIn_app (goodIn_of _ (by decide +kernel)) ggX4_resize_X0_openMask
set_option maxRecDepth 20000 in
theorem ggX4_resize_J6_bitCount_0f7a4 : GoodIn wsX4_resize wsJ6_bitCount_0f7a4 := goodIn_r _ [56, 57, 58, 59] (by decide +kernel) (by decide +kernel)
set_option maxRecDepth 20000 in
theorem gX4_resize_J6_bitCount_0f7a4 : GoodIn wsX4_resize (va_wsS RX4 98 yJ6_bitCount_0f7a4 wsJ6_bitCount_0f7a4) := goodIn_app (goodIn_of _ (by decide +kernel)) ggX4_resize_J6_bitCount_0f7a4
theorem dX4_resize_0 : decode cX4_resize 0 = .ok (.aload_n 0, 1) := by decide +kernel
theorem dX4_resize_1 : decode cX4_resize 1 = .ok (.getfield 10, 3) := by decide +kernel
theorem dX4_resize_4 : decode cX4_resize 4 = .ok (.iload_n 1, 1) := by decide +kernel
theorem dX4_resize_5 : decode cX4_resize 5 = .ok (.invokevirtual 71, 3) := by decide +kernel
theorem dX4_resize_8 : decode cX4_resize 8 = .ok (.ifCond .ne 13, 3) := by decide +kernel
theorem dX4_resize_11 : decode cX4_resize 11 = .ok (.new 74, 3) := by decide +kernel
theorem dX4_resize_14 : decode cX4_resize 14 = .ok (.dup, 1) := by decide +kernel
theorem dX4_resize_15 : decode cX4_resize 15 = .ok (.ldc 76, 2) := by decide +kernel
theorem dX4_resize_17 : decode cX4_resize 17 = .ok (.invokespecial 78, 3) := by decide +kernel
theorem dX4_resize_20 : decode cX4_resize 20 = .ok (.athrow, 1) := by decide +kernel
theorem dX4_resize_21 : decode cX4_resize 21 = .ok (.iload_n 2, 1) := by decide +kernel
theorem dX4_resize_22 : decode cX4_resize 22 = .ok (.iload_n 3, 1) := by decide +kernel
theorem dX4_resize_23 : decode cX4_resize 23 = .ok (.invokestatic 41, 3) := by decide +kernel
theorem dX4_resize_26 : decode cX4_resize 26 = .ok (.ifCond .ne 13, 3) := by decide +kernel
theorem dX4_resize_29 : decode cX4_resize 29 = .ok (.new 48, 3) := by decide +kernel
theorem dX4_resize_32 : decode cX4_resize 32 = .ok (.dup, 1) := by decide +kernel
theorem dX4_resize_33 : decode cX4_resize 33 = .ok (.ldc 93, 2) := by decide +kernel
theorem dX4_resize_35 : decode cX4_resize 35 = .ok (.invokespecial 52, 3) := by decide +kernel
theorem dX4_resize_38 : decode cX4_resize 38 = .ok (.athrow, 1) := by decide +kernel
theorem dX4_resize_39 : decode cX4_resize 39 = .ok (.aload_n 0, 1) := by decide +kernel
theorem dX4_resize_40 : decode cX4_resize 40 = .ok (.getfield 19, 3) := by decide +kernel
theorem dX4_resize_43 : decode cX4_resize 43 = .ok (.aload_n 0, 1) := by decide +kernel
theorem dX4_resize_44 : decode cX4_resize 44 = .ok (.getfield 10, 3) := by decide +kernel
theorem dX4_resize_47 : decode cX4_resize 47 = .ok (.invokevirtual 63, 3) := by decide +kernel
theorem dX4_resize_50 : decode cX4_resize 50 = .ok (.aload_n 0, 1) := by decide +kernel
theorem dX4_resize_51 : decode cX4_resize 51 = .ok (.getfield 10, 3) := by decide +kernel
theorem dX4_resize_54 : decode cX4_resize 54 = .ok (.getfield 89, 3) := by decide +kernel
theorem dX4_resize_57 : decode cX4_resize 57 = .ok (.bipush 16, 2) := by decide +kernel
theorem dX4_resize_59 : decode cX4_resize 59 = .ok (.iload_n 1, 1) := by decide +kernel
theorem dX4_resize_60 : decode cX4_resize 60 = .ok (.iadd, 1) := by decide +kernel
theorem dX4_resize_61 : decode cX4_resize 61 = .ok (.iload_n 2, 1) := by decide +kernel
theorem dX4_resize_62 : decode cX4_resize 62 = .ok (.iastore, 1) := by decide +kernel
theorem dX4_resize_63 : decode cX4_resize 63 = .ok (.aload_n 0, 1) := by decide +kernel
theorem dX4_resize_64 : decode cX4_resize 64 = .ok (.getfield 10, 3) := by decide +kernel
theorem dX4_resize_67 : decode cX4_resize 67 = .ok (.getfield 89, 3) := by decide +kernel
theorem dX4_resize_70 : decode cX4_resize 70 = .ok (.bipush 24, 2) := by decide +kernel
theorem dX4_resize_72 : decode cX4_resize 72 = .ok (.iload_n 1, 1) := by decide +kernel
theorem dX4_resize_73 : decode cX4_resize 73 = .ok (.iadd, 1) := by decide +kernel
theorem dX4_resize_74 : decode cX4_resize 74 = .ok (.iload_n 3, 1) := by decide +kernel
theorem dX4_resize_75 : decode cX4_resize 75 = .ok (.iastore, 1) := by decide +kernel
theorem dX4_resize_76 : decode cX4_resize 76 = .ok (.aload_n 0, 1) := by decide +kernel
theorem dX4_resize_77 : decode cX4_resize 77 = .ok (.getfield 10, 3) := by decide +kernel
theorem dX4_resize_80 : decode cX4_resize 80 = .ok (.getfield 89, 3) := by decide +kernel
theorem dX4_resize_83 : decode cX4_resize 83 = .ok (.bipush 40, 2) := by decide +kernel
theorem dX4_resize_85 : decode cX4_resize 85 = .ok (.iload_n 1, 1) := by decide +kernel
theorem dX4_resize_86 : decode cX4_resize 86 = .ok (.iadd, 1) := by decide +kernel
theorem dX4_resize_87 : decode cX4_resize 87 = .ok (.iconst (-1), 1) := by decide +kernel
theorem dX4_resize_88 : decode cX4_resize 88 = .ok (.iastore, 1) := by decide +kernel
theorem dX4_resize_89 : decode cX4_resize 89 = .ok (.aload_n 0, 1) := by decide +kernel
theorem dX4_resize_90 : decode cX4_resize 90 = .ok (.getfield 10, 3) := by decide +kernel
theorem dX4_resize_93 : decode cX4_resize 93 = .ok (.iload_n 1, 1) := by decide +kernel
theorem dX4_resize_94 : decode cX4_resize 94 = .ok (.invokevirtual 95, 3) := by decide +kernel
theorem dX4_resize_97 : decode cX4_resize 97 = .ok (.invokestatic 98, 3) := by decide +kernel
theorem dX4_resize_100 : decode cX4_resize 100 = .ok (.ireturn, 1) := by decide +kernel
set_option maxRecDepth 20000 in
theorem ggX4_place_X0_has : GoodIn wsX4_place wsX0_has := goodIn_r _ [13, 14, 92, 93] (by decide +kernel) (by decide +kernel)
set_option maxRecDepth 20000 in
theorem gX4_place_X0_has : GoodIn wsX4_place (wsV RX4 71 RX0 yX0_has wsX0_has) := goodIn_app (goodIn_of _ (by decide +kernel)) ggX4_place_X0_has
set_option maxRecDepth 20000 in
theorem ggX4_place_X4_isCorner : GoodIn wsX4_place wsX4_isCorner := goodIn_r _ [18] (by decide +kernel) (by decide +kernel)
set_option maxRecDepth 20000 in
theorem gX4_place_X4_isCorner : GoodIn wsX4_place (va_wsS RX4 103 yX4_isCorner wsX4_isCorner) := goodIn_app (goodIn_of _ (by decide +kernel)) ggX4_place_X4_isCorner
set_option maxRecDepth 20000 in
theorem ggX4_place_X0_freeMask : GoodIn wsX4_place wsX0_freeMask := goodIn_r _ [22, 23, 24, 25, 12, 26, 27, 28, 29, 30, 31, 14, 32, 33, 34, 35, 36, 37, 38, 39, 40, 17, 41, 42, 43, 44, 45, 46, 47, 48, 49, 50, 51, 52, 53, 54, 55, 56, 57, 58, 59, 60, 61, 62, 63, 92, 93] (by decide +kernel) (by decide +kernel)
set_option maxRecDepth 20000 in
theorem gX4_place_X0_freeMask : GoodIn wsX4_place (wsV RX4 108 RX0 yX0_freeMask wsX0_freeMask) := goodIn_app (goodIn_of _ (by decide +kernel)) ggX4_place_X0_freeMask
set_option maxRecDepth 20000 in
theorem ggX4_place_X4_hasBit : GoodIn wsX4_place wsX4_hasBit := goodIn_r _ [41] (by decide +kernel) (by decide +kernel)
set_option maxRecDepth 20000 in
theorem gX4_place_X4_hasBit : GoodIn wsX4_place (va_wsS RX4 111 yX4_hasBit wsX4_hasBit) := goodIn_app (goodIn_of _ (by decide +kernel)) ggX4_place_X4_hasBit
set_option maxRecDepth 20000 in
theorem ggX4_place_X1_save : GoodIn wsX4_place wsX1_save := goodIn_r _ [69, 70, 71, 72, 73, 74, 75, 76, 77, 78, 79, 80, 81, 68, 82, 94, 95, 96, 92, 93] (by decide +kernel) (by decide +kernel)
set_option maxRecDepth 20000 in
theorem gX4_place_X1_save : GoodIn wsX4_place (wsV RX4 63 RX1 yX1_save wsX1_save) := goodIn_app (goodIn_of _ (by decide +kernel)) ggX4_place_X1_save
set_option maxRecDepth 20000 in
theorem ggX4_place_X4_putLabel : GoodIn wsX4_place wsX4_putLabel := goodIn_r _ [86, 7, 87, 88, 89, 90, 91, 92, 93] (by decide +kernel) (by decide +kernel)
set_option maxRecDepth 20000 in
theorem gX4_place_X4_putLabel : GoodIn wsX4_place (wsV RX4 116 RX4 yX4_putLabel wsX4_putLabel) := goodIn_app (goodIn_of _ (by decide +kernel)) ggX4_place_X4_putLabel
theorem dX4_place_0 : decode cX4_place 0 = .ok (.aload_n 0, 1) := by decide +kernel
theorem dX4_place_1 : decode cX4_place 1 = .ok (.getfield 10, 3) := by decide +kernel
theorem dX4_place_4 : decode cX4_place 4 = .ok (.iload_n 1, 1) := by decide +kernel
theorem dX4_place_5 : decode cX4_place 5 = .ok (.invokevirtual 71, 3) := by decide +kernel
theorem dX4_place_8 : decode cX4_place 8 = .ok (.ifCond .ne 13, 3) := by decide +kernel
theorem dX4_place_11 : decode cX4_place 11 = .ok (.new 74, 3) := by decide +kernel
theorem dX4_place_14 : decode cX4_place 14 = .ok (.dup, 1) := by decide +kernel
theorem dX4_place_15 : decode cX4_place 15 = .ok (.ldc 76, 2) := by decide +kernel
theorem dX4_place_17 : decode cX4_place 17 = .ok (.invokespecial 78, 3) := by decide +kernel
theorem dX4_place_20 : decode cX4_place 20 = .ok (.athrow, 1) := by decide +kernel
theorem dX4_place_21 : decode cX4_place 21 = .ok (.iload_n 2, 1) := by decide +kernel
theorem dX4_place_22 : decode cX4_place 22 = .ok (.invokestatic 103, 3) := by decide +kernel
theorem dX4_place_25 : decode cX4_place 25 = .ok (.ifCond .ne 13, 3) := by decide +kernel
theorem dX4_place_28 : decode cX4_place 28 = .ok (.new 48, 3) := by decide +kernel
theorem dX4_place_31 : decode cX4_place 31 = .ok (.dup, 1) := by decide +kernel
theorem dX4_place_32 : decode cX4_place 32 = .ok (.ldc 106, 2) := by decide +kernel
theorem dX4_place_34 : decode cX4_place 34 = .ok (.invokespecial 52, 3) := by decide +kernel
theorem dX4_place_37 : decode cX4_place 37 = .ok (.athrow, 1) := by decide +kernel
theorem dX4_place_38 : decode cX4_place 38 = .ok (.aload_n 0, 1) := by decide +kernel
theorem dX4_place_39 : decode cX4_place 39 = .ok (.getfield 10, 3) := by decide +kernel
theorem dX4_place_42 : decode cX4_place 42 = .ok (.iload_n 1, 1) := by decide +kernel
theorem dX4_place_43 : decode cX4_place 43 = .ok (.invokevirtual 108, 3) := by decide +kernel
theorem dX4_place_46 : decode cX4_place 46 = .ok (.iload_n 2, 1) := by decide +kernel
theorem dX4_place_47 : decode cX4_place 47 = .ok (.invokestatic 111, 3) := by decide +kernel
theorem dX4_place_50 : decode cX4_place 50 = .ok (.ifCond .ne 13, 3) := by decide +kernel
theorem dX4_place_53 : decode cX4_place 53 = .ok (.new 58, 3) := by decide +kernel
theorem dX4_place_56 : decode cX4_place 56 = .ok (.dup, 1) := by decide +kernel
theorem dX4_place_57 : decode cX4_place 57 = .ok (.ldc 114, 2) := by decide +kernel
theorem dX4_place_59 : decode cX4_place 59 = .ok (.invokespecial 62, 3) := by decide +kernel
theorem dX4_place_62 : decode cX4_place 62 = .ok (.athrow, 1) := by decide +kernel
theorem dX4_place_63 : decode cX4_place 63 = .ok (.aload_n 0, 1) := by decide +kernel
theorem dX4_place_64 : decode cX4_place 64 = .ok (.getfield 19, 3) := by decide +kernel
theorem dX4_place_67 : decode cX4_place 67 = .ok (.aload_n 0, 1) := by decide +kernel
theorem dX4_place_68 : decode cX4_place 68 = .ok (.getfield 10, 3) := by decide +kernel
theorem dX4_place_71 : decode cX4_place 71 = .ok (.invokevirtual 63, 3) := by decide +kernel
theorem dX4_place_74 : decode cX4_place 74 = .ok (.aload_n 0, 1) := by decide +kernel
theorem dX4_place_75 : decode cX4_place 75 = .ok (.iload_n 1, 1) := by decide +kernel
theorem dX4_place_76 : decode cX4_place 76 = .ok (.iload_n 2, 1) := by decide +kernel
theorem dX4_place_77 : decode cX4_place 77 = .ok (.invokevirtual 116, 3) := by decide +kernel
theorem dX4_place_80 : decode cX4_place 80 = .ok (.ireturn, 1) := by decide +kernel
set_option maxRecDepth 20000 in
theorem ggX4_drop_X0_has : GoodIn wsX4_drop wsX0_has := goodIn_r _ [9, 10, 39, 40] (by decide +kernel) (by decide +kernel)
set_option maxRecDepth 20000 in
theorem gX4_drop_X0_has : GoodIn wsX4_drop (wsV RX4 71 RX0 yX0_has wsX0_has) := goodIn_app (goodIn_of _ (by decide +kernel)) ggX4_drop_X0_has
set_option maxRecDepth 20000 in
theorem ggX4_drop_X1_save : GoodIn wsX4_drop wsX1_save := goodIn_r _ [15, 16, 17, 18, 19, 20, 21, 22, 23, 24, 25, 26, 27, 14, 28, 41, 42, 43, 39, 40] (by decide +kernel) (by decide +kernel)
set_option maxRecDepth 20000 in
theorem gX4_drop_X1_save : GoodIn wsX4_drop (wsV RX4 63 RX1 yX1_save wsX1_save) := goodIn_app (goodIn_of _ (by decide +kernel)) ggX4_drop_X1_save
set_option maxRecDepth 20000 in
theorem ggX4_drop_X4_putLabel : GoodIn wsX4_drop wsX4_putLabel := goodIn_r _ [33, 3, 34, 35, 36, 37, 38, 39, 40] (by decide +kernel) (by decide +kernel)
set_option maxRecDepth 20000 in
theorem gX4_drop_X4_putLabel : GoodIn wsX4_drop (wsV RX4 116 RX4 yX4_putLabel wsX4_putLabel) := goodIn_app (goodIn_of _ (by decide +kernel)) ggX4_drop_X4_putLabel
theorem dX4_drop_0 : decode cX4_drop 0 = .ok (.aload_n 0, 1) := by decide +kernel
theorem dX4_drop_1 : decode cX4_drop 1 = .ok (.getfield 10, 3) := by decide +kernel
theorem dX4_drop_4 : decode cX4_drop 4 = .ok (.iload_n 1, 1) := by decide +kernel
theorem dX4_drop_5 : decode cX4_drop 5 = .ok (.invokevirtual 71, 3) := by decide +kernel
theorem dX4_drop_8 : decode cX4_drop 8 = .ok (.ifCond .ne 13, 3) := by decide +kernel
theorem dX4_drop_11 : decode cX4_drop 11 = .ok (.new 74, 3) := by decide +kernel
theorem dX4_drop_14 : decode cX4_drop 14 = .ok (.dup, 1) := by decide +kernel
theorem dX4_drop_15 : decode cX4_drop 15 = .ok (.ldc 76, 2) := by decide +kernel
theorem dX4_drop_17 : decode cX4_drop 17 = .ok (.invokespecial 78, 3) := by decide +kernel
theorem dX4_drop_20 : decode cX4_drop 20 = .ok (.athrow, 1) := by decide +kernel
theorem dX4_drop_21 : decode cX4_drop 21 = .ok (.aload_n 0, 1) := by decide +kernel
theorem dX4_drop_22 : decode cX4_drop 22 = .ok (.getfield 19, 3) := by decide +kernel
theorem dX4_drop_25 : decode cX4_drop 25 = .ok (.aload_n 0, 1) := by decide +kernel
theorem dX4_drop_26 : decode cX4_drop 26 = .ok (.getfield 10, 3) := by decide +kernel
theorem dX4_drop_29 : decode cX4_drop 29 = .ok (.invokevirtual 63, 3) := by decide +kernel
theorem dX4_drop_32 : decode cX4_drop 32 = .ok (.aload_n 0, 1) := by decide +kernel
theorem dX4_drop_33 : decode cX4_drop 33 = .ok (.iload_n 1, 1) := by decide +kernel
theorem dX4_drop_34 : decode cX4_drop 34 = .ok (.iconst (-1), 1) := by decide +kernel
theorem dX4_drop_35 : decode cX4_drop 35 = .ok (.invokevirtual 116, 3) := by decide +kernel
theorem dX4_drop_38 : decode cX4_drop 38 = .ok (.ireturn, 1) := by decide +kernel
set_option maxRecDepth 20000 in
theorem ggX4_solve_X1_save : GoodIn wsX4_solve wsX1_save := goodIn_r _ [8, 9, 10, 11, 12, 13, 14, 15, 16, 17, 18, 19, 20, 7, 21, 115, 116, 117, 118, 119] (by decide +kernel) (by decide +kernel)
set_option maxRecDepth 20000 in
theorem gX4_solve_X1_save : GoodIn wsX4_solve (wsV RX4 63 RX1 yX1_save wsX1_save) := goodIn_app (goodIn_of _ (by decide +kernel)) ggX4_solve_X1_save
set_option maxRecDepth 20000 in
theorem ggX4_solve_X2_look : GoodIn wsX4_solve wsX2_look := goodIn_r _ [26, 27, 28, 29, 30, 31, 32, 33, 34, 35, 36, 37, 38, 39, 40, 41, 42, 43, 44, 45, 46, 47, 48, 49, 50, 51, 52, 53, 54, 55, 25, 56, 57, 58, 59, 60, 61, 62, 63, 64, 65, 66, 67, 68, 69, 70, 71, 72, 73, 118, 119, 120, 121, 122, 123, 124, 125, 126, 127, 128, 129, 130, 131, 132, 133, 134, 135, 136] (by decide +kernel) (by decide +kernel)
set_option maxRecDepth 20000 in
theorem gX4_solve_X2_look : GoodIn wsX4_solve (wsV RX4 120 RX2 yX2_look wsX2_look) := goodIn_app (goodIn_of _ (by decide +kernel)) ggX4_solve_X2_look
set_option maxRecDepth 20000 in
theorem ggX4_solve_X2_findHeaviest : GoodIn wsX4_solve wsX2_findHeaviest := goodIn_r _ [77, 28, 78, 29, 79, 80, 30, 81, 82, 83, 25, 84, 85, 86, 87, 88, 89, 90, 91, 92, 93, 68, 69, 70, 57, 58, 59, 94, 95, 96, 33, 97, 98, 99, 100, 101, 102, 103, 13, 14, 15, 120, 121, 122, 123, 124, 125, 126, 127, 128, 129, 130, 131, 132, 133, 134, 135, 136] (by decide +kernel) (by decide +kernel)
set_option maxRecDepth 20000 in
theorem gX4_solve_X2_findHeaviest : GoodIn wsX4_solve (wsV RX4 123 RX2 yX2_findHeaviest wsX2_findHeaviest) := goodIn_app (goodIn_of _ (by decide +kernel)) ggX4_solve_X2_findHeaviest
set_option maxRecDepth 20000 in
theorem ggX4_solve_X4_putLabelsAsFound : GoodIn wsX4_solve wsX4_putLabelsAsFound := goodIn_r _ [107, 2, 108, 109, 3, 110, 111, 112, 113, 114, 118, 119, 120, 121, 122, 123, 124, 125, 126, 127, 128, 129, 130, 131, 132, 133, 134, 135, 136] (by decide +kernel) (by decide +kernel)
set_option maxRecDepth 20000 in
theorem gX4_solve_X4_putLabelsAsFound : GoodIn wsX4_solve (wsV RX4 126 RX4 yX4_putLabelsAsFound wsX4_putLabelsAsFound) := goodIn_app (goodIn_of _ (by decide +kernel)) ggX4_solve_X4_putLabelsAsFound
theorem dX4_solve_0 : decode cX4_solve 0 = .ok (.aload_n 0, 1) := by decide +kernel
theorem dX4_solve_1 : decode cX4_solve 1 = .ok (.getfield 19, 3) := by decide +kernel
theorem dX4_solve_4 : decode cX4_solve 4 = .ok (.aload_n 0, 1) := by decide +kernel
theorem dX4_solve_5 : decode cX4_solve 5 = .ok (.getfield 10, 3) := by decide +kernel
theorem dX4_solve_8 : decode cX4_solve 8 = .ok (.invokevirtual 63, 3) := by decide +kernel
theorem dX4_solve_11 : decode cX4_solve 11 = .ok (.aload_n 0, 1) := by decide +kernel
theorem dX4_solve_12 : decode cX4_solve 12 = .ok (.getfield 33, 3) := by decide +kernel
theorem dX4_solve_15 : decode cX4_solve 15 = .ok (.aload_n 0, 1) := by decide +kernel
theorem dX4_solve_16 : decode cX4_solve 16 = .ok (.getfield 10, 3) := by decide +kernel
theorem dX4_solve_19 : decode cX4_solve 19 = .ok (.invokevirtual 120, 3) := by decide +kernel
theorem dX4_solve_22 : decode cX4_solve 22 = .ok (.aload_n 0, 1) := by decide +kernel
theorem dX4_solve_23 : decode cX4_solve 23 = .ok (.getfield 33, 3) := by decide +kernel
theorem dX4_solve_26 : decode cX4_solve 26 = .ok (.iconst (-1), 1) := by decide +kernel
theorem dX4_solve_27 : decode cX4_solve 27 = .ok (.invokevirtual 123, 3) := by decide +kernel
theorem dX4_solve_30 : decode cX4_solve 30 = .ok (.istore_n 1, 1) := by decide +kernel
theorem dX4_solve_31 : decode cX4_solve 31 = .ok (.aload_n 0, 1) := by decide +kernel
theorem dX4_solve_32 : decode cX4_solve 32 = .ok (.invokevirtual 126, 3) := by decide +kernel
theorem dX4_solve_35 : decode cX4_solve 35 = .ok (.iload_n 1, 1) := by decide +kernel
theorem dX4_solve_36 : decode cX4_solve 36 = .ok (.ireturn, 1) := by decide +kernel
set_option maxRecDepth 20000 in
theorem ggX4_push_X0_has : GoodIn wsX4_push wsX0_has := goodIn_r _ [12, 13, 123, 124] (by decide +kernel) (by decide +kernel)
set_option maxRecDepth 20000 in
theorem gX4_push_X0_has : GoodIn wsX4_push (wsV RX4 71 RX0 yX0_has wsX0_has) := goodIn_app (goodIn_of _ (by decide +kernel)) ggX4_push_X0_has
set_option maxRecDepth 20000 in
theorem ggX4_push_X2_look : GoodIn wsX4_push wsX2_look := goodIn_r _ [18, 19, 20, 21, 22, 23, 24, 25, 26, 27, 28, 11, 29, 30, 31, 32, 33, 34, 13, 35, 36, 37, 38, 39, 40, 41, 42, 43, 44, 45, 17, 46, 47, 48, 49, 50, 51, 52, 53, 54, 55, 56, 57, 58, 59, 60, 61, 62, 63, 123, 124, 125, 126, 127, 128, 129, 130, 131, 132, 133, 134, 135, 136, 137, 138, 139, 140, 141] (by decide +kernel) (by decide +kernel)
set_option maxRecDepth 20000 in
theorem gX4_push_X2_look : GoodIn wsX4_push (wsV RX4 120 RX2 yX2_look wsX2_look) := goodIn_app (goodIn_of _ (by decide +kernel)) ggX4_push_X2_look
set_option maxRecDepth 20000 in
theorem ggX4_push_X2_findRoom : GoodIn wsX4_push wsX2_findRoom := goodIn_r _ [67, 24, 20, 68, 21, 69, 70, 71, 72, 73, 17, 74, 75, 76, 77, 78, 79, 80, 81, 82, 83, 58, 59, 60, 47, 48, 49, 84, 85, 86, 25, 87, 88, 89, 90, 91, 92, 93, 94, 95, 96, 125, 126, 127, 128, 129, 130, 131, 132, 133, 134, 135, 136, 137, 138, 139, 140, 141] (by decide +kernel) (by decide +kernel)
set_option maxRecDepth 20000 in
theorem gX4_push_X2_findRoom : GoodIn wsX4_push (wsV RX4 129 RX2 yX2_findRoom wsX2_findRoom) := goodIn_app (goodIn_of _ (by decide +kernel)) ggX4_push_X2_findRoom
set_option maxRecDepth 20000 in
theorem ggX4_push_X1_save : GoodIn wsX4_push wsX1_save := goodIn_r _ [101, 102, 103, 104, 105, 94, 95, 96, 106, 107, 108, 109, 110, 100, 111, 142, 143, 144, 123, 124] (by decide +kernel) (by decide +kernel)
set_option maxRecDepth 20000 in
theorem gX4_push_X1_save : GoodIn wsX4_push (wsV RX4 63 RX1 yX1_save wsX1_save) := goodIn_app (goodIn_of _ (by decide +kernel)) ggX4_push_X1_save
set_option maxRecDepth 20000 in
theorem ggX4_push_X4_putLabelsAsFound : GoodIn wsX4_push wsX4_putLabelsAsFound := goodIn_r _ [115, 5, 116, 117, 6, 118, 119, 120, 121, 122, 123, 124, 125, 126, 127, 128, 129, 130, 131, 132, 133, 134, 135, 136, 137, 138, 139, 140, 141] (by decide +kernel) (by decide +kernel)
set_option maxRecDepth 20000 in
theorem gX4_push_X4_putLabelsAsFound : GoodIn wsX4_push (wsV RX4 126 RX4 yX4_putLabelsAsFound wsX4_putLabelsAsFound) := goodIn_app (goodIn_of _ (by decide +kernel)) ggX4_push_X4_putLabelsAsFound
theorem dX4_push_0 : decode cX4_push 0 = .ok (.aload_n 0, 1) := by decide +kernel
theorem dX4_push_1 : decode cX4_push 1 = .ok (.getfield 10, 3) := by decide +kernel
theorem dX4_push_4 : decode cX4_push 4 = .ok (.iload_n 1, 1) := by decide +kernel
theorem dX4_push_5 : decode cX4_push 5 = .ok (.invokevirtual 71, 3) := by decide +kernel
theorem dX4_push_8 : decode cX4_push 8 = .ok (.ifCond .ne 13, 3) := by decide +kernel
theorem dX4_push_11 : decode cX4_push 11 = .ok (.new 74, 3) := by decide +kernel
theorem dX4_push_14 : decode cX4_push 14 = .ok (.dup, 1) := by decide +kernel
theorem dX4_push_15 : decode cX4_push 15 = .ok (.ldc 76, 2) := by decide +kernel
theorem dX4_push_17 : decode cX4_push 17 = .ok (.invokespecial 78, 3) := by decide +kernel
theorem dX4_push_20 : decode cX4_push 20 = .ok (.athrow, 1) := by decide +kernel
theorem dX4_push_21 : decode cX4_push 21 = .ok (.aload_n 0, 1) := by decide +kernel
theorem dX4_push_22 : decode cX4_push 22 = .ok (.getfield 33, 3) := by decide +kernel
theorem dX4_push_25 : decode cX4_push 25 = .ok (.aload_n 0, 1) := by decide +kernel
theorem dX4_push_26 : decode cX4_push 26 = .ok (.getfield 10, 3) := by decide +kernel
theorem dX4_push_29 : decode cX4_push 29 = .ok (.invokevirtual 120, 3) := by decide +kernel
theorem dX4_push_32 : decode cX4_push 32 = .ok (.aload_n 0, 1) := by decide +kernel
theorem dX4_push_33 : decode cX4_push 33 = .ok (.getfield 33, 3) := by decide +kernel
theorem dX4_push_36 : decode cX4_push 36 = .ok (.iload_n 1, 1) := by decide +kernel
theorem dX4_push_37 : decode cX4_push 37 = .ok (.invokevirtual 129, 3) := by decide +kernel
theorem dX4_push_40 : decode cX4_push 40 = .ok (.istore_n 2, 1) := by decide +kernel
theorem dX4_push_41 : decode cX4_push 41 = .ok (.iload_n 2, 1) := by decide +kernel
theorem dX4_push_42 : decode cX4_push 42 = .ok (.iconst (-1), 1) := by decide +kernel
theorem dX4_push_43 : decode cX4_push 43 = .ok (.if_icmp .ne 13, 3) := by decide +kernel
theorem dX4_push_46 : decode cX4_push 46 = .ok (.new 58, 3) := by decide +kernel
theorem dX4_push_49 : decode cX4_push 49 = .ok (.dup, 1) := by decide +kernel
theorem dX4_push_50 : decode cX4_push 50 = .ok (.ldc 132, 2) := by decide +kernel
theorem dX4_push_52 : decode cX4_push 52 = .ok (.invokespecial 62, 3) := by decide +kernel
theorem dX4_push_55 : decode cX4_push 55 = .ok (.athrow, 1) := by decide +kernel
theorem dX4_push_56 : decode cX4_push 56 = .ok (.aload_n 0, 1) := by decide +kernel
theorem dX4_push_57 : decode cX4_push 57 = .ok (.getfield 19, 3) := by decide +kernel
theorem dX4_push_60 : decode cX4_push 60 = .ok (.aload_n 0, 1) := by decide +kernel
theorem dX4_push_61 : decode cX4_push 61 = .ok (.getfield 10, 3) := by decide +kernel
theorem dX4_push_64 : decode cX4_push 64 = .ok (.invokevirtual 63, 3) := by decide +kernel
theorem dX4_push_67 : decode cX4_push 67 = .ok (.aload_n 0, 1) := by decide +kernel
theorem dX4_push_68 : decode cX4_push 68 = .ok (.invokevirtual 126, 3) := by decide +kernel
theorem dX4_push_71 : decode cX4_push 71 = .ok (.iload_n 2, 1) := by decide +kernel
theorem dX4_push_72 : decode cX4_push 72 = .ok (.ireturn, 1) := by decide +kernel
set_option maxRecDepth 20000 in
theorem ggX4_mirror_X1_save : GoodIn wsX4_mirror wsX1_save := goodIn_r _ [7, 8, 9, 10, 11, 12, 13, 14, 15, 16, 17, 18, 19, 6, 20, 40, 41, 42, 43, 44] (by decide +kernel) (by decide +kernel)
set_option maxRecDepth 20000 in
theorem gX4_mirror_X1_save : GoodIn wsX4_mirror (wsV RX4 63 RX1 yX1_save wsX1_save) := goodIn_app (goodIn_of _ (by decide +kernel)) ggX4_mirror_X1_save
set_option maxRecDepth 20000 in
theorem ggX4_mirror_X0_flip : GoodIn wsX4_mirror wsX0_flip := goodIn_r _ [25, 26, 27, 28, 29, 30, 24, 31, 43, 44] (by decide +kernel) (by decide +kernel)
set_option maxRecDepth 20000 in
theorem gX4_mirror_X0_flip : GoodIn wsX4_mirror (wsV RX4 134 RX0 yX0_flip wsX0_flip) := goodIn_app (goodIn_of _ (by decide +kernel)) ggX4_mirror_X0_flip
set_option maxRecDepth 20000 in
theorem ggX4_mirror_X0_standingLabels : GoodIn wsX4_mirror wsX0_standingLabels := goodIn_r _ [35, 26, 28, 29, 30, 24, 31, 27, 43, 44] (by decide +kernel) (by decide +kernel)
set_option maxRecDepth 20000 in
theorem gX4_mirror_X0_standingLabels : GoodIn wsX4_mirror (wsV RX4 137 RX0 yX0_standingLabels wsX0_standingLabels) := goodIn_app (goodIn_of _ (by decide +kernel)) ggX4_mirror_X0_standingLabels
theorem dX4_mirror_0 : decode cX4_mirror 0 = .ok (.aload_n 0, 1) := by decide +kernel
theorem dX4_mirror_1 : decode cX4_mirror 1 = .ok (.getfield 19, 3) := by decide +kernel
theorem dX4_mirror_4 : decode cX4_mirror 4 = .ok (.aload_n 0, 1) := by decide +kernel
theorem dX4_mirror_5 : decode cX4_mirror 5 = .ok (.getfield 10, 3) := by decide +kernel
theorem dX4_mirror_8 : decode cX4_mirror 8 = .ok (.invokevirtual 63, 3) := by decide +kernel
theorem dX4_mirror_11 : decode cX4_mirror 11 = .ok (.aload_n 0, 1) := by decide +kernel
theorem dX4_mirror_12 : decode cX4_mirror 12 = .ok (.getfield 10, 3) := by decide +kernel
theorem dX4_mirror_15 : decode cX4_mirror 15 = .ok (.invokevirtual 134, 3) := by decide +kernel
theorem dX4_mirror_18 : decode cX4_mirror 18 = .ok (.aload_n 0, 1) := by decide +kernel
theorem dX4_mirror_19 : decode cX4_mirror 19 = .ok (.getfield 10, 3) := by decide +kernel
theorem dX4_mirror_22 : decode cX4_mirror 22 = .ok (.invokevirtual 137, 3) := by decide +kernel
theorem dX4_mirror_25 : decode cX4_mirror 25 = .ok (.ireturn, 1) := by decide +kernel
set_option maxRecDepth 20000 in
theorem ggX4_append_X3_write : GoodIn wsX4_append wsX3_write := goodIn_r _ [11, 12, 13, 18, 19, 20, 21, 22, 23] (by decide +kernel) (by decide +kernel)
set_option maxRecDepth 20000 in
theorem gX4_append_X3_write : GoodIn wsX4_append (wsV RX4 149 RX3 yX3_write wsX3_write) := goodIn_app (goodIn_of _ (by decide +kernel)) ggX4_append_X3_write
theorem dX4_append_0 : decode cX4_append 0 = .ok (.iload_n 1, 1) := by decide +kernel
theorem dX4_append_1 : decode cX4_append 1 = .ok (.bipush 33, 2) := by decide +kernel
theorem dX4_append_3 : decode cX4_append 3 = .ok (.if_icmp .lt 9, 3) := by decide +kernel
theorem dX4_append_6 : decode cX4_append 6 = .ok (.iload_n 1, 1) := by decide +kernel
theorem dX4_append_7 : decode cX4_append 7 = .ok (.bipush 126, 2) := by decide +kernel
theorem dX4_append_9 : decode cX4_append 9 = .ok (.if_icmp .le 13, 3) := by decide +kernel
theorem dX4_append_12 : decode cX4_append 12 = .ok (.new 48, 3) := by decide +kernel
theorem dX4_append_15 : decode cX4_append 15 = .ok (.dup, 1) := by decide +kernel
theorem dX4_append_16 : decode cX4_append 16 = .ok (.ldc 141, 2) := by decide +kernel
theorem dX4_append_18 : decode cX4_append 18 = .ok (.invokespecial 52, 3) := by decide +kernel
theorem dX4_append_21 : decode cX4_append 21 = .ok (.athrow, 1) := by decide +kernel
theorem dX4_append_22 : decode cX4_append 22 = .ok (.aload_n 0, 1) := by decide +kernel
theorem dX4_append_23 : decode cX4_append 23 = .ok (.getfield 26, 3) := by decide +kernel
theorem dX4_append_26 : decode cX4_append 26 = .ok (.getfield 143, 3) := by decide +kernel
theorem dX4_append_29 : decode cX4_append 29 = .ok (.bipush 60, 2) := by decide +kernel
theorem dX4_append_31 : decode cX4_append 31 = .ok (.if_icmp .lt 13, 3) := by decide +kernel
theorem dX4_append_34 : decode cX4_append 34 = .ok (.new 58, 3) := by decide +kernel
theorem dX4_append_37 : decode cX4_append 37 = .ok (.dup, 1) := by decide +kernel
theorem dX4_append_38 : decode cX4_append 38 = .ok (.ldc 147, 2) := by decide +kernel
theorem dX4_append_40 : decode cX4_append 40 = .ok (.invokespecial 62, 3) := by decide +kernel
theorem dX4_append_43 : decode cX4_append 43 = .ok (.athrow, 1) := by decide +kernel
theorem dX4_append_44 : decode cX4_append 44 = .ok (.aload_n 0, 1) := by decide +kernel
theorem dX4_append_45 : decode cX4_append 45 = .ok (.getfield 26, 3) := by decide +kernel
theorem dX4_append_48 : decode cX4_append 48 = .ok (.iload_n 1, 1) := by decide +kernel
theorem dX4_append_49 : decode cX4_append 49 = .ok (.invokevirtual 149, 3) := by decide +kernel
theorem dX4_append_52 : decode cX4_append 52 = .ok (.aload_n 0, 1) := by decide +kernel
theorem dX4_append_53 : decode cX4_append 53 = .ok (.getfield 26, 3) := by decide +kernel
theorem dX4_append_56 : decode cX4_append 56 = .ok (.getfield 143, 3) := by decide +kernel
theorem dX4_append_59 : decode cX4_append 59 = .ok (.ireturn, 1) := by decide +kernel
theorem dX4_clearBuffer_0 : decode cX4_clearBuffer 0 = .ok (.aload_n 0, 1) := by decide +kernel
theorem dX4_clearBuffer_1 : decode cX4_clearBuffer 1 = .ok (.getfield 26, 3) := by decide +kernel
theorem dX4_clearBuffer_4 : decode cX4_clearBuffer 4 = .ok (.getfield 143, 3) := by decide +kernel
theorem dX4_clearBuffer_7 : decode cX4_clearBuffer 7 = .ok (.istore_n 1, 1) := by decide +kernel
theorem dX4_clearBuffer_8 : decode cX4_clearBuffer 8 = .ok (.aload_n 0, 1) := by decide +kernel
theorem dX4_clearBuffer_9 : decode cX4_clearBuffer 9 = .ok (.getfield 26, 3) := by decide +kernel
theorem dX4_clearBuffer_12 : decode cX4_clearBuffer 12 = .ok (.iconst 0, 1) := by decide +kernel
theorem dX4_clearBuffer_13 : decode cX4_clearBuffer 13 = .ok (.putfield 143, 3) := by decide +kernel
theorem dX4_clearBuffer_16 : decode cX4_clearBuffer 16 = .ok (.iload_n 1, 1) := by decide +kernel
theorem dX4_clearBuffer_17 : decode cX4_clearBuffer 17 = .ok (.ireturn, 1) := by decide +kernel
set_option maxRecDepth 20000 in
theorem ggX4_firstError_X3_scan : GoodIn wsX4_firstError wsX3_scan := goodIn_r _ [6, 7, 8, 9, 10, 11, 12, 5, 13, 14, 15, 16, 17, 18, 19, 20, 21, 22, 23, 24, 25, 26, 27, 28, 29, 34, 35, 36, 37, 38, 39] (by decide +kernel) (by decide +kernel)
set_option maxRecDepth 20000 in
theorem gX4_firstError_X3_scan : GoodIn wsX4_firstError (wsV RX4 152 RX3 yX3_scan wsX3_scan) := goodIn_app (goodIn_of _ (by decide +kernel)) ggX4_firstError_X3_scan
theorem dX4_firstError_0 : decode cX4_firstError 0 = .ok (.aload_n 0, 1) := by decide +kernel
theorem dX4_firstError_1 : decode cX4_firstError 1 = .ok (.getfield 26, 3) := by decide +kernel
theorem dX4_firstError_4 : decode cX4_firstError 4 = .ok (.invokevirtual 152, 3) := by decide +kernel
theorem dX4_firstError_7 : decode cX4_firstError 7 = .ok (.ireturn, 1) := by decide +kernel
set_option maxRecDepth 20000 in
theorem ggX4_read_X3_scan : GoodIn wsX4_read wsX3_scan := goodIn_r _ [11, 12, 13, 14, 15, 16, 17, 10, 18, 19, 20, 21, 22, 23, 24, 25, 26, 27, 28, 29, 30, 31, 32, 33, 34, 109, 110, 111, 112, 113, 114] (by decide +kernel) (by decide +kernel)
set_option maxRecDepth 20000 in
theorem gX4_read_X3_scan : GoodIn wsX4_read (wsV RX4 152 RX3 yX3_scan wsX3_scan) := goodIn_app (goodIn_of _ (by decide +kernel)) ggX4_read_X3_scan
set_option maxRecDepth 20000 in
theorem ggX4_read_X3_endsWithPoint : GoodIn wsX4_read wsX3_endsWithPoint := goodIn_r _ [38, 21, 20, 109, 110, 111, 112, 113, 114] (by decide +kernel) (by decide +kernel)
set_option maxRecDepth 20000 in
theorem gX4_read_X3_endsWithPoint : GoodIn wsX4_read (wsV RX4 155 RX3 yX3_endsWithPoint wsX3_endsWithPoint) := goodIn_app (goodIn_of _ (by decide +kernel)) ggX4_read_X3_endsWithPoint
set_option maxRecDepth 20000 in
theorem ggX4_read_X1_save : GoodIn wsX4_read wsX1_save := goodIn_r _ [43, 44, 45, 46, 47, 48, 49, 50, 51, 52, 53, 54, 55, 42, 56, 115, 116, 117, 118, 119] (by decide +kernel) (by decide +kernel)
set_option maxRecDepth 20000 in
theorem gX4_read_X1_save : GoodIn wsX4_read (wsV RX4 63 RX1 yX1_save wsX1_save) := goodIn_app (goodIn_of _ (by decide +kernel)) ggX4_read_X1_save
set_option maxRecDepth 20000 in
theorem ggX4_read_X4_insertTold : GoodIn wsX4_read wsX4_insertTold := goodIn_r _ [61, 3, 6, 62, 63, 64, 10, 65, 12, 66, 67, 68, 69, 19, 70, 71, 72, 73, 74, 75, 76, 77, 78, 79, 80, 81, 82, 83, 84, 85, 86, 87, 88, 89, 90, 91, 92, 93, 94, 95, 96, 97, 98, 99, 100, 101, 102, 103, 104, 105, 106, 107, 108, 109, 110, 111, 112, 113, 114, 118, 119] (by decide +kernel) (by decide +kernel)
set_option maxRecDepth 20000 in
theorem gX4_read_X4_insertTold : GoodIn wsX4_read (wsV RX4 161 RX4 yX4_insertTold wsX4_insertTold) := goodIn_app (goodIn_of _ (by decide +kernel)) ggX4_read_X4_insertTold
theorem dX4_read_0 : decode cX4_read 0 = .ok (.aload_n 0, 1) := by decide +kernel
theorem dX4_read_1 : decode cX4_read 1 = .ok (.getfield 26, 3) := by decide +kernel
theorem dX4_read_4 : decode cX4_read 4 = .ok (.invokevirtual 152, 3) := by decide +kernel
theorem dX4_read_7 : decode cX4_read 7 = .ok (.aload_n 0, 1) := by decide +kernel
theorem dX4_read_8 : decode cX4_read 8 = .ok (.getfield 26, 3) := by decide +kernel
theorem dX4_read_11 : decode cX4_read 11 = .ok (.getfield 143, 3) := by decide +kernel
theorem dX4_read_14 : decode cX4_read 14 = .ok (.if_icmp .lt 13, 3) := by decide +kernel
theorem dX4_read_17 : decode cX4_read 17 = .ok (.aload_n 0, 1) := by decide +kernel
theorem dX4_read_18 : decode cX4_read 18 = .ok (.getfield 26, 3) := by decide +kernel
theorem dX4_read_21 : decode cX4_read 21 = .ok (.invokevirtual 155, 3) := by decide +kernel
theorem dX4_read_24 : decode cX4_read 24 = .ok (.ifCond .ne 13, 3) := by decide +kernel
theorem dX4_read_27 : decode cX4_read 27 = .ok (.new 48, 3) := by decide +kernel
theorem dX4_read_30 : decode cX4_read 30 = .ok (.dup, 1) := by decide +kernel
theorem dX4_read_31 : decode cX4_read 31 = .ok (.ldc 159, 2) := by decide +kernel
theorem dX4_read_33 : decode cX4_read 33 = .ok (.invokespecial 52, 3) := by decide +kernel
theorem dX4_read_36 : decode cX4_read 36 = .ok (.athrow, 1) := by decide +kernel
theorem dX4_read_37 : decode cX4_read 37 = .ok (.aload_n 0, 1) := by decide +kernel
theorem dX4_read_38 : decode cX4_read 38 = .ok (.getfield 19, 3) := by decide +kernel
theorem dX4_read_41 : decode cX4_read 41 = .ok (.aload_n 0, 1) := by decide +kernel
theorem dX4_read_42 : decode cX4_read 42 = .ok (.getfield 10, 3) := by decide +kernel
theorem dX4_read_45 : decode cX4_read 45 = .ok (.invokevirtual 63, 3) := by decide +kernel
theorem dX4_read_48 : decode cX4_read 48 = .ok (.aload_n 0, 1) := by decide +kernel
theorem dX4_read_49 : decode cX4_read 49 = .ok (.invokevirtual 161, 3) := by decide +kernel
theorem dX4_read_52 : decode cX4_read 52 = .ok (.istore_n 1, 1) := by decide +kernel
theorem dX4_read_53 : decode cX4_read 53 = .ok (.aload_n 0, 1) := by decide +kernel
theorem dX4_read_54 : decode cX4_read 54 = .ok (.getfield 26, 3) := by decide +kernel
theorem dX4_read_57 : decode cX4_read 57 = .ok (.iconst 0, 1) := by decide +kernel
theorem dX4_read_58 : decode cX4_read 58 = .ok (.putfield 143, 3) := by decide +kernel
theorem dX4_read_61 : decode cX4_read 61 = .ok (.iload_n 1, 1) := by decide +kernel
theorem dX4_read_62 : decode cX4_read 62 = .ok (.ireturn, 1) := by decide +kernel
set_option maxRecDepth 20000 in
theorem ggX4_undo_X1_restore : GoodIn wsX4_undo wsX1_restore := goodIn_r _ [10, 11, 12, 13, 14, 15, 16, 17, 18, 19, 24, 25, 26, 27, 28] (by decide +kernel) (by decide +kernel)
set_option maxRecDepth 20000 in
theorem gX4_undo_X1_restore : GoodIn wsX4_undo (wsV RX4 169 RX1 yX1_restore wsX1_restore) := goodIn_app (goodIn_of _ (by decide +kernel)) ggX4_undo_X1_restore
theorem dX4_undo_0 : decode cX4_undo 0 = .ok (.aload_n 0, 1) := by decide +kernel
theorem dX4_undo_1 : decode cX4_undo 1 = .ok (.getfield 19, 3) := by decide +kernel
theorem dX4_undo_4 : decode cX4_undo 4 = .ok (.getfield 164, 3) := by decide +kernel
theorem dX4_undo_7 : decode cX4_undo 7 = .ok (.ifCond .ne 13, 3) := by decide +kernel
theorem dX4_undo_10 : decode cX4_undo 10 = .ok (.new 58, 3) := by decide +kernel
theorem dX4_undo_13 : decode cX4_undo 13 = .ok (.dup, 1) := by decide +kernel
theorem dX4_undo_14 : decode cX4_undo 14 = .ok (.ldc 167, 2) := by decide +kernel
theorem dX4_undo_16 : decode cX4_undo 16 = .ok (.invokespecial 62, 3) := by decide +kernel
theorem dX4_undo_19 : decode cX4_undo 19 = .ok (.athrow, 1) := by decide +kernel
theorem dX4_undo_20 : decode cX4_undo 20 = .ok (.aload_n 0, 1) := by decide +kernel
theorem dX4_undo_21 : decode cX4_undo 21 = .ok (.getfield 19, 3) := by decide +kernel
theorem dX4_undo_24 : decode cX4_undo 24 = .ok (.aload_n 0, 1) := by decide +kernel
theorem dX4_undo_25 : decode cX4_undo 25 = .ok (.getfield 10, 3) := by decide +kernel
theorem dX4_undo_28 : decode cX4_undo 28 = .ok (.invokevirtual 169, 3) := by decide +kernel
theorem dX4_undo_31 : decode cX4_undo 31 = .ok (.aload_n 0, 1) := by decide +kernel
theorem dX4_undo_32 : decode cX4_undo 32 = .ok (.getfield 19, 3) := by decide +kernel
theorem dX4_undo_35 : decode cX4_undo 35 = .ok (.getfield 164, 3) := by decide +kernel
theorem dX4_undo_38 : decode cX4_undo 38 = .ok (.ireturn, 1) := by decide +kernel
set_option maxRecDepth 20000 in
theorem ggX4_point_X0_has : GoodIn wsX4_point wsX0_has := goodIn_r _ [10, 11, 80, 81] (by decide +kernel) (by decide +kernel)
set_option maxRecDepth 20000 in
theorem gX4_point_X0_has : GoodIn wsX4_point (wsV RX4 71 RX0 yX0_has wsX0_has) := goodIn_app (goodIn_of _ (by decide +kernel)) ggX4_point_X0_has
set_option maxRecDepth 20000 in
theorem ggX4_point_X4_property : GoodIn wsX4_point wsX4_property := goodIn_r _ [16, 5, 17, 18, 19, 20, 9, 21, 22, 23, 24, 25, 26, 11, 27, 28, 29, 30, 31, 32, 33, 34, 35, 36, 37, 38, 39, 40, 15, 41, 42, 43, 44, 45, 46, 47, 48, 49, 50, 51, 52, 53, 54, 55, 56, 57, 58, 59, 60, 61, 62, 63, 64, 65, 66, 67, 68, 69, 70, 71, 72, 73, 74, 75, 76, 77, 78, 79, 80, 81] (by decide +kernel) (by decide +kernel)
set_option maxRecDepth 20000 in
theorem gX4_point_X4_property : GoodIn wsX4_point (wsV RX4 174 RX4 yX4_property wsX4_property) := goodIn_app (goodIn_of _ (by decide +kernel)) ggX4_point_X4_property
theorem dX4_point_0 : decode cX4_point 0 = .ok (.aload_n 0, 1) := by decide +kernel
theorem dX4_point_1 : decode cX4_point 1 = .ok (.getfield 10, 3) := by decide +kernel
theorem dX4_point_4 : decode cX4_point 4 = .ok (.iload_n 1, 1) := by decide +kernel
theorem dX4_point_5 : decode cX4_point 5 = .ok (.invokevirtual 71, 3) := by decide +kernel
theorem dX4_point_8 : decode cX4_point 8 = .ok (.ifCond .ne 13, 3) := by decide +kernel
theorem dX4_point_11 : decode cX4_point 11 = .ok (.new 74, 3) := by decide +kernel
theorem dX4_point_14 : decode cX4_point 14 = .ok (.dup, 1) := by decide +kernel
theorem dX4_point_15 : decode cX4_point 15 = .ok (.ldc 76, 2) := by decide +kernel
theorem dX4_point_17 : decode cX4_point 17 = .ok (.invokespecial 78, 3) := by decide +kernel
theorem dX4_point_20 : decode cX4_point 20 = .ok (.athrow, 1) := by decide +kernel
theorem dX4_point_21 : decode cX4_point 21 = .ok (.iload_n 2, 1) := by decide +kernel
theorem dX4_point_22 : decode cX4_point 22 = .ok (.ifCond .lt 9, 3) := by decide +kernel
theorem dX4_point_25 : decode cX4_point 25 = .ok (.iload_n 2, 1) := by decide +kernel
theorem dX4_point_26 : decode cX4_point 26 = .ok (.bipush 8, 2) := by decide +kernel
theorem dX4_point_28 : decode cX4_point 28 = .ok (.if_icmp .le 13, 3) := by decide +kernel
theorem dX4_point_31 : decode cX4_point 31 = .ok (.new 48, 3) := by decide +kernel
theorem dX4_point_34 : decode cX4_point 34 = .ok (.dup, 1) := by decide +kernel
theorem dX4_point_35 : decode cX4_point 35 = .ok (.ldc 172, 2) := by decide +kernel
theorem dX4_point_37 : decode cX4_point 37 = .ok (.invokespecial 52, 3) := by decide +kernel
theorem dX4_point_40 : decode cX4_point 40 = .ok (.athrow, 1) := by decide +kernel
theorem dX4_point_41 : decode cX4_point 41 = .ok (.aload_n 0, 1) := by decide +kernel
theorem dX4_point_42 : decode cX4_point 42 = .ok (.iload_n 1, 1) := by decide +kernel
theorem dX4_point_43 : decode cX4_point 43 = .ok (.iload_n 2, 1) := by decide +kernel
theorem dX4_point_44 : decode cX4_point 44 = .ok (.invokevirtual 174, 3) := by decide +kernel
theorem dX4_point_47 : decode cX4_point 47 = .ok (.ireturn, 1) := by decide +kernel
set_option maxRecDepth 20000 in
theorem ggX4_clash_X0_has : GoodIn wsX4_clash wsX0_has := goodIn_r _ [10, 11, 43, 44] (by decide +kernel) (by decide +kernel)
set_option maxRecDepth 20000 in
theorem gX4_clash_X0_has : GoodIn wsX4_clash (wsV RX4 71 RX0 yX0_has wsX0_has) := goodIn_app (goodIn_of _ (by decide +kernel)) ggX4_clash_X0_has
set_option maxRecDepth 20000 in
theorem ggX4_clash_X4_isCorner : GoodIn wsX4_clash wsX4_isCorner := goodIn_r _ [15] (by decide +kernel) (by decide +kernel)
set_option maxRecDepth 20000 in
theorem gX4_clash_X4_isCorner : GoodIn wsX4_clash (va_wsS RX4 103 yX4_isCorner wsX4_isCorner) := goodIn_app (goodIn_of _ (by decide +kernel)) ggX4_clash_X4_isCorner
set_option maxRecDepth 20000 in
theorem ggX4_clash_X0_sharedSquares : GoodIn wsX4_clash wsX0_sharedSquares := goodIn_r _ [19, 20, 21, 22, 23, 9, 24, 25, 26, 27, 28, 29, 30, 31, 32, 33, 34, 35, 36, 37, 38, 43, 44] (by decide +kernel) (by decide +kernel)
set_option maxRecDepth 20000 in
theorem gX4_clash_X0_sharedSquares : GoodIn wsX4_clash (wsV RX4 179 RX0 yX0_sharedSquares wsX0_sharedSquares) := goodIn_app (goodIn_of _ (by decide +kernel)) ggX4_clash_X0_sharedSquares
theorem dX4_clash_0 : decode cX4_clash 0 = .ok (.aload_n 0, 1) := by decide +kernel
theorem dX4_clash_1 : decode cX4_clash 1 = .ok (.getfield 10, 3) := by decide +kernel
theorem dX4_clash_4 : decode cX4_clash 4 = .ok (.iload_n 1, 1) := by decide +kernel
theorem dX4_clash_5 : decode cX4_clash 5 = .ok (.invokevirtual 71, 3) := by decide +kernel
theorem dX4_clash_8 : decode cX4_clash 8 = .ok (.ifCond .eq 14, 3) := by decide +kernel
theorem dX4_clash_11 : decode cX4_clash 11 = .ok (.aload_n 0, 1) := by decide +kernel
theorem dX4_clash_12 : decode cX4_clash 12 = .ok (.getfield 10, 3) := by decide +kernel
theorem dX4_clash_15 : decode cX4_clash 15 = .ok (.iload_n 3, 1) := by decide +kernel
theorem dX4_clash_16 : decode cX4_clash 16 = .ok (.invokevirtual 71, 3) := by decide +kernel
theorem dX4_clash_19 : decode cX4_clash 19 = .ok (.ifCond .ne 13, 3) := by decide +kernel
theorem dX4_clash_22 : decode cX4_clash 22 = .ok (.new 74, 3) := by decide +kernel
theorem dX4_clash_25 : decode cX4_clash 25 = .ok (.dup, 1) := by decide +kernel
theorem dX4_clash_26 : decode cX4_clash 26 = .ok (.ldc 76, 2) := by decide +kernel
theorem dX4_clash_28 : decode cX4_clash 28 = .ok (.invokespecial 78, 3) := by decide +kernel
theorem dX4_clash_31 : decode cX4_clash 31 = .ok (.athrow, 1) := by decide +kernel
theorem dX4_clash_32 : decode cX4_clash 32 = .ok (.iload_n 1, 1) := by decide +kernel
theorem dX4_clash_33 : decode cX4_clash 33 = .ok (.iload_n 3, 1) := by decide +kernel
theorem dX4_clash_34 : decode cX4_clash 34 = .ok (.if_icmp .eq 18, 3) := by decide +kernel
theorem dX4_clash_37 : decode cX4_clash 37 = .ok (.iload_n 2, 1) := by decide +kernel
theorem dX4_clash_38 : decode cX4_clash 38 = .ok (.invokestatic 103, 3) := by decide +kernel
theorem dX4_clash_41 : decode cX4_clash 41 = .ok (.ifCond .eq 11, 3) := by decide +kernel
theorem dX4_clash_44 : decode cX4_clash 44 = .ok (.iload 4, 2) := by decide +kernel
theorem dX4_clash_46 : decode cX4_clash 46 = .ok (.invokestatic 103, 3) := by decide +kernel
theorem dX4_clash_49 : decode cX4_clash 49 = .ok (.ifCond .ne 13, 3) := by decide +kernel
theorem dX4_clash_52 : decode cX4_clash 52 = .ok (.new 48, 3) := by decide +kernel
theorem dX4_clash_55 : decode cX4_clash 55 = .ok (.dup, 1) := by decide +kernel
theorem dX4_clash_56 : decode cX4_clash 56 = .ok (.ldc 177, 2) := by decide +kernel
theorem dX4_clash_58 : decode cX4_clash 58 = .ok (.invokespecial 52, 3) := by decide +kernel
theorem dX4_clash_61 : decode cX4_clash 61 = .ok (.athrow, 1) := by decide +kernel
theorem dX4_clash_62 : decode cX4_clash 62 = .ok (.aload_n 0, 1) := by decide +kernel
theorem dX4_clash_63 : decode cX4_clash 63 = .ok (.getfield 10, 3) := by decide +kernel
theorem dX4_clash_66 : decode cX4_clash 66 = .ok (.iload_n 1, 1) := by decide +kernel
theorem dX4_clash_67 : decode cX4_clash 67 = .ok (.iload_n 2, 1) := by decide +kernel
theorem dX4_clash_68 : decode cX4_clash 68 = .ok (.iload_n 3, 1) := by decide +kernel
theorem dX4_clash_69 : decode cX4_clash 69 = .ok (.iload 4, 2) := by decide +kernel
theorem dX4_clash_71 : decode cX4_clash 71 = .ok (.invokevirtual 179, 3) := by decide +kernel
theorem dX4_clash_74 : decode cX4_clash 74 = .ok (.ireturn, 1) := by decide +kernel
set_option maxRecDepth 20000 in
theorem ggX4_at_X4_isSquare : GoodIn wsX4_at wsX4_isSquare := goodIn_r _ [7] (by decide +kernel) (by decide +kernel)
set_option maxRecDepth 20000 in
theorem gX4_at_X4_isSquare : GoodIn wsX4_at (va_wsS RX4 37 yX4_isSquare wsX4_isSquare) := goodIn_app (goodIn_of _ (by decide +kernel)) ggX4_at_X4_isSquare
set_option maxRecDepth 20000 in
theorem ggX4_at_X0_pointOn : GoodIn wsX4_at wsX0_pointOn := goodIn_r _ [12, 13, 14, 39, 40] (by decide +kernel) (by decide +kernel)
set_option maxRecDepth 20000 in
theorem gX4_at_X0_pointOn : GoodIn wsX4_at (wsV RX4 185 RX0 yX0_pointOn wsX0_pointOn) := goodIn_app (goodIn_of _ (by decide +kernel)) ggX4_at_X0_pointOn
set_option maxRecDepth 20000 in
theorem ggX4_at_X0_labelOn : GoodIn wsX4_at wsX0_labelOn := goodIn_r _ [18, 13, 14, 19, 20, 21, 11, 22, 23, 24, 25, 26, 27, 28, 29, 30, 31, 32, 33, 34, 39, 40] (by decide +kernel) (by decide +kernel)
set_option maxRecDepth 20000 in
theorem gX4_at_X0_labelOn : GoodIn wsX4_at (wsV RX4 188 RX0 yX0_labelOn wsX0_labelOn) := goodIn_app (goodIn_of _ (by decide +kernel)) ggX4_at_X0_labelOn
theorem dX4_at_0 : decode cX4_at 0 = .ok (.iload_n 1, 1) := by decide +kernel
theorem dX4_at_1 : decode cX4_at 1 = .ok (.iload_n 2, 1) := by decide +kernel
theorem dX4_at_2 : decode cX4_at 2 = .ok (.invokestatic 37, 3) := by decide +kernel
theorem dX4_at_5 : decode cX4_at 5 = .ok (.ifCond .ne 13, 3) := by decide +kernel
theorem dX4_at_8 : decode cX4_at 8 = .ok (.new 48, 3) := by decide +kernel
theorem dX4_at_11 : decode cX4_at 11 = .ok (.dup, 1) := by decide +kernel
theorem dX4_at_12 : decode cX4_at 12 = .ok (.ldc 183, 2) := by decide +kernel
theorem dX4_at_14 : decode cX4_at 14 = .ok (.invokespecial 52, 3) := by decide +kernel
theorem dX4_at_17 : decode cX4_at 17 = .ok (.athrow, 1) := by decide +kernel
theorem dX4_at_18 : decode cX4_at 18 = .ok (.aload_n 0, 1) := by decide +kernel
theorem dX4_at_19 : decode cX4_at 19 = .ok (.getfield 10, 3) := by decide +kernel
theorem dX4_at_22 : decode cX4_at 22 = .ok (.iload_n 1, 1) := by decide +kernel
theorem dX4_at_23 : decode cX4_at 23 = .ok (.iload_n 2, 1) := by decide +kernel
theorem dX4_at_24 : decode cX4_at 24 = .ok (.invokevirtual 185, 3) := by decide +kernel
theorem dX4_at_27 : decode cX4_at 27 = .ok (.istore_n 3, 1) := by decide +kernel
theorem dX4_at_28 : decode cX4_at 28 = .ok (.iload_n 3, 1) := by decide +kernel
theorem dX4_at_29 : decode cX4_at 29 = .ok (.iconst (-1), 1) := by decide +kernel
theorem dX4_at_30 : decode cX4_at 30 = .ok (.if_icmp .eq 5, 3) := by decide +kernel
theorem dX4_at_33 : decode cX4_at 33 = .ok (.iload_n 3, 1) := by decide +kernel
theorem dX4_at_34 : decode cX4_at 34 = .ok (.ireturn, 1) := by decide +kernel
theorem dX4_at_35 : decode cX4_at 35 = .ok (.aload_n 0, 1) := by decide +kernel
theorem dX4_at_36 : decode cX4_at 36 = .ok (.getfield 10, 3) := by decide +kernel
theorem dX4_at_39 : decode cX4_at 39 = .ok (.iload_n 1, 1) := by decide +kernel
theorem dX4_at_40 : decode cX4_at 40 = .ok (.iload_n 2, 1) := by decide +kernel
theorem dX4_at_41 : decode cX4_at 41 = .ok (.invokevirtual 188, 3) := by decide +kernel
theorem dX4_at_44 : decode cX4_at 44 = .ok (.istore 4, 2) := by decide +kernel
theorem dX4_at_46 : decode cX4_at 46 = .ok (.iload 4, 2) := by decide +kernel
theorem dX4_at_48 : decode cX4_at 48 = .ok (.iconst (-1), 1) := by decide +kernel
theorem dX4_at_49 : decode cX4_at 49 = .ok (.if_icmp .ne 7, 3) := by decide +kernel
theorem dX4_at_52 : decode cX4_at 52 = .ok (.iconst (-1), 1) := by decide +kernel
theorem dX4_at_53 : decode cX4_at 53 = .ok (.goto 8, 3) := by decide +kernel
theorem dX4_at_56 : decode cX4_at 56 = .ok (.iload 4, 2) := by decide +kernel
theorem dX4_at_58 : decode cX4_at 58 = .ok (.bipush 100, 2) := by decide +kernel
theorem dX4_at_60 : decode cX4_at 60 = .ok (.iadd, 1) := by decide +kernel
theorem dX4_at_61 : decode cX4_at 61 = .ok (.ireturn, 1) := by decide +kernel
set_option maxRecDepth 20000 in
theorem ggX4_count_X4_number : GoodIn wsX4_count wsX4_number := goodIn_r _ [7, 8, 9, 10, 11, 12, 13, 14, 15, 16, 17, 18, 19, 20, 21, 22, 23, 24, 25, 26, 27, 28, 29, 30, 31, 32, 33, 34, 35, 36, 37, 38, 39, 40, 41, 42, 43, 44, 45, 46, 47, 48, 49, 50, 51, 52, 53, 54, 55, 56, 57, 58, 59, 60, 61, 62, 63, 64, 65, 66, 67, 68, 69, 70, 71, 72, 73, 6, 74, 75, 76, 77, 78, 79, 80, 81, 82, 83, 84, 85, 86, 87, 88, 89, 90, 91, 92, 93, 94, 95, 96, 97, 98, 99, 100, 101, 102, 103, 104, 105, 106, 107, 108, 109, 110, 111, 112, 113, 114, 115, 116, 117, 118, 119, 120, 121, 122, 123, 124, 125, 126, 127, 128, 129, 130, 131, 132, 133, 134] (by decide +kernel) (by decide +kernel)
set_option maxRecDepth 20000 in
theorem gX4_count_X4_number : GoodIn wsX4_count (wsV RX4 191 RX4 yX4_number wsX4_number) := goodIn_app (goodIn_of _ (by decide +kernel)) ggX4_count_X4_number
theorem dX4_count_0 : decode cX4_count 0 = .ok (.iload_n 1, 1) := by decide +kernel
theorem dX4_count_1 : decode cX4_count 1 = .ok (.ifCond .lt 9, 3) := by decide +kernel
theorem dX4_count_4 : decode cX4_count 4 = .ok (.iload_n 1, 1) := by decide +kernel
theorem dX4_count_5 : decode cX4_count 5 = .ok (.bipush 8, 2) := by decide +kernel
theorem dX4_count_7 : decode cX4_count 7 = .ok (.if_icmp .le 13, 3) := by decide +kernel
theorem dX4_count_10 : decode cX4_count 10 = .ok (.new 48, 3) := by decide +kernel
theorem dX4_count_13 : decode cX4_count 13 = .ok (.dup, 1) := by decide +kernel
theorem dX4_count_14 : decode cX4_count 14 = .ok (.ldc 172, 2) := by decide +kernel
theorem dX4_count_16 : decode cX4_count 16 = .ok (.invokespecial 52, 3) := by decide +kernel
theorem dX4_count_19 : decode cX4_count 19 = .ok (.athrow, 1) := by decide +kernel
theorem dX4_count_20 : decode cX4_count 20 = .ok (.aload_n 0, 1) := by decide +kernel
theorem dX4_count_21 : decode cX4_count 21 = .ok (.iload_n 1, 1) := by decide +kernel
theorem dX4_count_22 : decode cX4_count 22 = .ok (.invokevirtual 191, 3) := by decide +kernel
theorem dX4_count_25 : decode cX4_count 25 = .ok (.ireturn, 1) := by decide +kernel
set_option maxRecDepth 20000 in
theorem ggX4_best_X0_has : GoodIn wsX4_best wsX0_has := goodIn_r _ [10, 11, 122, 123] (by decide +kernel) (by decide +kernel)
set_option maxRecDepth 20000 in
theorem gX4_best_X0_has : GoodIn wsX4_best (wsV RX4 71 RX0 yX0_has wsX0_has) := goodIn_app (goodIn_of _ (by decide +kernel)) ggX4_best_X0_has
set_option maxRecDepth 20000 in
theorem ggX4_best_X2_look : GoodIn wsX4_best wsX2_look := goodIn_r _ [16, 17, 18, 19, 20, 21, 22, 23, 24, 25, 26, 9, 27, 28, 29, 30, 31, 32, 11, 33, 34, 35, 36, 37, 38, 39, 40, 41, 42, 43, 15, 44, 45, 46, 47, 48, 49, 50, 51, 52, 53, 54, 55, 56, 57, 58, 59, 60, 61, 122, 123, 105, 106, 107, 108, 109, 110, 111, 112, 113, 114, 115, 116, 117, 118, 119, 120, 121] (by decide +kernel) (by decide +kernel)
set_option maxRecDepth 20000 in
theorem gX4_best_X2_look : GoodIn wsX4_best (wsV RX4 120 RX2 yX2_look wsX2_look) := goodIn_app (goodIn_of _ (by decide +kernel)) ggX4_best_X2_look
set_option maxRecDepth 20000 in
theorem ggX4_best_X2_findBest : GoodIn wsX4_best wsX2_findBest := goodIn_r _ [65, 66, 67, 68, 69, 70, 71, 72, 73, 74, 75, 15, 76, 18, 77, 19, 78, 79, 20, 80, 81, 82, 83, 84, 85, 86, 87, 88, 89, 90, 91, 92, 56, 57, 58, 45, 46, 47, 93, 94, 95, 23, 96, 97, 98, 99, 100, 105, 106, 107, 108, 109, 110, 111, 112, 113, 114, 115, 116, 117, 118, 119, 120, 121] (by decide +kernel) (by decide +kernel)
set_option maxRecDepth 20000 in
theorem gX4_best_X2_findBest : GoodIn wsX4_best (wsV RX4 194 RX2 yX2_findBest wsX2_findBest) := goodIn_app (goodIn_of _ (by decide +kernel)) ggX4_best_X2_findBest
theorem dX4_best_0 : decode cX4_best 0 = .ok (.aload_n 0, 1) := by decide +kernel
theorem dX4_best_1 : decode cX4_best 1 = .ok (.getfield 10, 3) := by decide +kernel
theorem dX4_best_4 : decode cX4_best 4 = .ok (.iload_n 1, 1) := by decide +kernel
theorem dX4_best_5 : decode cX4_best 5 = .ok (.invokevirtual 71, 3) := by decide +kernel
theorem dX4_best_8 : decode cX4_best 8 = .ok (.ifCond .ne 13, 3) := by decide +kernel
theorem dX4_best_11 : decode cX4_best 11 = .ok (.new 74, 3) := by decide +kernel
theorem dX4_best_14 : decode cX4_best 14 = .ok (.dup, 1) := by decide +kernel
theorem dX4_best_15 : decode cX4_best 15 = .ok (.ldc 76, 2) := by decide +kernel
theorem dX4_best_17 : decode cX4_best 17 = .ok (.invokespecial 78, 3) := by decide +kernel
theorem dX4_best_20 : decode cX4_best 20 = .ok (.athrow, 1) := by decide +kernel
theorem dX4_best_21 : decode cX4_best 21 = .ok (.aload_n 0, 1) := by decide +kernel
theorem dX4_best_22 : decode cX4_best 22 = .ok (.getfield 33, 3) := by decide +kernel
theorem dX4_best_25 : decode cX4_best 25 = .ok (.aload_n 0, 1) := by decide +kernel
theorem dX4_best_26 : decode cX4_best 26 = .ok (.getfield 10, 3) := by decide +kernel
theorem dX4_best_29 : decode cX4_best 29 = .ok (.invokevirtual 120, 3) := by decide +kernel
theorem dX4_best_32 : decode cX4_best 32 = .ok (.aload_n 0, 1) := by decide +kernel
theorem dX4_best_33 : decode cX4_best 33 = .ok (.getfield 33, 3) := by decide +kernel
theorem dX4_best_36 : decode cX4_best 36 = .ok (.invokevirtual 194, 3) := by decide +kernel
theorem dX4_best_39 : decode cX4_best 39 = .ok (.aload_n 0, 1) := by decide +kernel
theorem dX4_best_40 : decode cX4_best 40 = .ok (.getfield 33, 3) := by decide +kernel
theorem dX4_best_43 : decode cX4_best 43 = .ok (.getfield 197, 3) := by decide +kernel
theorem dX4_best_46 : decode cX4_best 46 = .ok (.iload_n 1, 1) := by decide +kernel
theorem dX4_best_47 : decode cX4_best 47 = .ok (.iaload, 1) := by decide +kernel
theorem dX4_best_48 : decode cX4_best 48 = .ok (.ireturn, 1) := by decide +kernel
set_option maxRecDepth 20000 in
theorem ggX4_bestWeight_X0_has : GoodIn wsX4_bestWeight wsX0_has := goodIn_r _ [9, 10, 98, 99] (by decide +kernel) (by decide +kernel)
set_option maxRecDepth 20000 in
theorem gX4_bestWeight_X0_has : GoodIn wsX4_bestWeight (wsV RX4 71 RX0 yX0_has wsX0_has) := goodIn_app (goodIn_of _ (by decide +kernel)) ggX4_bestWeight_X0_has
set_option maxRecDepth 20000 in
theorem ggX4_bestWeight_X2_look : GoodIn wsX4_bestWeight wsX2_look := goodIn_r _ [15, 16, 17, 18, 19, 20, 21, 22, 23, 24, 25, 8, 26, 27, 28, 29, 30, 31, 10, 32, 33, 34, 35, 36, 37, 38, 39, 40, 41, 42, 14, 43, 44, 45, 46, 47, 48, 49, 50, 51, 52, 53, 54, 55, 56, 57, 58, 59, 60, 98, 99, 100, 101, 102, 103, 104, 105, 106, 107, 108, 109, 110, 111, 112, 113, 114, 115, 116] (by decide +kernel) (by decide +kernel)
set_option maxRecDepth 20000 in
theorem gX4_bestWeight_X2_look : GoodIn wsX4_bestWeight (wsV RX4 120 RX2 yX2_look wsX2_look) := goodIn_app (goodIn_of _ (by decide +kernel)) ggX4_bestWeight_X2_look
set_option maxRecDepth 20000 in
theorem ggX4_bestWeight_X2_findHeaviest : GoodIn wsX4_bestWeight wsX2_findHeaviest := goodIn_r _ [64, 17, 65, 18, 66, 67, 19, 68, 69, 70, 14, 71, 72, 73, 74, 75, 76, 77, 78, 79, 80, 55, 56, 57, 44, 45, 46, 81, 82, 83, 22, 84, 85, 86, 87, 88, 89, 90, 91, 92, 93, 100, 101, 102, 103, 104, 105, 106, 107, 108, 109, 110, 111, 112, 113, 114, 115, 116] (by decide +kernel) (by decide +kernel)
set_option maxRecDepth 20000 in
theorem gX4_bestWeight_X2_findHeaviest : GoodIn wsX4_bestWeight (wsV RX4 123 RX2 yX2_findHeaviest wsX2_findHeaviest) := goodIn_app (goodIn_of _ (by decide +kernel)) ggX4_bestWeight_X2_findHeaviest
theorem dX4_bestWeight_0 : decode cX4_bestWeight 0 = .ok (.iload_n 1, 1) := by decide +kernel
theorem dX4_bestWeight_1 : decode cX4_bestWeight 1 = .ok (.iconst (-1), 1) := by decide +kernel
theorem dX4_bestWeight_2 : decode cX4_bestWeight 2 = .ok (.if_icmp .eq 24, 3) := by decide +kernel
theorem dX4_bestWeight_5 : decode cX4_bestWeight 5 = .ok (.aload_n 0, 1) := by decide +kernel
theorem dX4_bestWeight_6 : decode cX4_bestWeight 6 = .ok (.getfield 10, 3) := by decide +kernel
theorem dX4_bestWeight_9 : decode cX4_bestWeight 9 = .ok (.iload_n 1, 1) := by decide +kernel
theorem dX4_bestWeight_10 : decode cX4_bestWeight 10 = .ok (.invokevirtual 71, 3) := by decide +kernel
theorem dX4_bestWeight_13 : decode cX4_bestWeight 13 = .ok (.ifCond .ne 13, 3) := by decide +kernel
theorem dX4_bestWeight_16 : decode cX4_bestWeight 16 = .ok (.new 74, 3) := by decide +kernel
theorem dX4_bestWeight_19 : decode cX4_bestWeight 19 = .ok (.dup, 1) := by decide +kernel
theorem dX4_bestWeight_20 : decode cX4_bestWeight 20 = .ok (.ldc 76, 2) := by decide +kernel
theorem dX4_bestWeight_22 : decode cX4_bestWeight 22 = .ok (.invokespecial 78, 3) := by decide +kernel
theorem dX4_bestWeight_25 : decode cX4_bestWeight 25 = .ok (.athrow, 1) := by decide +kernel
theorem dX4_bestWeight_26 : decode cX4_bestWeight 26 = .ok (.aload_n 0, 1) := by decide +kernel
theorem dX4_bestWeight_27 : decode cX4_bestWeight 27 = .ok (.getfield 33, 3) := by decide +kernel
theorem dX4_bestWeight_30 : decode cX4_bestWeight 30 = .ok (.aload_n 0, 1) := by decide +kernel
theorem dX4_bestWeight_31 : decode cX4_bestWeight 31 = .ok (.getfield 10, 3) := by decide +kernel
theorem dX4_bestWeight_34 : decode cX4_bestWeight 34 = .ok (.invokevirtual 120, 3) := by decide +kernel
theorem dX4_bestWeight_37 : decode cX4_bestWeight 37 = .ok (.aload_n 0, 1) := by decide +kernel
theorem dX4_bestWeight_38 : decode cX4_bestWeight 38 = .ok (.getfield 33, 3) := by decide +kernel
theorem dX4_bestWeight_41 : decode cX4_bestWeight 41 = .ok (.iload_n 1, 1) := by decide +kernel
theorem dX4_bestWeight_42 : decode cX4_bestWeight 42 = .ok (.invokevirtual 123, 3) := by decide +kernel
theorem dX4_bestWeight_45 : decode cX4_bestWeight 45 = .ok (.ireturn, 1) := by decide +kernel
set_option maxRecDepth 20000 in
theorem ggX4_ifPushed_X0_has : GoodIn wsX4_ifPushed wsX0_has := goodIn_r _ [9, 10, 98, 99] (by decide +kernel) (by decide +kernel)
set_option maxRecDepth 20000 in
theorem gX4_ifPushed_X0_has : GoodIn wsX4_ifPushed (wsV RX4 71 RX0 yX0_has wsX0_has) := goodIn_app (goodIn_of _ (by decide +kernel)) ggX4_ifPushed_X0_has
set_option maxRecDepth 20000 in
theorem ggX4_ifPushed_X2_look : GoodIn wsX4_ifPushed wsX2_look := goodIn_r _ [15, 16, 17, 18, 19, 20, 21, 22, 23, 24, 25, 8, 26, 27, 28, 29, 30, 31, 10, 32, 33, 34, 35, 36, 37, 38, 39, 40, 41, 42, 14, 43, 44, 45, 46, 47, 48, 49, 50, 51, 52, 53, 54, 55, 56, 57, 58, 59, 60, 98, 99, 100, 101, 102, 103, 104, 105, 106, 107, 108, 109, 110, 111, 112, 113, 114, 115, 116] (by decide +kernel) (by decide +kernel)
set_option maxRecDepth 20000 in
theorem gX4_ifPushed_X2_look : GoodIn wsX4_ifPushed (wsV RX4 120 RX2 yX2_look wsX2_look) := goodIn_app (goodIn_of _ (by decide +kernel)) ggX4_ifPushed_X2_look
set_option maxRecDepth 20000 in
theorem ggX4_ifPushed_X2_findRoom : GoodIn wsX4_ifPushed wsX2_findRoom := goodIn_r _ [64, 21, 17, 65, 18, 66, 67, 68, 69, 70, 14, 71, 72, 73, 74, 75, 76, 77, 78, 79, 80, 55, 56, 57, 44, 45, 46, 81, 82, 83, 22, 84, 85, 86, 87, 88, 89, 90, 91, 92, 93, 100, 101, 102, 103, 104, 105, 106, 107, 108, 109, 110, 111, 112, 113, 114, 115, 116] (by decide +kernel) (by decide +kernel)
set_option maxRecDepth 20000 in
theorem gX4_ifPushed_X2_findRoom : GoodIn wsX4_ifPushed (wsV RX4 129 RX2 yX2_findRoom wsX2_findRoom) := goodIn_app (goodIn_of _ (by decide +kernel)) ggX4_ifPushed_X2_findRoom
theorem dX4_ifPushed_0 : decode cX4_ifPushed 0 = .ok (.aload_n 0, 1) := by decide +kernel
theorem dX4_ifPushed_1 : decode cX4_ifPushed 1 = .ok (.getfield 10, 3) := by decide +kernel
theorem dX4_ifPushed_4 : decode cX4_ifPushed 4 = .ok (.iload_n 1, 1) := by decide +kernel
theorem dX4_ifPushed_5 : decode cX4_ifPushed 5 = .ok (.invokevirtual 71, 3) := by decide +kernel
theorem dX4_ifPushed_8 : decode cX4_ifPushed 8 = .ok (.ifCond .ne 13, 3) := by decide +kernel
theorem dX4_ifPushed_11 : decode cX4_ifPushed 11 = .ok (.new 74, 3) := by decide +kernel
theorem dX4_ifPushed_14 : decode cX4_ifPushed 14 = .ok (.dup, 1) := by decide +kernel
theorem dX4_ifPushed_15 : decode cX4_ifPushed 15 = .ok (.ldc 76, 2) := by decide +kernel
theorem dX4_ifPushed_17 : decode cX4_ifPushed 17 = .ok (.invokespecial 78, 3) := by decide +kernel
theorem dX4_ifPushed_20 : decode cX4_ifPushed 20 = .ok (.athrow, 1) := by decide +kernel
theorem dX4_ifPushed_21 : decode cX4_ifPushed 21 = .ok (.aload_n 0, 1) := by decide +kernel
theorem dX4_ifPushed_22 : decode cX4_ifPushed 22 = .ok (.getfield 33, 3) := by decide +kernel
theorem dX4_ifPushed_25 : decode cX4_ifPushed 25 = .ok (.aload_n 0, 1) := by decide +kernel
theorem dX4_ifPushed_26 : decode cX4_ifPushed 26 = .ok (.getfield 10, 3) := by decide +kernel
theorem dX4_ifPushed_29 : decode cX4_ifPushed 29 = .ok (.invokevirtual 120, 3) := by decide +kernel
theorem dX4_ifPushed_32 : decode cX4_ifPushed 32 = .ok (.aload_n 0, 1) := by decide +kernel
theorem dX4_ifPushed_33 : decode cX4_ifPushed 33 = .ok (.getfield 33, 3) := by decide +kernel
theorem dX4_ifPushed_36 : decode cX4_ifPushed 36 = .ok (.iload_n 1, 1) := by decide +kernel
theorem dX4_ifPushed_37 : decode cX4_ifPushed 37 = .ok (.invokevirtual 129, 3) := by decide +kernel
theorem dX4_ifPushed_40 : decode cX4_ifPushed 40 = .ok (.ireturn, 1) := by decide +kernel
set_option maxRecDepth 20000 in
theorem ggX4_fullPlans_X2_look : GoodIn wsX4_fullPlans wsX2_look := goodIn_r _ [7, 8, 9, 10, 11, 12, 13, 14, 15, 16, 17, 18, 19, 20, 21, 22, 23, 24, 25, 26, 27, 28, 29, 30, 31, 32, 33, 34, 35, 36, 6, 37, 38, 39, 40, 41, 42, 43, 44, 45, 46, 47, 48, 49, 50, 51, 52, 53, 54, 66, 67, 68, 69, 70, 71, 72, 73, 74, 75, 76, 77, 78, 79, 80, 81, 82, 83, 84] (by decide +kernel) (by decide +kernel)
set_option maxRecDepth 20000 in
theorem gX4_fullPlans_X2_look : GoodIn wsX4_fullPlans (wsV RX4 120 RX2 yX2_look wsX2_look) := goodIn_app (goodIn_of _ (by decide +kernel)) ggX4_fullPlans_X2_look
set_option maxRecDepth 20000 in
theorem ggX4_fullPlans_X2_fullOnes : GoodIn wsX4_fullPlans wsX2_fullOnes := goodIn_r _ [58, 59, 60, 6, 61, 9, 10, 14, 38, 39, 40, 68, 69, 70, 71, 72, 73, 74, 75, 76, 77, 78, 79, 80, 81, 82, 83, 84] (by decide +kernel) (by decide +kernel)
set_option maxRecDepth 20000 in
theorem gX4_fullPlans_X2_fullOnes : GoodIn wsX4_fullPlans (wsV RX4 200 RX2 yX2_fullOnes wsX2_fullOnes) := goodIn_app (goodIn_of _ (by decide +kernel)) ggX4_fullPlans_X2_fullOnes
theorem dX4_fullPlans_0 : decode cX4_fullPlans 0 = .ok (.aload_n 0, 1) := by decide +kernel
theorem dX4_fullPlans_1 : decode cX4_fullPlans 1 = .ok (.getfield 33, 3) := by decide +kernel
theorem dX4_fullPlans_4 : decode cX4_fullPlans 4 = .ok (.aload_n 0, 1) := by decide +kernel
theorem dX4_fullPlans_5 : decode cX4_fullPlans 5 = .ok (.getfield 10, 3) := by decide +kernel
theorem dX4_fullPlans_8 : decode cX4_fullPlans 8 = .ok (.invokevirtual 120, 3) := by decide +kernel
theorem dX4_fullPlans_11 : decode cX4_fullPlans 11 = .ok (.aload_n 0, 1) := by decide +kernel
theorem dX4_fullPlans_12 : decode cX4_fullPlans 12 = .ok (.getfield 33, 3) := by decide +kernel
theorem dX4_fullPlans_15 : decode cX4_fullPlans 15 = .ok (.invokevirtual 200, 3) := by decide +kernel
theorem dX4_fullPlans_18 : decode cX4_fullPlans 18 = .ok (.ireturn, 1) := by decide +kernel
set_option maxRecDepth 20000 in
theorem ggX4_dearest_X2_look : GoodIn wsX4_dearest wsX2_look := goodIn_r _ [7, 8, 9, 10, 11, 12, 13, 14, 15, 16, 17, 18, 19, 20, 21, 22, 23, 24, 25, 26, 27, 28, 29, 30, 31, 32, 33, 34, 35, 36, 6, 37, 38, 39, 40, 41, 42, 43, 44, 45, 46, 47, 48, 49, 50, 51, 52, 53, 54, 104, 105, 106, 107, 108, 109, 110, 111, 112, 113, 114, 115, 116, 117, 118, 119, 120, 121, 122] (by decide +kernel) (by decide +kernel)
set_option maxRecDepth 20000 in
theorem gX4_dearest_X2_look : GoodIn wsX4_dearest (wsV RX4 120 RX2 yX2_look wsX2_look) := goodIn_app (goodIn_of _ (by decide +kernel)) ggX4_dearest_X2_look
set_option maxRecDepth 20000 in
theorem ggX4_dearest_X2_findWithoutEach : GoodIn wsX4_dearest wsX2_findWithoutEach := goodIn_r _ [58, 9, 59, 60, 61, 62, 6, 63, 64, 10, 65, 66, 11, 67, 68, 69, 70, 71, 72, 73, 74, 75, 76, 77, 78, 79, 49, 50, 51, 38, 39, 40, 80, 81, 82, 14, 83, 84, 85, 86, 87, 88, 89, 90, 91, 92, 106, 107, 108, 109, 110, 111, 112, 113, 114, 115, 116, 117, 118, 119, 120, 121, 122] (by decide +kernel) (by decide +kernel)
set_option maxRecDepth 20000 in
theorem gX4_dearest_X2_findWithoutEach : GoodIn wsX4_dearest (wsV RX4 203 RX2 yX2_findWithoutEach wsX2_findWithoutEach) := goodIn_app (goodIn_of _ (by decide +kernel)) ggX4_dearest_X2_findWithoutEach
set_option maxRecDepth 20000 in
theorem ggX4_dearest_X4_findDearest : GoodIn wsX4_dearest wsX4_findDearest := goodIn_r _ [96, 2, 97, 98, 1, 99, 100, 101, 102, 103, 104, 105, 106, 107, 108, 109, 110, 111, 112, 113, 114, 115, 116, 117, 118, 119, 120, 121, 122] (by decide +kernel) (by decide +kernel)
set_option maxRecDepth 20000 in
theorem gX4_dearest_X4_findDearest : GoodIn wsX4_dearest (wsV RX4 206 RX4 yX4_findDearest wsX4_findDearest) := goodIn_app (goodIn_of _ (by decide +kernel)) ggX4_dearest_X4_findDearest
theorem dX4_dearest_0 : decode cX4_dearest 0 = .ok (.aload_n 0, 1) := by decide +kernel
theorem dX4_dearest_1 : decode cX4_dearest 1 = .ok (.getfield 33, 3) := by decide +kernel
theorem dX4_dearest_4 : decode cX4_dearest 4 = .ok (.aload_n 0, 1) := by decide +kernel
theorem dX4_dearest_5 : decode cX4_dearest 5 = .ok (.getfield 10, 3) := by decide +kernel
theorem dX4_dearest_8 : decode cX4_dearest 8 = .ok (.invokevirtual 120, 3) := by decide +kernel
theorem dX4_dearest_11 : decode cX4_dearest 11 = .ok (.aload_n 0, 1) := by decide +kernel
theorem dX4_dearest_12 : decode cX4_dearest 12 = .ok (.getfield 33, 3) := by decide +kernel
theorem dX4_dearest_15 : decode cX4_dearest 15 = .ok (.invokevirtual 203, 3) := by decide +kernel
theorem dX4_dearest_18 : decode cX4_dearest 18 = .ok (.aload_n 0, 1) := by decide +kernel
theorem dX4_dearest_19 : decode cX4_dearest 19 = .ok (.invokevirtual 206, 3) := by decide +kernel
theorem dX4_dearest_22 : decode cX4_dearest 22 = .ok (.ireturn, 1) := by decide +kernel
set_option maxRecDepth 20000 in
theorem ggX4_standingShare_X0_allWeight : GoodIn wsX4_standingShare wsX0_allWeight := goodIn_r _ [6, 7, 8, 21, 22] (by decide +kernel) (by decide +kernel)
set_option maxRecDepth 20000 in
theorem gX4_standingShare_X0_allWeight : GoodIn wsX4_standingShare (wsV RX4 209 RX0 yX0_allWeight wsX0_allWeight) := goodIn_app (goodIn_of _ (by decide +kernel)) ggX4_standingShare_X0_allWeight
set_option maxRecDepth 20000 in
theorem ggX4_standingShare_X0_standingWeight : GoodIn wsX4_standingShare wsX0_standingWeight := goodIn_r _ [12, 7, 8, 13, 14, 15, 5, 16, 21, 22] (by decide +kernel) (by decide +kernel)
set_option maxRecDepth 20000 in
theorem gX4_standingShare_X0_standingWeight : GoodIn wsX4_standingShare (wsV RX4 212 RX0 yX0_standingWeight wsX0_standingWeight) := goodIn_app (goodIn_of _ (by decide +kernel)) ggX4_standingShare_X0_standingWeight
theorem dX4_standingShare_0 : decode cX4_standingShare 0 = .ok (.aload_n 0, 1) := by decide +kernel
theorem dX4_standingShare_1 : decode cX4_standingShare 1 = .ok (.getfield 10, 3) := by decide +kernel
theorem dX4_standingShare_4 : decode cX4_standingShare 4 = .ok (.invokevirtual 209, 3) := by decide +kernel
theorem dX4_standingShare_7 : decode cX4_standingShare 7 = .ok (.istore_n 1, 1) := by decide +kernel
theorem dX4_standingShare_8 : decode cX4_standingShare 8 = .ok (.iload_n 1, 1) := by decide +kernel
theorem dX4_standingShare_9 : decode cX4_standingShare 9 = .ok (.ifCond .ne 7, 3) := by decide +kernel
theorem dX4_standingShare_12 : decode cX4_standingShare 12 = .ok (.dconst 1, 1) := by decide +kernel
theorem dX4_standingShare_13 : decode cX4_standingShare 13 = .ok (.goto 14, 3) := by decide +kernel
theorem dX4_standingShare_16 : decode cX4_standingShare 16 = .ok (.aload_n 0, 1) := by decide +kernel
theorem dX4_standingShare_17 : decode cX4_standingShare 17 = .ok (.getfield 10, 3) := by decide +kernel
theorem dX4_standingShare_20 : decode cX4_standingShare 20 = .ok (.invokevirtual 212, 3) := by decide +kernel
theorem dX4_standingShare_23 : decode cX4_standingShare 23 = .ok (.i2d, 1) := by decide +kernel
theorem dX4_standingShare_24 : decode cX4_standingShare 24 = .ok (.iload_n 1, 1) := by decide +kernel
theorem dX4_standingShare_25 : decode cX4_standingShare 25 = .ok (.i2d, 1) := by decide +kernel
theorem dX4_standingShare_26 : decode cX4_standingShare 26 = .ok (.ddiv, 1) := by decide +kernel
theorem dX4_standingShare_27 : decode cX4_standingShare 27 = .ok (.dreturn, 1) := by decide +kernel
set_option maxRecDepth 20000 in
theorem ggX4_digest_X4_number : GoodIn wsX4_digest wsX4_number := goodIn_r _ [9, 3, 10, 2, 11, 12, 13, 14, 15, 16, 17, 18, 19, 20, 21, 22, 23, 24, 25, 26, 27, 28, 29, 30, 31, 32, 33, 34, 35, 36, 37, 38, 39, 40, 41, 42, 43, 44, 45, 46, 47, 48, 49, 50, 51, 52, 53, 54, 55, 56, 57, 58, 59, 60, 61, 62, 63, 64, 65, 66, 67, 68, 69, 70, 71, 72, 73, 8, 74, 75, 76, 77, 78, 79, 80, 81, 82, 83, 84, 85, 86, 87, 88, 89, 90, 91, 92, 93, 94, 95, 96, 97, 98, 99, 100, 101, 102, 103, 104, 105, 106, 107, 108, 221, 222, 223, 224, 242, 243, 244, 245, 246, 225, 226, 227, 228, 229, 230, 231, 232, 233, 234, 235, 236, 237, 238, 239, 240, 241] (by decide +kernel) (by decide +kernel)
set_option maxRecDepth 20000 in
theorem gX4_digest_X4_number : GoodIn wsX4_digest (wsV RX4 191 RX4 yX4_number wsX4_number) := goodIn_app (goodIn_of _ (by decide +kernel)) ggX4_digest_X4_number
set_option maxRecDepth 20000 in
theorem ggX4_digest_X4_mix : GoodIn wsX4_digest wsX4_mix := goodIn_r _ [111, 112] (by decide +kernel) (by decide +kernel)
set_option maxRecDepth 20000 in
theorem gX4_digest_X4_mix : GoodIn wsX4_digest (va_wsS RX4 217 yX4_mix wsX4_mix) := goodIn_app (goodIn_of _ (by decide +kernel)) ggX4_digest_X4_mix
set_option maxRecDepth 20000 in
theorem ggX4_digest_X2_look : GoodIn wsX4_digest wsX2_look := goodIn_r _ [60, 61, 62, 63, 64, 65, 66, 67, 68, 41, 42, 16, 43, 44, 45, 46, 47, 23, 18, 48, 49, 50, 51, 52, 53, 54, 55, 69, 70, 71, 59, 72, 73, 8, 74, 75, 76, 77, 78, 79, 80, 81, 82, 83, 84, 85, 86, 87, 88, 242, 243, 225, 226, 227, 228, 229, 230, 231, 232, 233, 234, 235, 236, 237, 238, 239, 240, 241] (by decide +kernel) (by decide +kernel)
set_option maxRecDepth 20000 in
theorem gX4_digest_X2_look : GoodIn wsX4_digest (wsV RX4 120 RX2 yX2_look wsX2_look) := goodIn_app (goodIn_of _ (by decide +kernel)) ggX4_digest_X2_look
set_option maxRecDepth 20000 in
theorem ggX4_digest_X2_findBest : GoodIn wsX4_digest wsX2_findBest := goodIn_r _ [116, 117, 118, 119, 120, 121, 122, 123, 124, 125, 126, 59, 127, 62, 128, 63, 129, 130, 64, 131, 132, 133, 134, 135, 136, 137, 138, 139, 140, 141, 142, 143, 83, 84, 85, 73, 8, 74, 144, 145, 146, 67, 147, 148, 149, 150, 151, 225, 226, 227, 228, 229, 230, 231, 232, 233, 234, 235, 236, 237, 238, 239, 240, 241] (by decide +kernel) (by decide +kernel)
set_option maxRecDepth 20000 in
theorem gX4_digest_X2_findBest : GoodIn wsX4_digest (wsV RX4 194 RX2 yX2_findBest wsX2_findBest) := goodIn_app (goodIn_of _ (by decide +kernel)) ggX4_digest_X2_findBest
set_option maxRecDepth 20000 in
theorem ggX4_digest_X2_findWithoutEach : GoodIn wsX4_digest wsX2_findWithoutEach := goodIn_r _ [155, 62, 156, 124, 125, 126, 59, 127, 128, 63, 129, 130, 64, 131, 132, 133, 134, 135, 136, 137, 138, 139, 140, 141, 142, 143, 83, 84, 85, 73, 8, 74, 144, 145, 146, 67, 147, 148, 149, 150, 151, 118, 120, 121, 122, 123, 225, 226, 227, 228, 229, 230, 231, 232, 233, 234, 235, 236, 237, 238, 239, 240, 241] (by decide +kernel) (by decide +kernel)
set_option maxRecDepth 20000 in
theorem gX4_digest_X2_findWithoutEach : GoodIn wsX4_digest (wsV RX4 203 RX2 yX2_findWithoutEach wsX2_findWithoutEach) := goodIn_app (goodIn_of _ (by decide +kernel)) ggX4_digest_X2_findWithoutEach
set_option maxRecDepth 20000 in
theorem ggX4_digest_X4_mixPoints : GoodIn wsX4_digest wsX4_mixPoints := goodIn_r _ [160, 3, 10, 2, 161, 162, 163, 164, 165, 8, 166, 167, 168, 41, 42, 16, 43, 44, 45, 46, 47, 23, 18, 48, 49, 50, 51, 52, 53, 54, 55, 169, 170, 171, 172, 40, 73, 74, 173, 174, 175, 176, 19, 20, 21, 22, 177, 76, 77, 78, 79, 80, 81, 82, 83, 84, 85, 86, 87, 88, 178, 98, 99, 100, 101, 102, 103, 104, 105, 106, 107, 108, 109, 110, 111, 112, 179, 180, 181, 59, 182, 66, 62, 128, 63, 129, 130, 131, 132, 133, 134, 135, 136, 137, 138, 139, 140, 141, 142, 143, 144, 145, 146, 67, 147, 148, 149, 150, 151, 118, 120, 121, 122, 123, 221, 222, 223, 224, 242, 243, 225, 226, 227, 228, 229, 230, 231, 232, 233, 234, 235, 236, 237, 238, 239, 240, 241] (by decide +kernel) (by decide +kernel)
set_option maxRecDepth 20000 in
theorem gX4_digest_X4_mixPoints : GoodIn wsX4_digest (wsV RX4 221 RX4 yX4_mixPoints wsX4_mixPoints) := goodIn_app (goodIn_of _ (by decide +kernel)) ggX4_digest_X4_mixPoints
set_option maxRecDepth 20000 in
theorem ggX4_digest_X4_mixPairs : GoodIn wsX4_digest wsX4_mixPairs := goodIn_r _ [186, 3, 10, 187, 76, 77, 16, 78, 23, 48, 49, 50, 51, 79, 80, 81, 82, 83, 84, 85, 86, 87, 88, 52, 53, 54, 55, 109, 110, 8, 111, 112, 221, 222, 223, 224, 242, 243] (by decide +kernel) (by decide +kernel)
set_option maxRecDepth 20000 in
theorem gX4_digest_X4_mixPairs : GoodIn wsX4_digest (wsV RX4 225 RX4 yX4_mixPairs wsX4_mixPairs) := goodIn_app (goodIn_of _ (by decide +kernel)) ggX4_digest_X4_mixPairs
set_option maxRecDepth 20000 in
theorem ggX4_digest_X2_fullOnes : GoodIn wsX4_digest wsX2_fullOnes := goodIn_r _ [191, 192, 193, 59, 194, 62, 63, 67, 73, 8, 74, 225, 226, 227, 228, 229, 230, 231, 232, 233, 234, 235, 236, 237, 238, 239, 240, 241] (by decide +kernel) (by decide +kernel)
set_option maxRecDepth 20000 in
theorem gX4_digest_X2_fullOnes : GoodIn wsX4_digest (wsV RX4 200 RX2 yX2_fullOnes wsX2_fullOnes) := goodIn_app (goodIn_of _ (by decide +kernel)) ggX4_digest_X2_fullOnes
set_option maxRecDepth 20000 in
theorem ggX4_digest_X4_findDearest : GoodIn wsX4_digest wsX4_findDearest := goodIn_r _ [198, 3, 10, 167, 2, 162, 221, 222, 223, 224, 242, 243, 225, 226, 227, 228, 229, 230, 231, 232, 233, 234, 235, 236, 237, 238, 239, 240, 241] (by decide +kernel) (by decide +kernel)
set_option maxRecDepth 20000 in
theorem gX4_digest_X4_findDearest : GoodIn wsX4_digest (wsV RX4 206 RX4 yX4_findDearest wsX4_findDearest) := goodIn_app (goodIn_of _ (by decide +kernel)) ggX4_digest_X4_findDearest
set_option maxRecDepth 20000 in
theorem ggX4_digest_X4_standingShare : GoodIn wsX4_digest wsX4_standingShare := goodIn_r _ [202, 3, 28, 29, 30, 16, 31, 18, 23, 24, 25, 26, 27, 19, 20, 21, 22, 221, 222, 223, 224, 242, 243] (by decide +kernel) (by decide +kernel)
set_option maxRecDepth 20000 in
theorem gX4_digest_X4_standingShare : GoodIn wsX4_digest (wsV RX4 231 RX4 yX4_standingShare wsX4_standingShare) := goodIn_app (goodIn_of _ (by decide +kernel)) ggX4_digest_X4_standingShare
set_option maxRecDepth 20000 in
theorem ggX4_digest_X4_bitsOf : GoodIn wsX4_digest wsX4_bitsOf := goodIn_r _ [205, 206, 207, 208] (by decide +kernel) (by decide +kernel)
set_option maxRecDepth 20000 in
theorem gX4_digest_X4_bitsOf : GoodIn wsX4_digest (va_wsS RX4 235 yX4_bitsOf wsX4_bitsOf) := goodIn_app (goodIn_of _ (by decide +kernel)) ggX4_digest_X4_bitsOf
set_option maxRecDepth 20000 in
theorem ggX4_digest_X4_mixBuffer : GoodIn wsX4_digest wsX4_mixBuffer := goodIn_r _ [212, 213, 214, 109, 110, 8, 111, 112, 215, 216, 217, 218, 219, 220, 221, 222, 223, 224, 247, 248, 249, 250, 251, 252] (by decide +kernel) (by decide +kernel)
set_option maxRecDepth 20000 in
theorem gX4_digest_X4_mixBuffer : GoodIn wsX4_digest (wsV RX4 239 RX4 yX4_mixBuffer wsX4_mixBuffer) := goodIn_app (goodIn_of _ (by decide +kernel)) ggX4_digest_X4_mixBuffer
theorem dX4_digest_0 : decode cX4_digest 0 = .ok (.ldc2_w 215, 3) := by decide +kernel
theorem dX4_digest_3 : decode cX4_digest 3 = .ok (.lstore_n 1, 1) := by decide +kernel
theorem dX4_digest_4 : decode cX4_digest 4 = .ok (.iconst 0, 1) := by decide +kernel
theorem dX4_digest_5 : decode cX4_digest 5 = .ok (.istore_n 3, 1) := by decide +kernel
theorem dX4_digest_6 : decode cX4_digest 6 = .ok (.iload_n 3, 1) := by decide +kernel
theorem dX4_digest_7 : decode cX4_digest 7 = .ok (.bipush 8, 2) := by decide +kernel
theorem dX4_digest_9 : decode cX4_digest 9 = .ok (.if_icmp .gt 20, 3) := by decide +kernel
theorem dX4_digest_12 : decode cX4_digest 12 = .ok (.lload_n 1, 1) := by decide +kernel
theorem dX4_digest_13 : decode cX4_digest 13 = .ok (.aload_n 0, 1) := by decide +kernel
theorem dX4_digest_14 : decode cX4_digest 14 = .ok (.iload_n 3, 1) := by decide +kernel
theorem dX4_digest_15 : decode cX4_digest 15 = .ok (.invokevirtual 191, 3) := by decide +kernel
theorem dX4_digest_18 : decode cX4_digest 18 = .ok (.i2l, 1) := by decide +kernel
theorem dX4_digest_19 : decode cX4_digest 19 = .ok (.invokestatic 217, 3) := by decide +kernel
theorem dX4_digest_22 : decode cX4_digest 22 = .ok (.lstore_n 1, 1) := by decide +kernel
theorem dX4_digest_23 : decode cX4_digest 23 = .ok (.iinc 3 1, 3) := by decide +kernel
theorem dX4_digest_26 : decode cX4_digest 26 = .ok (.goto (-20), 3) := by decide +kernel
theorem dX4_digest_29 : decode cX4_digest 29 = .ok (.aload_n 0, 1) := by decide +kernel
theorem dX4_digest_30 : decode cX4_digest 30 = .ok (.getfield 33, 3) := by decide +kernel
theorem dX4_digest_33 : decode cX4_digest 33 = .ok (.aload_n 0, 1) := by decide +kernel
theorem dX4_digest_34 : decode cX4_digest 34 = .ok (.getfield 10, 3) := by decide +kernel
theorem dX4_digest_37 : decode cX4_digest 37 = .ok (.invokevirtual 120, 3) := by decide +kernel
theorem dX4_digest_40 : decode cX4_digest 40 = .ok (.aload_n 0, 1) := by decide +kernel
theorem dX4_digest_41 : decode cX4_digest 41 = .ok (.getfield 33, 3) := by decide +kernel
theorem dX4_digest_44 : decode cX4_digest 44 = .ok (.invokevirtual 194, 3) := by decide +kernel
theorem dX4_digest_47 : decode cX4_digest 47 = .ok (.aload_n 0, 1) := by decide +kernel
theorem dX4_digest_48 : decode cX4_digest 48 = .ok (.getfield 33, 3) := by decide +kernel
theorem dX4_digest_51 : decode cX4_digest 51 = .ok (.invokevirtual 203, 3) := by decide +kernel
theorem dX4_digest_54 : decode cX4_digest 54 = .ok (.aload_n 0, 1) := by decide +kernel
theorem dX4_digest_55 : decode cX4_digest 55 = .ok (.lload_n 1, 1) := by decide +kernel
theorem dX4_digest_56 : decode cX4_digest 56 = .ok (.invokevirtual 221, 3) := by decide +kernel
theorem dX4_digest_59 : decode cX4_digest 59 = .ok (.lstore_n 1, 1) := by decide +kernel
theorem dX4_digest_60 : decode cX4_digest 60 = .ok (.aload_n 0, 1) := by decide +kernel
theorem dX4_digest_61 : decode cX4_digest 61 = .ok (.lload_n 1, 1) := by decide +kernel
theorem dX4_digest_62 : decode cX4_digest 62 = .ok (.invokevirtual 225, 3) := by decide +kernel
theorem dX4_digest_65 : decode cX4_digest 65 = .ok (.lstore_n 1, 1) := by decide +kernel
theorem dX4_digest_66 : decode cX4_digest 66 = .ok (.lload_n 1, 1) := by decide +kernel
theorem dX4_digest_67 : decode cX4_digest 67 = .ok (.aload_n 0, 1) := by decide +kernel
theorem dX4_digest_68 : decode cX4_digest 68 = .ok (.getfield 33, 3) := by decide +kernel
theorem dX4_digest_71 : decode cX4_digest 71 = .ok (.getfield 228, 3) := by decide +kernel
theorem dX4_digest_74 : decode cX4_digest 74 = .ok (.i2l, 1) := by decide +kernel
theorem dX4_digest_75 : decode cX4_digest 75 = .ok (.invokestatic 217, 3) := by decide +kernel
theorem dX4_digest_78 : decode cX4_digest 78 = .ok (.lstore_n 1, 1) := by decide +kernel
theorem dX4_digest_79 : decode cX4_digest 79 = .ok (.lload_n 1, 1) := by decide +kernel
theorem dX4_digest_80 : decode cX4_digest 80 = .ok (.aload_n 0, 1) := by decide +kernel
theorem dX4_digest_81 : decode cX4_digest 81 = .ok (.getfield 33, 3) := by decide +kernel
theorem dX4_digest_84 : decode cX4_digest 84 = .ok (.invokevirtual 200, 3) := by decide +kernel
theorem dX4_digest_87 : decode cX4_digest 87 = .ok (.i2l, 1) := by decide +kernel
theorem dX4_digest_88 : decode cX4_digest 88 = .ok (.invokestatic 217, 3) := by decide +kernel
theorem dX4_digest_91 : decode cX4_digest 91 = .ok (.lstore_n 1, 1) := by decide +kernel
theorem dX4_digest_92 : decode cX4_digest 92 = .ok (.lload_n 1, 1) := by decide +kernel
theorem dX4_digest_93 : decode cX4_digest 93 = .ok (.aload_n 0, 1) := by decide +kernel
theorem dX4_digest_94 : decode cX4_digest 94 = .ok (.invokevirtual 206, 3) := by decide +kernel
theorem dX4_digest_97 : decode cX4_digest 97 = .ok (.i2l, 1) := by decide +kernel
theorem dX4_digest_98 : decode cX4_digest 98 = .ok (.invokestatic 217, 3) := by decide +kernel
theorem dX4_digest_101 : decode cX4_digest 101 = .ok (.lstore_n 1, 1) := by decide +kernel
theorem dX4_digest_102 : decode cX4_digest 102 = .ok (.lload_n 1, 1) := by decide +kernel
theorem dX4_digest_103 : decode cX4_digest 103 = .ok (.aload_n 0, 1) := by decide +kernel
theorem dX4_digest_104 : decode cX4_digest 104 = .ok (.invokevirtual 231, 3) := by decide +kernel
theorem dX4_digest_107 : decode cX4_digest 107 = .ok (.invokestatic 235, 3) := by decide +kernel
theorem dX4_digest_110 : decode cX4_digest 110 = .ok (.invokestatic 217, 3) := by decide +kernel
theorem dX4_digest_113 : decode cX4_digest 113 = .ok (.lstore_n 1, 1) := by decide +kernel
theorem dX4_digest_114 : decode cX4_digest 114 = .ok (.aload_n 0, 1) := by decide +kernel
theorem dX4_digest_115 : decode cX4_digest 115 = .ok (.lload_n 1, 1) := by decide +kernel
theorem dX4_digest_116 : decode cX4_digest 116 = .ok (.invokevirtual 239, 3) := by decide +kernel
theorem dX4_digest_119 : decode cX4_digest 119 = .ok (.lreturn, 1) := by decide +kernel
theorem dX4_isSquare_0 : decode cX4_isSquare 0 = .ok (.iload_n 0, 1) := by decide +kernel
theorem dX4_isSquare_1 : decode cX4_isSquare 1 = .ok (.ifCond .lt 23, 3) := by decide +kernel
theorem dX4_isSquare_4 : decode cX4_isSquare 4 = .ok (.iload_n 0, 1) := by decide +kernel
theorem dX4_isSquare_5 : decode cX4_isSquare 5 = .ok (.bipush 60, 2) := by decide +kernel
theorem dX4_isSquare_7 : decode cX4_isSquare 7 = .ok (.if_icmp .ge 17, 3) := by decide +kernel
theorem dX4_isSquare_10 : decode cX4_isSquare 10 = .ok (.iload_n 1, 1) := by decide +kernel
theorem dX4_isSquare_11 : decode cX4_isSquare 11 = .ok (.ifCond .lt 13, 3) := by decide +kernel
theorem dX4_isSquare_14 : decode cX4_isSquare 14 = .ok (.iload_n 1, 1) := by decide +kernel
theorem dX4_isSquare_15 : decode cX4_isSquare 15 = .ok (.bipush 40, 2) := by decide +kernel
theorem dX4_isSquare_17 : decode cX4_isSquare 17 = .ok (.if_icmp .ge 7, 3) := by decide +kernel
theorem dX4_isSquare_20 : decode cX4_isSquare 20 = .ok (.iconst 1, 1) := by decide +kernel
theorem dX4_isSquare_21 : decode cX4_isSquare 21 = .ok (.goto 4, 3) := by decide +kernel
theorem dX4_isSquare_24 : decode cX4_isSquare 24 = .ok (.iconst 0, 1) := by decide +kernel
theorem dX4_isSquare_25 : decode cX4_isSquare 25 = .ok (.ireturn, 1) := by decide +kernel
theorem dX4_isSize_0 : decode cX4_isSize 0 = .ok (.iload_n 0, 1) := by decide +kernel
theorem dX4_isSize_1 : decode cX4_isSize 1 = .ok (.iconst 1, 1) := by decide +kernel
theorem dX4_isSize_2 : decode cX4_isSize 2 = .ok (.if_icmp .lt 24, 3) := by decide +kernel
theorem dX4_isSize_5 : decode cX4_isSize 5 = .ok (.iload_n 0, 1) := by decide +kernel
theorem dX4_isSize_6 : decode cX4_isSize 6 = .ok (.bipush 20, 2) := by decide +kernel
theorem dX4_isSize_8 : decode cX4_isSize 8 = .ok (.if_icmp .gt 18, 3) := by decide +kernel
theorem dX4_isSize_11 : decode cX4_isSize 11 = .ok (.iload_n 1, 1) := by decide +kernel
theorem dX4_isSize_12 : decode cX4_isSize 12 = .ok (.iconst 1, 1) := by decide +kernel
theorem dX4_isSize_13 : decode cX4_isSize 13 = .ok (.if_icmp .lt 13, 3) := by decide +kernel
theorem dX4_isSize_16 : decode cX4_isSize 16 = .ok (.iload_n 1, 1) := by decide +kernel
theorem dX4_isSize_17 : decode cX4_isSize 17 = .ok (.bipush 9, 2) := by decide +kernel
theorem dX4_isSize_19 : decode cX4_isSize 19 = .ok (.if_icmp .gt 7, 3) := by decide +kernel
theorem dX4_isSize_22 : decode cX4_isSize 22 = .ok (.iconst 1, 1) := by decide +kernel
theorem dX4_isSize_23 : decode cX4_isSize 23 = .ok (.goto 4, 3) := by decide +kernel
theorem dX4_isSize_26 : decode cX4_isSize 26 = .ok (.iconst 0, 1) := by decide +kernel
theorem dX4_isSize_27 : decode cX4_isSize 27 = .ok (.ireturn, 1) := by decide +kernel
theorem dX4_isWeight_0 : decode cX4_isWeight 0 = .ok (.iload_n 0, 1) := by decide +kernel
theorem dX4_isWeight_1 : decode cX4_isWeight 1 = .ok (.iconst 1, 1) := by decide +kernel
theorem dX4_isWeight_2 : decode cX4_isWeight 2 = .ok (.if_icmp .lt 13, 3) := by decide +kernel
theorem dX4_isWeight_5 : decode cX4_isWeight 5 = .ok (.iload_n 0, 1) := by decide +kernel
theorem dX4_isWeight_6 : decode cX4_isWeight 6 = .ok (.bipush 99, 2) := by decide +kernel
theorem dX4_isWeight_8 : decode cX4_isWeight 8 = .ok (.if_icmp .gt 7, 3) := by decide +kernel
theorem dX4_isWeight_11 : decode cX4_isWeight 11 = .ok (.iconst 1, 1) := by decide +kernel
theorem dX4_isWeight_12 : decode cX4_isWeight 12 = .ok (.goto 4, 3) := by decide +kernel
theorem dX4_isWeight_15 : decode cX4_isWeight 15 = .ok (.iconst 0, 1) := by decide +kernel
theorem dX4_isWeight_16 : decode cX4_isWeight 16 = .ok (.ireturn, 1) := by decide +kernel
theorem dX4_isCorner_0 : decode cX4_isCorner 0 = .ok (.iload_n 0, 1) := by decide +kernel
theorem dX4_isCorner_1 : decode cX4_isCorner 1 = .ok (.ifCond .lt 12, 3) := by decide +kernel
theorem dX4_isCorner_4 : decode cX4_isCorner 4 = .ok (.iload_n 0, 1) := by decide +kernel
theorem dX4_isCorner_5 : decode cX4_isCorner 5 = .ok (.iconst 4, 1) := by decide +kernel
theorem dX4_isCorner_6 : decode cX4_isCorner 6 = .ok (.if_icmp .ge 7, 3) := by decide +kernel
theorem dX4_isCorner_9 : decode cX4_isCorner 9 = .ok (.iconst 1, 1) := by decide +kernel
theorem dX4_isCorner_10 : decode cX4_isCorner 10 = .ok (.goto 4, 3) := by decide +kernel
theorem dX4_isCorner_13 : decode cX4_isCorner 13 = .ok (.iconst 0, 1) := by decide +kernel
theorem dX4_isCorner_14 : decode cX4_isCorner 14 = .ok (.ireturn, 1) := by decide +kernel
theorem dX4_putLabel_0 : decode cX4_putLabel 0 = .ok (.aload_n 0, 1) := by decide +kernel
theorem dX4_putLabel_1 : decode cX4_putLabel 1 = .ok (.getfield 10, 3) := by decide +kernel
theorem dX4_putLabel_4 : decode cX4_putLabel 4 = .ok (.getfield 89, 3) := by decide +kernel
theorem dX4_putLabel_7 : decode cX4_putLabel 7 = .ok (.bipush 40, 2) := by decide +kernel
theorem dX4_putLabel_9 : decode cX4_putLabel 9 = .ok (.iload_n 1, 1) := by decide +kernel
theorem dX4_putLabel_10 : decode cX4_putLabel 10 = .ok (.iadd, 1) := by decide +kernel
theorem dX4_putLabel_11 : decode cX4_putLabel 11 = .ok (.iaload, 1) := by decide +kernel
theorem dX4_putLabel_12 : decode cX4_putLabel 12 = .ok (.istore_n 3, 1) := by decide +kernel
theorem dX4_putLabel_13 : decode cX4_putLabel 13 = .ok (.aload_n 0, 1) := by decide +kernel
theorem dX4_putLabel_14 : decode cX4_putLabel 14 = .ok (.getfield 10, 3) := by decide +kernel
theorem dX4_putLabel_17 : decode cX4_putLabel 17 = .ok (.getfield 89, 3) := by decide +kernel
theorem dX4_putLabel_20 : decode cX4_putLabel 20 = .ok (.bipush 40, 2) := by decide +kernel
theorem dX4_putLabel_22 : decode cX4_putLabel 22 = .ok (.iload_n 1, 1) := by decide +kernel
theorem dX4_putLabel_23 : decode cX4_putLabel 23 = .ok (.iadd, 1) := by decide +kernel
theorem dX4_putLabel_24 : decode cX4_putLabel 24 = .ok (.iload_n 2, 1) := by decide +kernel
theorem dX4_putLabel_25 : decode cX4_putLabel 25 = .ok (.iastore, 1) := by decide +kernel
theorem dX4_putLabel_26 : decode cX4_putLabel 26 = .ok (.iload_n 3, 1) := by decide +kernel
theorem dX4_putLabel_27 : decode cX4_putLabel 27 = .ok (.ireturn, 1) := by decide +kernel
theorem dX4_putLabelsAsFound_0 : decode cX4_putLabelsAsFound 0 = .ok (.iconst 0, 1) := by decide +kernel
theorem dX4_putLabelsAsFound_1 : decode cX4_putLabelsAsFound 1 = .ok (.istore_n 1, 1) := by decide +kernel
theorem dX4_putLabelsAsFound_2 : decode cX4_putLabelsAsFound 2 = .ok (.iload_n 1, 1) := by decide +kernel
theorem dX4_putLabelsAsFound_3 : decode cX4_putLabelsAsFound 3 = .ok (.aload_n 0, 1) := by decide +kernel
theorem dX4_putLabelsAsFound_4 : decode cX4_putLabelsAsFound 4 = .ok (.getfield 10, 3) := by decide +kernel
theorem dX4_putLabelsAsFound_7 : decode cX4_putLabelsAsFound 7 = .ok (.getfield 242, 3) := by decide +kernel
theorem dX4_putLabelsAsFound_10 : decode cX4_putLabelsAsFound 10 = .ok (.if_icmp .ge 30, 3) := by decide +kernel
theorem dX4_putLabelsAsFound_13 : decode cX4_putLabelsAsFound 13 = .ok (.aload_n 0, 1) := by decide +kernel
theorem dX4_putLabelsAsFound_14 : decode cX4_putLabelsAsFound 14 = .ok (.getfield 10, 3) := by decide +kernel
theorem dX4_putLabelsAsFound_17 : decode cX4_putLabelsAsFound 17 = .ok (.getfield 89, 3) := by decide +kernel
theorem dX4_putLabelsAsFound_20 : decode cX4_putLabelsAsFound 20 = .ok (.bipush 40, 2) := by decide +kernel
theorem dX4_putLabelsAsFound_22 : decode cX4_putLabelsAsFound 22 = .ok (.iload_n 1, 1) := by decide +kernel
theorem dX4_putLabelsAsFound_23 : decode cX4_putLabelsAsFound 23 = .ok (.iadd, 1) := by decide +kernel
theorem dX4_putLabelsAsFound_24 : decode cX4_putLabelsAsFound 24 = .ok (.aload_n 0, 1) := by decide +kernel
theorem dX4_putLabelsAsFound_25 : decode cX4_putLabelsAsFound 25 = .ok (.getfield 33, 3) := by decide +kernel
theorem dX4_putLabelsAsFound_28 : decode cX4_putLabelsAsFound 28 = .ok (.getfield 245, 3) := by decide +kernel
theorem dX4_putLabelsAsFound_31 : decode cX4_putLabelsAsFound 31 = .ok (.iload_n 1, 1) := by decide +kernel
theorem dX4_putLabelsAsFound_32 : decode cX4_putLabelsAsFound 32 = .ok (.iaload, 1) := by decide +kernel
theorem dX4_putLabelsAsFound_33 : decode cX4_putLabelsAsFound 33 = .ok (.iastore, 1) := by decide +kernel
theorem dX4_putLabelsAsFound_34 : decode cX4_putLabelsAsFound 34 = .ok (.iinc 1 1, 3) := by decide +kernel
theorem dX4_putLabelsAsFound_37 : decode cX4_putLabelsAsFound 37 = .ok (.goto (-35), 3) := by decide +kernel
theorem dX4_putLabelsAsFound_40 : decode cX4_putLabelsAsFound 40 = .ok (.return_, 1) := by decide +kernel
set_option maxRecDepth 20000 in
theorem ggX4_insertTold_X3_pointsTold : GoodIn wsX4_insertTold wsX3_pointsTold := goodIn_r _ [7, 8, 53, 54, 55, 56, 57, 58] (by decide +kernel) (by decide +kernel)
set_option maxRecDepth 20000 in
theorem gX4_insertTold_X3_pointsTold : GoodIn wsX4_insertTold (wsV RX4 248 RX3 yX3_pointsTold wsX3_pointsTold) := goodIn_app (goodIn_of _ (by decide +kernel)) ggX4_insertTold_X3_pointsTold
set_option maxRecDepth 20000 in
theorem ggX4_insertTold_X3_part : GoodIn wsX4_insertTold wsX3_part := goodIn_r _ [12, 13, 53, 54, 55, 56, 57, 58] (by decide +kernel) (by decide +kernel)
set_option maxRecDepth 20000 in
theorem gX4_insertTold_X3_part : GoodIn wsX4_insertTold (wsV RX4 251 RX3 yX3_part wsX3_part) := goodIn_app (goodIn_of _ (by decide +kernel)) ggX4_insertTold_X3_part
set_option maxRecDepth 20000 in
theorem ggX4_insertTold_X0_takesPointOn : GoodIn wsX4_insertTold wsX0_takesPointOn := goodIn_r _ [18, 19, 20, 21, 22, 17, 23, 24, 59, 60] (by decide +kernel) (by decide +kernel)
set_option maxRecDepth 20000 in
theorem gX4_insertTold_X0_takesPointOn : GoodIn wsX4_insertTold (wsV RX4 55 RX0 yX0_takesPointOn wsX0_takesPointOn) := goodIn_app (goodIn_of _ (by decide +kernel)) ggX4_insertTold_X0_takesPointOn
set_option maxRecDepth 20000 in
theorem ggX4_insertTold_X0_insert : GoodIn wsX4_insertTold wsX0_insert := goodIn_r _ [28, 24, 19, 29, 30, 31, 17, 32, 33, 34, 35, 36, 37, 38, 39, 40, 41, 42, 43, 44, 45, 46, 47, 48, 59, 60] (by decide +kernel) (by decide +kernel)
set_option maxRecDepth 20000 in
theorem gX4_insertTold_X0_insert : GoodIn wsX4_insertTold (wsV RX4 67 RX0 yX0_insert wsX0_insert) := goodIn_app (goodIn_of _ (by decide +kernel)) ggX4_insertTold_X0_insert
theorem dX4_insertTold_0 : decode cX4_insertTold 0 = .ok (.iconst 0, 1) := by decide +kernel
theorem dX4_insertTold_1 : decode cX4_insertTold 1 = .ok (.istore_n 1, 1) := by decide +kernel
theorem dX4_insertTold_2 : decode cX4_insertTold 2 = .ok (.iconst 0, 1) := by decide +kernel
theorem dX4_insertTold_3 : decode cX4_insertTold 3 = .ok (.istore_n 2, 1) := by decide +kernel
theorem dX4_insertTold_4 : decode cX4_insertTold 4 = .ok (.iload_n 2, 1) := by decide +kernel
theorem dX4_insertTold_5 : decode cX4_insertTold 5 = .ok (.aload_n 0, 1) := by decide +kernel
theorem dX4_insertTold_6 : decode cX4_insertTold 6 = .ok (.getfield 26, 3) := by decide +kernel
theorem dX4_insertTold_9 : decode cX4_insertTold 9 = .ok (.invokevirtual 248, 3) := by decide +kernel
theorem dX4_insertTold_12 : decode cX4_insertTold 12 = .ok (.if_icmp .ge 87, 3) := by decide +kernel
theorem dX4_insertTold_15 : decode cX4_insertTold 15 = .ok (.aload_n 0, 1) := by decide +kernel
theorem dX4_insertTold_16 : decode cX4_insertTold 16 = .ok (.getfield 26, 3) := by decide +kernel
theorem dX4_insertTold_19 : decode cX4_insertTold 19 = .ok (.iload_n 2, 1) := by decide +kernel
theorem dX4_insertTold_20 : decode cX4_insertTold 20 = .ok (.iconst 0, 1) := by decide +kernel
theorem dX4_insertTold_21 : decode cX4_insertTold 21 = .ok (.invokevirtual 251, 3) := by decide +kernel
theorem dX4_insertTold_24 : decode cX4_insertTold 24 = .ok (.istore_n 3, 1) := by decide +kernel
theorem dX4_insertTold_25 : decode cX4_insertTold 25 = .ok (.aload_n 0, 1) := by decide +kernel
theorem dX4_insertTold_26 : decode cX4_insertTold 26 = .ok (.getfield 26, 3) := by decide +kernel
theorem dX4_insertTold_29 : decode cX4_insertTold 29 = .ok (.iload_n 2, 1) := by decide +kernel
theorem dX4_insertTold_30 : decode cX4_insertTold 30 = .ok (.iconst 1, 1) := by decide +kernel
theorem dX4_insertTold_31 : decode cX4_insertTold 31 = .ok (.invokevirtual 251, 3) := by decide +kernel
theorem dX4_insertTold_34 : decode cX4_insertTold 34 = .ok (.istore 4, 2) := by decide +kernel
theorem dX4_insertTold_36 : decode cX4_insertTold 36 = .ok (.aload_n 0, 1) := by decide +kernel
theorem dX4_insertTold_37 : decode cX4_insertTold 37 = .ok (.getfield 10, 3) := by decide +kernel
theorem dX4_insertTold_40 : decode cX4_insertTold 40 = .ok (.iload_n 3, 1) := by decide +kernel
theorem dX4_insertTold_41 : decode cX4_insertTold 41 = .ok (.iload 4, 2) := by decide +kernel
theorem dX4_insertTold_43 : decode cX4_insertTold 43 = .ok (.invokevirtual 55, 3) := by decide +kernel
theorem dX4_insertTold_46 : decode cX4_insertTold 46 = .ok (.ifCond .ne 6, 3) := by decide +kernel
theorem dX4_insertTold_49 : decode cX4_insertTold 49 = .ok (.goto 50, 3) := by decide +kernel
theorem dX4_insertTold_52 : decode cX4_insertTold 52 = .ok (.aload_n 0, 1) := by decide +kernel
theorem dX4_insertTold_53 : decode cX4_insertTold 53 = .ok (.getfield 10, 3) := by decide +kernel
theorem dX4_insertTold_56 : decode cX4_insertTold 56 = .ok (.iload_n 3, 1) := by decide +kernel
theorem dX4_insertTold_57 : decode cX4_insertTold 57 = .ok (.iload 4, 2) := by decide +kernel
theorem dX4_insertTold_59 : decode cX4_insertTold 59 = .ok (.aload_n 0, 1) := by decide +kernel
theorem dX4_insertTold_60 : decode cX4_insertTold 60 = .ok (.getfield 26, 3) := by decide +kernel
theorem dX4_insertTold_63 : decode cX4_insertTold 63 = .ok (.iload_n 2, 1) := by decide +kernel
theorem dX4_insertTold_64 : decode cX4_insertTold 64 = .ok (.iconst 2, 1) := by decide +kernel
theorem dX4_insertTold_65 : decode cX4_insertTold 65 = .ok (.invokevirtual 251, 3) := by decide +kernel
theorem dX4_insertTold_68 : decode cX4_insertTold 68 = .ok (.aload_n 0, 1) := by decide +kernel
theorem dX4_insertTold_69 : decode cX4_insertTold 69 = .ok (.getfield 26, 3) := by decide +kernel
theorem dX4_insertTold_72 : decode cX4_insertTold 72 = .ok (.iload_n 2, 1) := by decide +kernel
theorem dX4_insertTold_73 : decode cX4_insertTold 73 = .ok (.iconst 3, 1) := by decide +kernel
theorem dX4_insertTold_74 : decode cX4_insertTold 74 = .ok (.invokevirtual 251, 3) := by decide +kernel
theorem dX4_insertTold_77 : decode cX4_insertTold 77 = .ok (.aload_n 0, 1) := by decide +kernel
theorem dX4_insertTold_78 : decode cX4_insertTold 78 = .ok (.getfield 26, 3) := by decide +kernel
theorem dX4_insertTold_81 : decode cX4_insertTold 81 = .ok (.iload_n 2, 1) := by decide +kernel
theorem dX4_insertTold_82 : decode cX4_insertTold 82 = .ok (.iconst 4, 1) := by decide +kernel
theorem dX4_insertTold_83 : decode cX4_insertTold 83 = .ok (.invokevirtual 251, 3) := by decide +kernel
theorem dX4_insertTold_86 : decode cX4_insertTold 86 = .ok (.invokevirtual 67, 3) := by decide +kernel
theorem dX4_insertTold_89 : decode cX4_insertTold 89 = .ok (.pop, 1) := by decide +kernel
theorem dX4_insertTold_90 : decode cX4_insertTold 90 = .ok (.iinc 1 1, 3) := by decide +kernel
theorem dX4_insertTold_93 : decode cX4_insertTold 93 = .ok (.iinc 2 1, 3) := by decide +kernel
theorem dX4_insertTold_96 : decode cX4_insertTold 96 = .ok (.goto (-92), 3) := by decide +kernel
theorem dX4_insertTold_99 : decode cX4_insertTold 99 = .ok (.iload_n 1, 1) := by decide +kernel
theorem dX4_insertTold_100 : decode cX4_insertTold 100 = .ok (.ireturn, 1) := by decide +kernel
set_option maxRecDepth 20000 in
theorem ggX4_property_X0_openMask : GoodIn wsX4_property wsX0_openMask := goodIn_r _ [7, 8, 9, 10, 6, 11, 12, 13, 14, 15, 16, 17, 18, 19, 20, 21, 68, 69] (by decide +kernel) (by decide +kernel)
set_option maxRecDepth 20000 in
theorem gX4_property_X0_openMask : GoodIn wsX4_property (wsV RX4 95 RX0 yX0_openMask wsX0_openMask) := goodIn_app (goodIn_of _ (by decide +kernel)) ggX4_property_X0_openMask
set_option maxRecDepth 20000 in
theorem ggX4_property_X0_freeMask : GoodIn wsX4_property wsX0_freeMask := goodIn_r _ [25, 26, 4, 5, 6, 7, 8, 9, 10, 11, 12, 13, 14, 15, 16, 17, 18, 19, 20, 21, 27, 28, 29, 30, 31, 32, 33, 34, 35, 36, 37, 38, 39, 40, 41, 42, 43, 44, 45, 46, 47, 48, 49, 50, 51, 68, 69] (by decide +kernel) (by decide +kernel)
set_option maxRecDepth 20000 in
theorem gX4_property_X0_freeMask : GoodIn wsX4_property (wsV RX4 108 RX0 yX0_freeMask wsX0_freeMask) := goodIn_app (goodIn_of _ (by decide +kernel)) ggX4_property_X0_freeMask
set_option maxRecDepth 20000 in
theorem ggX4_property_X0_leaderCrossings : GoodIn wsX4_property wsX0_leaderCrossings := goodIn_r _ [55, 13, 56, 57, 58, 6, 59, 12, 60, 61, 62, 63, 34, 35, 36, 37, 14, 15, 16, 17, 18, 19, 20, 21, 68, 69] (by decide +kernel) (by decide +kernel)
set_option maxRecDepth 20000 in
theorem gX4_property_X0_leaderCrossings : GoodIn wsX4_property (wsV RX4 254 RX0 yX0_leaderCrossings wsX0_leaderCrossings) := goodIn_app (goodIn_of _ (by decide +kernel)) ggX4_property_X0_leaderCrossings
theorem dX4_property_0 : decode cX4_property 0 = .ok (.iload_n 2, 1) := by decide +kernel
theorem dX4_property_1 : decode cX4_property 1 = .ok (.tableswitch 54 6 8 #[27, 36, 45], 27) := by decide +kernel
theorem dX4_property_28 : decode cX4_property 28 = .ok (.aload_n 0, 1) := by decide +kernel
theorem dX4_property_29 : decode cX4_property 29 = .ok (.getfield 10, 3) := by decide +kernel
theorem dX4_property_32 : decode cX4_property 32 = .ok (.iload_n 1, 1) := by decide +kernel
theorem dX4_property_33 : decode cX4_property 33 = .ok (.invokevirtual 95, 3) := by decide +kernel
theorem dX4_property_36 : decode cX4_property 36 = .ok (.ireturn, 1) := by decide +kernel
theorem dX4_property_37 : decode cX4_property 37 = .ok (.aload_n 0, 1) := by decide +kernel
theorem dX4_property_38 : decode cX4_property 38 = .ok (.getfield 10, 3) := by decide +kernel
theorem dX4_property_41 : decode cX4_property 41 = .ok (.iload_n 1, 1) := by decide +kernel
theorem dX4_property_42 : decode cX4_property 42 = .ok (.invokevirtual 108, 3) := by decide +kernel
theorem dX4_property_45 : decode cX4_property 45 = .ok (.ireturn, 1) := by decide +kernel
theorem dX4_property_46 : decode cX4_property 46 = .ok (.aload_n 0, 1) := by decide +kernel
theorem dX4_property_47 : decode cX4_property 47 = .ok (.getfield 10, 3) := by decide +kernel
theorem dX4_property_50 : decode cX4_property 50 = .ok (.iload_n 1, 1) := by decide +kernel
theorem dX4_property_51 : decode cX4_property 51 = .ok (.invokevirtual 254, 3) := by decide +kernel
theorem dX4_property_54 : decode cX4_property 54 = .ok (.ireturn, 1) := by decide +kernel
theorem dX4_property_55 : decode cX4_property 55 = .ok (.aload_n 0, 1) := by decide +kernel
theorem dX4_property_56 : decode cX4_property 56 = .ok (.getfield 10, 3) := by decide +kernel
theorem dX4_property_59 : decode cX4_property 59 = .ok (.getfield 89, 3) := by decide +kernel
theorem dX4_property_62 : decode cX4_property 62 = .ok (.iload_n 2, 1) := by decide +kernel
theorem dX4_property_63 : decode cX4_property 63 = .ok (.bipush 8, 2) := by decide +kernel
theorem dX4_property_65 : decode cX4_property 65 = .ok (.imul, 1) := by decide +kernel
theorem dX4_property_66 : decode cX4_property 66 = .ok (.iload_n 1, 1) := by decide +kernel
theorem dX4_property_67 : decode cX4_property 67 = .ok (.iadd, 1) := by decide +kernel
theorem dX4_property_68 : decode cX4_property 68 = .ok (.iaload, 1) := by decide +kernel
theorem dX4_property_69 : decode cX4_property 69 = .ok (.ireturn, 1) := by decide +kernel
set_option maxRecDepth 20000 in
theorem ggX4_number_X0_standingLabels : GoodIn wsX4_number wsX0_standingLabels := goodIn_r _ [10, 11, 12, 13, 14, 9, 15, 16, 107, 108] (by decide +kernel) (by decide +kernel)
set_option maxRecDepth 20000 in
theorem gX4_number_X0_standingLabels : GoodIn wsX4_number (wsV RX4 137 RX0 yX0_standingLabels wsX0_standingLabels) := goodIn_app (goodIn_of _ (by decide +kernel)) ggX4_number_X0_standingLabels
set_option maxRecDepth 20000 in
theorem ggX4_number_X0_standingWeight : GoodIn wsX4_number wsX0_standingWeight := goodIn_r _ [20, 11, 16, 12, 13, 14, 9, 15, 107, 108] (by decide +kernel) (by decide +kernel)
set_option maxRecDepth 20000 in
theorem gX4_number_X0_standingWeight : GoodIn wsX4_number (wsV RX4 212 RX0 yX0_standingWeight wsX0_standingWeight) := goodIn_app (goodIn_of _ (by decide +kernel)) ggX4_number_X0_standingWeight
set_option maxRecDepth 20000 in
theorem ggX4_number_X0_allWeight : GoodIn wsX4_number wsX0_allWeight := goodIn_r _ [24, 11, 16, 107, 108] (by decide +kernel) (by decide +kernel)
set_option maxRecDepth 20000 in
theorem gX4_number_X0_allWeight : GoodIn wsX4_number (wsV RX4 209 RX0 yX0_allWeight wsX0_allWeight) := goodIn_app (goodIn_of _ (by decide +kernel)) ggX4_number_X0_allWeight
set_option maxRecDepth 20000 in
theorem ggX4_number_X0_standingSquares : GoodIn wsX4_number wsX0_standingSquares := goodIn_r _ [28, 11, 16, 12, 13, 14, 9, 15, 107, 108] (by decide +kernel) (by decide +kernel)
set_option maxRecDepth 20000 in
theorem gX4_number_X0_standingSquares : GoodIn wsX4_number (wsV RX4 257 RX0 yX0_standingSquares wsX0_standingSquares) := goodIn_app (goodIn_of _ (by decide +kernel)) ggX4_number_X0_standingSquares
set_option maxRecDepth 20000 in
theorem ggX4_number_X0_pointsWithoutOpenCorner : GoodIn wsX4_number wsX0_pointsWithoutOpenCorner := goodIn_r _ [32, 11, 33, 34, 35, 9, 36, 37, 38, 39, 40, 16, 41, 42, 43, 44, 45, 46, 47, 48, 107, 108] (by decide +kernel) (by decide +kernel)
set_option maxRecDepth 20000 in
theorem gX4_number_X0_pointsWithoutOpenCorner : GoodIn wsX4_number (wsV RX4 260 RX0 yX0_pointsWithoutOpenCorner wsX0_pointsWithoutOpenCorner) := goodIn_app (goodIn_of _ (by decide +kernel)) ggX4_number_X0_pointsWithoutOpenCorner
set_option maxRecDepth 20000 in
theorem ggX4_number_X2_look : GoodIn wsX4_number wsX2_look := goodIn_r _ [53, 54, 55, 56, 57, 58, 59, 60, 61, 34, 35, 9, 36, 37, 38, 39, 40, 16, 11, 41, 42, 43, 44, 45, 46, 47, 48, 62, 63, 64, 52, 65, 66, 67, 68, 69, 70, 71, 72, 73, 74, 75, 76, 77, 78, 79, 80, 81, 82, 107, 108, 112, 113, 114, 115, 116, 117, 118, 119, 120, 121, 122, 123, 124, 125, 126, 127, 128] (by decide +kernel) (by decide +kernel)
set_option maxRecDepth 20000 in
theorem gX4_number_X2_look : GoodIn wsX4_number (wsV RX4 120 RX2 yX2_look wsX2_look) := goodIn_app (goodIn_of _ (by decide +kernel)) ggX4_number_X2_look
set_option maxRecDepth 20000 in
theorem ggX4_number_X2_clashingPairs : GoodIn wsX4_number wsX2_clashingPairs := goodIn_r _ [86, 55, 60, 112, 113, 114, 115, 116, 117, 118, 119, 120, 121, 122, 123, 124, 125, 126, 127, 128] (by decide +kernel) (by decide +kernel)
set_option maxRecDepth 20000 in
theorem gX4_number_X2_clashingPairs : GoodIn wsX4_number (wsV RX4 263 RX2 yX2_clashingPairs wsX2_clashingPairs) := goodIn_app (goodIn_of _ (by decide +kernel)) ggX4_number_X2_clashingPairs
set_option maxRecDepth 20000 in
theorem ggX4_number_X0_crossingsOfDropped : GoodIn wsX4_number wsX0_crossingsOfDropped := goodIn_r _ [90, 11, 12, 13, 14, 9, 15, 16, 91, 92, 93, 94, 95, 96, 97, 98, 99, 100, 101, 102, 41, 42, 43, 44, 45, 46, 47, 48, 107, 108] (by decide +kernel) (by decide +kernel)
set_option maxRecDepth 20000 in
theorem gX4_number_X0_crossingsOfDropped : GoodIn wsX4_number (wsV RX4 266 RX0 yX0_crossingsOfDropped wsX0_crossingsOfDropped) := goodIn_app (goodIn_of _ (by decide +kernel)) ggX4_number_X0_crossingsOfDropped
theorem dX4_number_0 : decode cX4_number 0 = .ok (.iload_n 1, 1) := by decide +kernel
theorem dX4_number_1 : decode cX4_number 1 = .ok (.tableswitch 130 0 7 #[47, 55, 63, 71, 87, 95, 103, 122], 47) := by decide +kernel
theorem dX4_number_48 : decode cX4_number 48 = .ok (.aload_n 0, 1) := by decide +kernel
theorem dX4_number_49 : decode cX4_number 49 = .ok (.getfield 10, 3) := by decide +kernel
theorem dX4_number_52 : decode cX4_number 52 = .ok (.getfield 242, 3) := by decide +kernel
theorem dX4_number_55 : decode cX4_number 55 = .ok (.ireturn, 1) := by decide +kernel
theorem dX4_number_56 : decode cX4_number 56 = .ok (.aload_n 0, 1) := by decide +kernel
theorem dX4_number_57 : decode cX4_number 57 = .ok (.getfield 10, 3) := by decide +kernel
theorem dX4_number_60 : decode cX4_number 60 = .ok (.invokevirtual 137, 3) := by decide +kernel
theorem dX4_number_63 : decode cX4_number 63 = .ok (.ireturn, 1) := by decide +kernel
theorem dX4_number_64 : decode cX4_number 64 = .ok (.aload_n 0, 1) := by decide +kernel
theorem dX4_number_65 : decode cX4_number 65 = .ok (.getfield 10, 3) := by decide +kernel
theorem dX4_number_68 : decode cX4_number 68 = .ok (.invokevirtual 212, 3) := by decide +kernel
theorem dX4_number_71 : decode cX4_number 71 = .ok (.ireturn, 1) := by decide +kernel
theorem dX4_number_72 : decode cX4_number 72 = .ok (.aload_n 0, 1) := by decide +kernel
theorem dX4_number_73 : decode cX4_number 73 = .ok (.getfield 10, 3) := by decide +kernel
theorem dX4_number_76 : decode cX4_number 76 = .ok (.invokevirtual 209, 3) := by decide +kernel
theorem dX4_number_79 : decode cX4_number 79 = .ok (.aload_n 0, 1) := by decide +kernel
theorem dX4_number_80 : decode cX4_number 80 = .ok (.getfield 10, 3) := by decide +kernel
theorem dX4_number_83 : decode cX4_number 83 = .ok (.invokevirtual 212, 3) := by decide +kernel
theorem dX4_number_86 : decode cX4_number 86 = .ok (.isub, 1) := by decide +kernel
theorem dX4_number_87 : decode cX4_number 87 = .ok (.ireturn, 1) := by decide +kernel
theorem dX4_number_88 : decode cX4_number 88 = .ok (.aload_n 0, 1) := by decide +kernel
theorem dX4_number_89 : decode cX4_number 89 = .ok (.getfield 10, 3) := by decide +kernel
theorem dX4_number_92 : decode cX4_number 92 = .ok (.invokevirtual 257, 3) := by decide +kernel
theorem dX4_number_95 : decode cX4_number 95 = .ok (.ireturn, 1) := by decide +kernel
theorem dX4_number_96 : decode cX4_number 96 = .ok (.aload_n 0, 1) := by decide +kernel
theorem dX4_number_97 : decode cX4_number 97 = .ok (.getfield 10, 3) := by decide +kernel
theorem dX4_number_100 : decode cX4_number 100 = .ok (.invokevirtual 260, 3) := by decide +kernel
theorem dX4_number_103 : decode cX4_number 103 = .ok (.ireturn, 1) := by decide +kernel
theorem dX4_number_104 : decode cX4_number 104 = .ok (.aload_n 0, 1) := by decide +kernel
theorem dX4_number_105 : decode cX4_number 105 = .ok (.getfield 33, 3) := by decide +kernel
theorem dX4_number_108 : decode cX4_number 108 = .ok (.aload_n 0, 1) := by decide +kernel
theorem dX4_number_109 : decode cX4_number 109 = .ok (.getfield 10, 3) := by decide +kernel
theorem dX4_number_112 : decode cX4_number 112 = .ok (.invokevirtual 120, 3) := by decide +kernel
theorem dX4_number_115 : decode cX4_number 115 = .ok (.aload_n 0, 1) := by decide +kernel
theorem dX4_number_116 : decode cX4_number 116 = .ok (.getfield 33, 3) := by decide +kernel
theorem dX4_number_119 : decode cX4_number 119 = .ok (.invokevirtual 263, 3) := by decide +kernel
theorem dX4_number_122 : decode cX4_number 122 = .ok (.ireturn, 1) := by decide +kernel
theorem dX4_number_123 : decode cX4_number 123 = .ok (.aload_n 0, 1) := by decide +kernel
theorem dX4_number_124 : decode cX4_number 124 = .ok (.getfield 10, 3) := by decide +kernel
theorem dX4_number_127 : decode cX4_number 127 = .ok (.invokevirtual 266, 3) := by decide +kernel
theorem dX4_number_130 : decode cX4_number 130 = .ok (.ireturn, 1) := by decide +kernel
theorem dX4_number_131 : decode cX4_number 131 = .ok (.aload_n 0, 1) := by decide +kernel
theorem dX4_number_132 : decode cX4_number 132 = .ok (.getfield 19, 3) := by decide +kernel
theorem dX4_number_135 : decode cX4_number 135 = .ok (.getfield 164, 3) := by decide +kernel
theorem dX4_number_138 : decode cX4_number 138 = .ok (.ireturn, 1) := by decide +kernel
theorem dX4_findDearest_0 : decode cX4_findDearest 0 = .ok (.iconst (-1), 1) := by decide +kernel
theorem dX4_findDearest_1 : decode cX4_findDearest 1 = .ok (.istore_n 1, 1) := by decide +kernel
theorem dX4_findDearest_2 : decode cX4_findDearest 2 = .ok (.iconst 0, 1) := by decide +kernel
theorem dX4_findDearest_3 : decode cX4_findDearest 3 = .ok (.istore_n 2, 1) := by decide +kernel
theorem dX4_findDearest_4 : decode cX4_findDearest 4 = .ok (.iconst 0, 1) := by decide +kernel
theorem dX4_findDearest_5 : decode cX4_findDearest 5 = .ok (.istore_n 3, 1) := by decide +kernel
theorem dX4_findDearest_6 : decode cX4_findDearest 6 = .ok (.iload_n 3, 1) := by decide +kernel
theorem dX4_findDearest_7 : decode cX4_findDearest 7 = .ok (.aload_n 0, 1) := by decide +kernel
theorem dX4_findDearest_8 : decode cX4_findDearest 8 = .ok (.getfield 10, 3) := by decide +kernel
theorem dX4_findDearest_11 : decode cX4_findDearest 11 = .ok (.getfield 242, 3) := by decide +kernel
theorem dX4_findDearest_14 : decode cX4_findDearest 14 = .ok (.if_icmp .ge 49, 3) := by decide +kernel
theorem dX4_findDearest_17 : decode cX4_findDearest 17 = .ok (.aload_n 0, 1) := by decide +kernel
theorem dX4_findDearest_18 : decode cX4_findDearest 18 = .ok (.getfield 10, 3) := by decide +kernel
theorem dX4_findDearest_21 : decode cX4_findDearest 21 = .ok (.getfield 89, 3) := by decide +kernel
theorem dX4_findDearest_24 : decode cX4_findDearest 24 = .ok (.bipush 32, 2) := by decide +kernel
theorem dX4_findDearest_26 : decode cX4_findDearest 26 = .ok (.iload_n 3, 1) := by decide +kernel
theorem dX4_findDearest_27 : decode cX4_findDearest 27 = .ok (.iadd, 1) := by decide +kernel
theorem dX4_findDearest_28 : decode cX4_findDearest 28 = .ok (.iaload, 1) := by decide +kernel
theorem dX4_findDearest_29 : decode cX4_findDearest 29 = .ok (.aload_n 0, 1) := by decide +kernel
theorem dX4_findDearest_30 : decode cX4_findDearest 30 = .ok (.getfield 33, 3) := by decide +kernel
theorem dX4_findDearest_33 : decode cX4_findDearest 33 = .ok (.getfield 269, 3) := by decide +kernel
theorem dX4_findDearest_36 : decode cX4_findDearest 36 = .ok (.iload_n 3, 1) := by decide +kernel
theorem dX4_findDearest_37 : decode cX4_findDearest 37 = .ok (.iaload, 1) := by decide +kernel
theorem dX4_findDearest_38 : decode cX4_findDearest 38 = .ok (.iadd, 1) := by decide +kernel
theorem dX4_findDearest_39 : decode cX4_findDearest 39 = .ok (.istore 4, 2) := by decide +kernel
theorem dX4_findDearest_41 : decode cX4_findDearest 41 = .ok (.iload_n 1, 1) := by decide +kernel
theorem dX4_findDearest_42 : decode cX4_findDearest 42 = .ok (.iconst (-1), 1) := by decide +kernel
theorem dX4_findDearest_43 : decode cX4_findDearest 43 = .ok (.if_icmp .eq 9, 3) := by decide +kernel
theorem dX4_findDearest_46 : decode cX4_findDearest 46 = .ok (.iload 4, 2) := by decide +kernel
theorem dX4_findDearest_48 : decode cX4_findDearest 48 = .ok (.iload_n 2, 1) := by decide +kernel
theorem dX4_findDearest_49 : decode cX4_findDearest 49 = .ok (.if_icmp .le 8, 3) := by decide +kernel
theorem dX4_findDearest_52 : decode cX4_findDearest 52 = .ok (.iload_n 3, 1) := by decide +kernel
theorem dX4_findDearest_53 : decode cX4_findDearest 53 = .ok (.istore_n 1, 1) := by decide +kernel
theorem dX4_findDearest_54 : decode cX4_findDearest 54 = .ok (.iload 4, 2) := by decide +kernel
theorem dX4_findDearest_56 : decode cX4_findDearest 56 = .ok (.istore_n 2, 1) := by decide +kernel
theorem dX4_findDearest_57 : decode cX4_findDearest 57 = .ok (.iinc 3 1, 3) := by decide +kernel
theorem dX4_findDearest_60 : decode cX4_findDearest 60 = .ok (.goto (-54), 3) := by decide +kernel
theorem dX4_findDearest_63 : decode cX4_findDearest 63 = .ok (.iload_n 1, 1) := by decide +kernel
theorem dX4_findDearest_64 : decode cX4_findDearest 64 = .ok (.ireturn, 1) := by decide +kernel
theorem dX4_mix_0 : decode cX4_mix 0 = .ok (.ldc2_w 272, 3) := by decide +kernel
theorem dX4_mix_3 : decode cX4_mix 3 = .ok (.lload_n 0, 1) := by decide +kernel
theorem dX4_mix_4 : decode cX4_mix 4 = .ok (.lmul, 1) := by decide +kernel
theorem dX4_mix_5 : decode cX4_mix 5 = .ok (.lload_n 2, 1) := by decide +kernel
theorem dX4_mix_6 : decode cX4_mix 6 = .ok (.ladd, 1) := by decide +kernel
theorem dX4_mix_7 : decode cX4_mix 7 = .ok (.lreturn, 1) := by decide +kernel
set_option maxRecDepth 20000 in
theorem ggX4_mixPoints_X4_property : GoodIn wsX4_mixPoints wsX4_property := goodIn_r _ [10, 1, 11, 12, 13, 14, 15, 16, 17, 18, 19, 20, 21, 22, 23, 24, 25, 26, 27, 28, 29, 30, 31, 32, 33, 34, 35, 36, 9, 37, 38, 39, 40, 41, 42, 43, 44, 45, 46, 47, 48, 49, 50, 51, 52, 53, 54, 55, 56, 57, 58, 59, 60, 61, 62, 63, 64, 65, 66, 67, 68, 69, 70, 71, 114, 115, 116, 117, 118, 119] (by decide +kernel) (by decide +kernel)
set_option maxRecDepth 20000 in
theorem gX4_mixPoints_X4_property : GoodIn wsX4_mixPoints (wsV RX4 174 RX4 yX4_property wsX4_property) := goodIn_app (goodIn_of _ (by decide +kernel)) ggX4_mixPoints_X4_property
set_option maxRecDepth 20000 in
theorem ggX4_mixPoints_X4_mix : GoodIn wsX4_mixPoints wsX4_mix := goodIn_r _ [74, 75] (by decide +kernel) (by decide +kernel)
set_option maxRecDepth 20000 in
theorem gX4_mixPoints_X4_mix : GoodIn wsX4_mixPoints (va_wsS RX4 217 yX4_mix wsX4_mix) := goodIn_app (goodIn_of _ (by decide +kernel)) ggX4_mixPoints_X4_mix
set_option maxRecDepth 20000 in
theorem ggX4_mixPoints_X2_findRoom : GoodIn wsX4_mixPoints wsX2_findRoom := goodIn_r _ [80, 81, 82, 83, 84, 85, 86, 87, 88, 89, 79, 90, 91, 92, 93, 94, 95, 96, 97, 98, 99, 54, 55, 56, 36, 9, 37, 100, 101, 102, 103, 104, 105, 106, 107, 108, 109, 110, 111, 112, 113, 120, 121, 122, 123, 124, 125, 126, 127, 128, 129, 130, 131, 132, 133, 134, 135, 136] (by decide +kernel) (by decide +kernel)
set_option maxRecDepth 20000 in
theorem gX4_mixPoints_X2_findRoom : GoodIn wsX4_mixPoints (wsV RX4 129 RX2 yX2_findRoom wsX2_findRoom) := goodIn_app (goodIn_of _ (by decide +kernel)) ggX4_mixPoints_X2_findRoom
theorem dX4_mixPoints_0 : decode cX4_mixPoints 0 = .ok (.lload_n 1, 1) := by decide +kernel
theorem dX4_mixPoints_1 : decode cX4_mixPoints 1 = .ok (.lstore_n 3, 1) := by decide +kernel
theorem dX4_mixPoints_2 : decode cX4_mixPoints 2 = .ok (.iconst 0, 1) := by decide +kernel
theorem dX4_mixPoints_3 : decode cX4_mixPoints 3 = .ok (.istore 5, 2) := by decide +kernel
theorem dX4_mixPoints_5 : decode cX4_mixPoints 5 = .ok (.iload 5, 2) := by decide +kernel
theorem dX4_mixPoints_7 : decode cX4_mixPoints 7 = .ok (.aload_n 0, 1) := by decide +kernel
theorem dX4_mixPoints_8 : decode cX4_mixPoints 8 = .ok (.getfield 10, 3) := by decide +kernel
theorem dX4_mixPoints_11 : decode cX4_mixPoints 11 = .ok (.getfield 242, 3) := by decide +kernel
theorem dX4_mixPoints_14 : decode cX4_mixPoints 14 = .ok (.if_icmp .ge 86, 3) := by decide +kernel
theorem dX4_mixPoints_17 : decode cX4_mixPoints 17 = .ok (.iconst 0, 1) := by decide +kernel
theorem dX4_mixPoints_18 : decode cX4_mixPoints 18 = .ok (.istore 6, 2) := by decide +kernel
theorem dX4_mixPoints_20 : decode cX4_mixPoints 20 = .ok (.iload 6, 2) := by decide +kernel
theorem dX4_mixPoints_22 : decode cX4_mixPoints 22 = .ok (.bipush 8, 2) := by decide +kernel
theorem dX4_mixPoints_24 : decode cX4_mixPoints 24 = .ok (.if_icmp .gt 23, 3) := by decide +kernel
theorem dX4_mixPoints_27 : decode cX4_mixPoints 27 = .ok (.lload_n 3, 1) := by decide +kernel
theorem dX4_mixPoints_28 : decode cX4_mixPoints 28 = .ok (.aload_n 0, 1) := by decide +kernel
theorem dX4_mixPoints_29 : decode cX4_mixPoints 29 = .ok (.iload 5, 2) := by decide +kernel
theorem dX4_mixPoints_31 : decode cX4_mixPoints 31 = .ok (.iload 6, 2) := by decide +kernel
theorem dX4_mixPoints_33 : decode cX4_mixPoints 33 = .ok (.invokevirtual 174, 3) := by decide +kernel
theorem dX4_mixPoints_36 : decode cX4_mixPoints 36 = .ok (.i2l, 1) := by decide +kernel
theorem dX4_mixPoints_37 : decode cX4_mixPoints 37 = .ok (.invokestatic 217, 3) := by decide +kernel
theorem dX4_mixPoints_40 : decode cX4_mixPoints 40 = .ok (.lstore_n 3, 1) := by decide +kernel
theorem dX4_mixPoints_41 : decode cX4_mixPoints 41 = .ok (.iinc 6 1, 3) := by decide +kernel
theorem dX4_mixPoints_44 : decode cX4_mixPoints 44 = .ok (.goto (-24), 3) := by decide +kernel
theorem dX4_mixPoints_47 : decode cX4_mixPoints 47 = .ok (.lload_n 3, 1) := by decide +kernel
theorem dX4_mixPoints_48 : decode cX4_mixPoints 48 = .ok (.aload_n 0, 1) := by decide +kernel
theorem dX4_mixPoints_49 : decode cX4_mixPoints 49 = .ok (.getfield 33, 3) := by decide +kernel
theorem dX4_mixPoints_52 : decode cX4_mixPoints 52 = .ok (.getfield 197, 3) := by decide +kernel
theorem dX4_mixPoints_55 : decode cX4_mixPoints 55 = .ok (.iload 5, 2) := by decide +kernel
theorem dX4_mixPoints_57 : decode cX4_mixPoints 57 = .ok (.iaload, 1) := by decide +kernel
theorem dX4_mixPoints_58 : decode cX4_mixPoints 58 = .ok (.i2l, 1) := by decide +kernel
theorem dX4_mixPoints_59 : decode cX4_mixPoints 59 = .ok (.invokestatic 217, 3) := by decide +kernel
theorem dX4_mixPoints_62 : decode cX4_mixPoints 62 = .ok (.lstore_n 3, 1) := by decide +kernel
theorem dX4_mixPoints_63 : decode cX4_mixPoints 63 = .ok (.lload_n 3, 1) := by decide +kernel
theorem dX4_mixPoints_64 : decode cX4_mixPoints 64 = .ok (.aload_n 0, 1) := by decide +kernel
theorem dX4_mixPoints_65 : decode cX4_mixPoints 65 = .ok (.getfield 33, 3) := by decide +kernel
theorem dX4_mixPoints_68 : decode cX4_mixPoints 68 = .ok (.getfield 269, 3) := by decide +kernel
theorem dX4_mixPoints_71 : decode cX4_mixPoints 71 = .ok (.iload 5, 2) := by decide +kernel
theorem dX4_mixPoints_73 : decode cX4_mixPoints 73 = .ok (.iaload, 1) := by decide +kernel
theorem dX4_mixPoints_74 : decode cX4_mixPoints 74 = .ok (.i2l, 1) := by decide +kernel
theorem dX4_mixPoints_75 : decode cX4_mixPoints 75 = .ok (.invokestatic 217, 3) := by decide +kernel
theorem dX4_mixPoints_78 : decode cX4_mixPoints 78 = .ok (.lstore_n 3, 1) := by decide +kernel
theorem dX4_mixPoints_79 : decode cX4_mixPoints 79 = .ok (.lload_n 3, 1) := by decide +kernel
theorem dX4_mixPoints_80 : decode cX4_mixPoints 80 = .ok (.aload_n 0, 1) := by decide +kernel
theorem dX4_mixPoints_81 : decode cX4_mixPoints 81 = .ok (.getfield 33, 3) := by decide +kernel
theorem dX4_mixPoints_84 : decode cX4_mixPoints 84 = .ok (.iload 5, 2) := by decide +kernel
theorem dX4_mixPoints_86 : decode cX4_mixPoints 86 = .ok (.invokevirtual 129, 3) := by decide +kernel
theorem dX4_mixPoints_89 : decode cX4_mixPoints 89 = .ok (.i2l, 1) := by decide +kernel
theorem dX4_mixPoints_90 : decode cX4_mixPoints 90 = .ok (.invokestatic 217, 3) := by decide +kernel
theorem dX4_mixPoints_93 : decode cX4_mixPoints 93 = .ok (.lstore_n 3, 1) := by decide +kernel
theorem dX4_mixPoints_94 : decode cX4_mixPoints 94 = .ok (.iinc 5 1, 3) := by decide +kernel
theorem dX4_mixPoints_97 : decode cX4_mixPoints 97 = .ok (.goto (-92), 3) := by decide +kernel
theorem dX4_mixPoints_100 : decode cX4_mixPoints 100 = .ok (.lload_n 3, 1) := by decide +kernel
theorem dX4_mixPoints_101 : decode cX4_mixPoints 101 = .ok (.lreturn, 1) := by decide +kernel
set_option maxRecDepth 20000 in
theorem ggX4_mixPairs_X0_sharedSquares : GoodIn wsX4_mixPairs wsX0_sharedSquares := goodIn_r _ [7, 8, 9, 10, 11, 6, 12, 13, 14, 15, 16, 17, 18, 19, 20, 21, 22, 23, 24, 25, 26, 36, 37] (by decide +kernel) (by decide +kernel)
set_option maxRecDepth 20000 in
theorem gX4_mixPairs_X0_sharedSquares : GoodIn wsX4_mixPairs (wsV RX4 179 RX0 yX0_sharedSquares wsX0_sharedSquares) := goodIn_app (goodIn_of _ (by decide +kernel)) ggX4_mixPairs_X0_sharedSquares
set_option maxRecDepth 20000 in
theorem ggX4_mixPairs_X4_mix : GoodIn wsX4_mixPairs wsX4_mix := goodIn_r _ [30, 31] (by decide +kernel) (by decide +kernel)
set_option maxRecDepth 20000 in
theorem gX4_mixPairs_X4_mix : GoodIn wsX4_mixPairs (va_wsS RX4 217 yX4_mix wsX4_mix) := goodIn_app (goodIn_of _ (by decide +kernel)) ggX4_mixPairs_X4_mix
theorem dX4_mixPairs_0 : decode cX4_mixPairs 0 = .ok (.lload_n 1, 1) := by decide +kernel
theorem dX4_mixPairs_1 : decode cX4_mixPairs 1 = .ok (.lstore_n 3, 1) := by decide +kernel
theorem dX4_mixPairs_2 : decode cX4_mixPairs 2 = .ok (.iconst 0, 1) := by decide +kernel
theorem dX4_mixPairs_3 : decode cX4_mixPairs 3 = .ok (.istore 5, 2) := by decide +kernel
theorem dX4_mixPairs_5 : decode cX4_mixPairs 5 = .ok (.iload 5, 2) := by decide +kernel
theorem dX4_mixPairs_7 : decode cX4_mixPairs 7 = .ok (.aload_n 0, 1) := by decide +kernel
theorem dX4_mixPairs_8 : decode cX4_mixPairs 8 = .ok (.getfield 10, 3) := by decide +kernel
theorem dX4_mixPairs_11 : decode cX4_mixPairs 11 = .ok (.getfield 242, 3) := by decide +kernel
theorem dX4_mixPairs_14 : decode cX4_mixPairs 14 = .ok (.if_icmp .ge 71, 3) := by decide +kernel
theorem dX4_mixPairs_17 : decode cX4_mixPairs 17 = .ok (.iload 5, 2) := by decide +kernel
theorem dX4_mixPairs_19 : decode cX4_mixPairs 19 = .ok (.iconst 1, 1) := by decide +kernel
theorem dX4_mixPairs_20 : decode cX4_mixPairs 20 = .ok (.iadd, 1) := by decide +kernel
theorem dX4_mixPairs_21 : decode cX4_mixPairs 21 = .ok (.istore 6, 2) := by decide +kernel
theorem dX4_mixPairs_23 : decode cX4_mixPairs 23 = .ok (.iload 6, 2) := by decide +kernel
theorem dX4_mixPairs_25 : decode cX4_mixPairs 25 = .ok (.aload_n 0, 1) := by decide +kernel
theorem dX4_mixPairs_26 : decode cX4_mixPairs 26 = .ok (.getfield 10, 3) := by decide +kernel
theorem dX4_mixPairs_29 : decode cX4_mixPairs 29 = .ok (.getfield 242, 3) := by decide +kernel
theorem dX4_mixPairs_32 : decode cX4_mixPairs 32 = .ok (.if_icmp .ge 47, 3) := by decide +kernel
theorem dX4_mixPairs_35 : decode cX4_mixPairs 35 = .ok (.lload_n 3, 1) := by decide +kernel
theorem dX4_mixPairs_36 : decode cX4_mixPairs 36 = .ok (.aload_n 0, 1) := by decide +kernel
theorem dX4_mixPairs_37 : decode cX4_mixPairs 37 = .ok (.getfield 10, 3) := by decide +kernel
theorem dX4_mixPairs_40 : decode cX4_mixPairs 40 = .ok (.iload 5, 2) := by decide +kernel
theorem dX4_mixPairs_42 : decode cX4_mixPairs 42 = .ok (.iconst 0, 1) := by decide +kernel
theorem dX4_mixPairs_43 : decode cX4_mixPairs 43 = .ok (.iload 6, 2) := by decide +kernel
theorem dX4_mixPairs_45 : decode cX4_mixPairs 45 = .ok (.iconst 0, 1) := by decide +kernel
theorem dX4_mixPairs_46 : decode cX4_mixPairs 46 = .ok (.invokevirtual 179, 3) := by decide +kernel
theorem dX4_mixPairs_49 : decode cX4_mixPairs 49 = .ok (.i2l, 1) := by decide +kernel
theorem dX4_mixPairs_50 : decode cX4_mixPairs 50 = .ok (.invokestatic 217, 3) := by decide +kernel
theorem dX4_mixPairs_53 : decode cX4_mixPairs 53 = .ok (.lstore_n 3, 1) := by decide +kernel
theorem dX4_mixPairs_54 : decode cX4_mixPairs 54 = .ok (.lload_n 3, 1) := by decide +kernel
theorem dX4_mixPairs_55 : decode cX4_mixPairs 55 = .ok (.aload_n 0, 1) := by decide +kernel
theorem dX4_mixPairs_56 : decode cX4_mixPairs 56 = .ok (.getfield 10, 3) := by decide +kernel
theorem dX4_mixPairs_59 : decode cX4_mixPairs 59 = .ok (.iload 5, 2) := by decide +kernel
theorem dX4_mixPairs_61 : decode cX4_mixPairs 61 = .ok (.iconst 0, 1) := by decide +kernel
theorem dX4_mixPairs_62 : decode cX4_mixPairs 62 = .ok (.iload 6, 2) := by decide +kernel
theorem dX4_mixPairs_64 : decode cX4_mixPairs 64 = .ok (.iconst 1, 1) := by decide +kernel
theorem dX4_mixPairs_65 : decode cX4_mixPairs 65 = .ok (.invokevirtual 179, 3) := by decide +kernel
theorem dX4_mixPairs_68 : decode cX4_mixPairs 68 = .ok (.i2l, 1) := by decide +kernel
theorem dX4_mixPairs_69 : decode cX4_mixPairs 69 = .ok (.invokestatic 217, 3) := by decide +kernel
theorem dX4_mixPairs_72 : decode cX4_mixPairs 72 = .ok (.lstore_n 3, 1) := by decide +kernel
theorem dX4_mixPairs_73 : decode cX4_mixPairs 73 = .ok (.iinc 6 1, 3) := by decide +kernel
theorem dX4_mixPairs_76 : decode cX4_mixPairs 76 = .ok (.goto (-53), 3) := by decide +kernel
theorem dX4_mixPairs_79 : decode cX4_mixPairs 79 = .ok (.iinc 5 1, 3) := by decide +kernel
theorem dX4_mixPairs_82 : decode cX4_mixPairs 82 = .ok (.goto (-77), 3) := by decide +kernel
theorem dX4_mixPairs_85 : decode cX4_mixPairs 85 = .ok (.lload_n 3, 1) := by decide +kernel
theorem dX4_mixPairs_86 : decode cX4_mixPairs 86 = .ok (.lreturn, 1) := by decide +kernel
set_option maxRecDepth 20000 in
theorem ggX4_mixBuffer_X4_mix : GoodIn wsX4_mixBuffer wsX4_mix := goodIn_r _ [6, 7] (by decide +kernel) (by decide +kernel)
set_option maxRecDepth 20000 in
theorem gX4_mixBuffer_X4_mix : GoodIn wsX4_mixBuffer (va_wsS RX4 217 yX4_mix wsX4_mix) := goodIn_app (goodIn_of _ (by decide +kernel)) ggX4_mixBuffer_X4_mix
set_option maxRecDepth 20000 in
theorem ggX4_mixBuffer_X3_code : GoodIn wsX4_mixBuffer wsX3_code := goodIn_r _ [12, 13, 18, 19, 20, 21, 22, 23] (by decide +kernel) (by decide +kernel)
set_option maxRecDepth 20000 in
theorem gX4_mixBuffer_X3_code : GoodIn wsX4_mixBuffer (wsV RX4 274 RX3 yX3_code wsX3_code) := goodIn_app (goodIn_of _ (by decide +kernel)) ggX4_mixBuffer_X3_code
theorem dX4_mixBuffer_0 : decode cX4_mixBuffer 0 = .ok (.lload_n 1, 1) := by decide +kernel
theorem dX4_mixBuffer_1 : decode cX4_mixBuffer 1 = .ok (.aload_n 0, 1) := by decide +kernel
theorem dX4_mixBuffer_2 : decode cX4_mixBuffer 2 = .ok (.getfield 26, 3) := by decide +kernel
theorem dX4_mixBuffer_5 : decode cX4_mixBuffer 5 = .ok (.getfield 143, 3) := by decide +kernel
theorem dX4_mixBuffer_8 : decode cX4_mixBuffer 8 = .ok (.i2l, 1) := by decide +kernel
theorem dX4_mixBuffer_9 : decode cX4_mixBuffer 9 = .ok (.invokestatic 217, 3) := by decide +kernel
theorem dX4_mixBuffer_12 : decode cX4_mixBuffer 12 = .ok (.lstore_n 3, 1) := by decide +kernel
theorem dX4_mixBuffer_13 : decode cX4_mixBuffer 13 = .ok (.iconst 0, 1) := by decide +kernel
theorem dX4_mixBuffer_14 : decode cX4_mixBuffer 14 = .ok (.istore 5, 2) := by decide +kernel
theorem dX4_mixBuffer_16 : decode cX4_mixBuffer 16 = .ok (.iload 5, 2) := by decide +kernel
theorem dX4_mixBuffer_18 : decode cX4_mixBuffer 18 = .ok (.aload_n 0, 1) := by decide +kernel
theorem dX4_mixBuffer_19 : decode cX4_mixBuffer 19 = .ok (.getfield 26, 3) := by decide +kernel
theorem dX4_mixBuffer_22 : decode cX4_mixBuffer 22 = .ok (.getfield 143, 3) := by decide +kernel
theorem dX4_mixBuffer_25 : decode cX4_mixBuffer 25 = .ok (.if_icmp .ge 24, 3) := by decide +kernel
theorem dX4_mixBuffer_28 : decode cX4_mixBuffer 28 = .ok (.lload_n 3, 1) := by decide +kernel
theorem dX4_mixBuffer_29 : decode cX4_mixBuffer 29 = .ok (.aload_n 0, 1) := by decide +kernel
theorem dX4_mixBuffer_30 : decode cX4_mixBuffer 30 = .ok (.getfield 26, 3) := by decide +kernel
theorem dX4_mixBuffer_33 : decode cX4_mixBuffer 33 = .ok (.iload 5, 2) := by decide +kernel
theorem dX4_mixBuffer_35 : decode cX4_mixBuffer 35 = .ok (.invokevirtual 274, 3) := by decide +kernel
theorem dX4_mixBuffer_38 : decode cX4_mixBuffer 38 = .ok (.i2l, 1) := by decide +kernel
theorem dX4_mixBuffer_39 : decode cX4_mixBuffer 39 = .ok (.invokestatic 217, 3) := by decide +kernel
theorem dX4_mixBuffer_42 : decode cX4_mixBuffer 42 = .ok (.lstore_n 3, 1) := by decide +kernel
theorem dX4_mixBuffer_43 : decode cX4_mixBuffer 43 = .ok (.iinc 5 1, 3) := by decide +kernel
theorem dX4_mixBuffer_46 : decode cX4_mixBuffer 46 = .ok (.goto (-30), 3) := by decide +kernel
theorem dX4_mixBuffer_49 : decode cX4_mixBuffer 49 = .ok (.lload_n 3, 1) := by decide +kernel
theorem dX4_mixBuffer_50 : decode cX4_mixBuffer 50 = .ok (.lreturn, 1) := by decide +kernel
theorem dX4_bitsOf_0 : decode cX4_bitsOf 0 = .ok (.dload_n 0, 1) := by decide +kernel
theorem dX4_bitsOf_1 : decode cX4_bitsOf 1 = .ok (.dconst 0, 1) := by decide +kernel
theorem dX4_bitsOf_2 : decode cX4_bitsOf 2 = .ok (.dcmp .g, 1) := by decide +kernel
theorem dX4_bitsOf_3 : decode cX4_bitsOf 3 = .ok (.ifCond .gt 5, 3) := by decide +kernel
theorem dX4_bitsOf_6 : decode cX4_bitsOf 6 = .ok (.lconst 0, 1) := by decide +kernel
theorem dX4_bitsOf_7 : decode cX4_bitsOf 7 = .ok (.lreturn, 1) := by decide +kernel
theorem dX4_bitsOf_8 : decode cX4_bitsOf 8 = .ok (.dload_n 0, 1) := by decide +kernel
theorem dX4_bitsOf_9 : decode cX4_bitsOf 9 = .ok (.dstore_n 2, 1) := by decide +kernel
theorem dX4_bitsOf_10 : decode cX4_bitsOf 10 = .ok (.ldc2_w 277, 3) := by decide +kernel
theorem dX4_bitsOf_13 : decode cX4_bitsOf 13 = .ok (.lstore 4, 2) := by decide +kernel
theorem dX4_bitsOf_15 : decode cX4_bitsOf 15 = .ok (.iconst 0, 1) := by decide +kernel
theorem dX4_bitsOf_16 : decode cX4_bitsOf 16 = .ok (.istore 6, 2) := by decide +kernel
theorem dX4_bitsOf_18 : decode cX4_bitsOf 18 = .ok (.iload 6, 2) := by decide +kernel
theorem dX4_bitsOf_20 : decode cX4_bitsOf 20 = .ok (.sipush 1000, 3) := by decide +kernel
theorem dX4_bitsOf_23 : decode cX4_bitsOf 23 = .ok (.if_icmp .ge 27, 3) := by decide +kernel
theorem dX4_bitsOf_26 : decode cX4_bitsOf 26 = .ok (.dload_n 2, 1) := by decide +kernel
theorem dX4_bitsOf_27 : decode cX4_bitsOf 27 = .ok (.dconst 1, 1) := by decide +kernel
theorem dX4_bitsOf_28 : decode cX4_bitsOf 28 = .ok (.dcmp .g, 1) := by decide +kernel
theorem dX4_bitsOf_29 : decode cX4_bitsOf 29 = .ok (.ifCond .ge 21, 3) := by decide +kernel
theorem dX4_bitsOf_32 : decode cX4_bitsOf 32 = .ok (.dload_n 2, 1) := by decide +kernel
theorem dX4_bitsOf_33 : decode cX4_bitsOf 33 = .ok (.ldc2_w 279, 3) := by decide +kernel
theorem dX4_bitsOf_36 : decode cX4_bitsOf 36 = .ok (.dmul, 1) := by decide +kernel
theorem dX4_bitsOf_37 : decode cX4_bitsOf 37 = .ok (.dstore_n 2, 1) := by decide +kernel
theorem dX4_bitsOf_38 : decode cX4_bitsOf 38 = .ok (.lload 4, 2) := by decide +kernel
theorem dX4_bitsOf_40 : decode cX4_bitsOf 40 = .ok (.lconst 1, 1) := by decide +kernel
theorem dX4_bitsOf_41 : decode cX4_bitsOf 41 = .ok (.lsub, 1) := by decide +kernel
theorem dX4_bitsOf_42 : decode cX4_bitsOf 42 = .ok (.lstore 4, 2) := by decide +kernel
theorem dX4_bitsOf_44 : decode cX4_bitsOf 44 = .ok (.iinc 6 1, 3) := by decide +kernel
theorem dX4_bitsOf_47 : decode cX4_bitsOf 47 = .ok (.goto (-29), 3) := by decide +kernel
theorem dX4_bitsOf_50 : decode cX4_bitsOf 50 = .ok (.lload 4, 2) := by decide +kernel
theorem dX4_bitsOf_52 : decode cX4_bitsOf 52 = .ok (.bipush 52, 2) := by decide +kernel
theorem dX4_bitsOf_54 : decode cX4_bitsOf 54 = .ok (.lshl, 1) := by decide +kernel
theorem dX4_bitsOf_55 : decode cX4_bitsOf 55 = .ok (.dload_n 2, 1) := by decide +kernel
theorem dX4_bitsOf_56 : decode cX4_bitsOf 56 = .ok (.dconst 1, 1) := by decide +kernel
theorem dX4_bitsOf_57 : decode cX4_bitsOf 57 = .ok (.dsub, 1) := by decide +kernel
theorem dX4_bitsOf_58 : decode cX4_bitsOf 58 = .ok (.ldc2_w 281, 3) := by decide +kernel
theorem dX4_bitsOf_61 : decode cX4_bitsOf 61 = .ok (.dmul, 1) := by decide +kernel
theorem dX4_bitsOf_62 : decode cX4_bitsOf 62 = .ok (.d2l, 1) := by decide +kernel
theorem dX4_bitsOf_63 : decode cX4_bitsOf 63 = .ok (.ladd, 1) := by decide +kernel
theorem dX4_bitsOf_64 : decode cX4_bitsOf 64 = .ok (.lreturn, 1) := by decide +kernel
