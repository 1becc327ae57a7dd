set_option maxRecDepth 20000 in
theorem ggX5_add_X5_refusesAdd : GoodIn wsX5_add wsX5_refusesAdd := goodIn_r _ [7, 2, 8, 9, 6, 10, 11, 12, 13, 14, 15, 16, 17, 18, 57, 58, 59, 60, 61, 62, 63, 64, 65, 66, 67, 68, 69, 70, 71, 72] (by decide +kernel) (by decide +kernel)
set_option maxRecDepth 20000 in
theorem gX5_add_X5_refusesAdd : GoodIn wsX5_add (wsV RX5 115 RX5 yX5_refusesAdd wsX5_refusesAdd) := goodIn_app (goodIn_of _ (by decide +kernel)) ggX5_add_X5_refusesAdd
set_option maxRecDepth 20000 in
theorem ggX5_add_X5_saves : GoodIn wsX5_add wsX5_saves := goodIn_r _ [22, 23, 24, 2, 57, 58, 59, 60, 61, 62, 63, 64, 65, 66, 67, 68, 69, 70, 71, 72] (by decide +kernel) (by decide +kernel)
set_option maxRecDepth 20000 in
theorem gX5_add_X5_saves : GoodIn wsX5_add (wsV RX5 119 RX5 yX5_saves wsX5_saves) := goodIn_app (goodIn_of _ (by decide +kernel)) ggX5_add_X5_saves
set_option maxRecDepth 20000 in
theorem ggX5_add_X5_comes : GoodIn wsX5_add wsX5_comes := goodIn_r _ [28, 2, 29, 30, 31, 6, 32, 15, 16, 17, 18, 33, 34, 35, 36, 37, 38, 39, 40, 41, 42, 43, 44, 8, 9, 10, 45, 46, 47, 48, 49, 50, 51, 52, 53, 54, 55, 56, 57, 58, 59, 60, 61, 62, 63, 64, 65, 66, 67, 68, 69, 70, 71, 72] (by decide +kernel) (by decide +kernel)
set_option maxRecDepth 20000 in
theorem gX5_add_X5_comes : GoodIn wsX5_add (wsV RX5 122 RX5 yX5_comes wsX5_comes) := goodIn_app (goodIn_of _ (by decide +kernel)) ggX5_add_X5_comes
theorem dX5_add_0 : decode cX5_add 0 = .ok (.aload_n 0, 1) := by decide +kernel
theorem dX5_add_1 : decode cX5_add 1 = .ok (.aload_n 0, 1) := by decide +kernel
theorem dX5_add_2 : decode cX5_add 2 = .ok (.iload_n 1, 1) := by decide +kernel
theorem dX5_add_3 : decode cX5_add 3 = .ok (.iload_n 2, 1) := by decide +kernel
theorem dX5_add_4 : decode cX5_add 4 = .ok (.iload_n 3, 1) := by decide +kernel
theorem dX5_add_5 : decode cX5_add 5 = .ok (.iload 4, 2) := by decide +kernel
theorem dX5_add_7 : decode cX5_add 7 = .ok (.iload 5, 2) := by decide +kernel
theorem dX5_add_9 : decode cX5_add 9 = .ok (.invokevirtual 115, 3) := by decide +kernel
theorem dX5_add_12 : decode cX5_add 12 = .ok (.putfield 31, 3) := by decide +kernel
theorem dX5_add_15 : decode cX5_add 15 = .ok (.aload_n 0, 1) := by decide +kernel
theorem dX5_add_16 : decode cX5_add 16 = .ok (.getfield 31, 3) := by decide +kernel
theorem dX5_add_19 : decode cX5_add 19 = .ok (.ifCond .eq 5, 3) := by decide +kernel
theorem dX5_add_22 : decode cX5_add 22 = .ok (.iconst 0, 1) := by decide +kernel
theorem dX5_add_23 : decode cX5_add 23 = .ok (.ireturn, 1) := by decide +kernel
theorem dX5_add_24 : decode cX5_add 24 = .ok (.aload_n 0, 1) := by decide +kernel
theorem dX5_add_25 : decode cX5_add 25 = .ok (.invokevirtual 119, 3) := by decide +kernel
theorem dX5_add_28 : decode cX5_add 28 = .ok (.aload_n 0, 1) := by decide +kernel
theorem dX5_add_29 : decode cX5_add 29 = .ok (.iload_n 1, 1) := by decide +kernel
theorem dX5_add_30 : decode cX5_add 30 = .ok (.iload_n 2, 1) := by decide +kernel
theorem dX5_add_31 : decode cX5_add 31 = .ok (.iload_n 3, 1) := by decide +kernel
theorem dX5_add_32 : decode cX5_add 32 = .ok (.iload 4, 2) := by decide +kernel
theorem dX5_add_34 : decode cX5_add 34 = .ok (.iload 5, 2) := by decide +kernel
theorem dX5_add_36 : decode cX5_add 36 = .ok (.invokevirtual 122, 3) := by decide +kernel
theorem dX5_add_39 : decode cX5_add 39 = .ok (.aload_n 0, 1) := by decide +kernel
theorem dX5_add_40 : decode cX5_add 40 = .ok (.getfield 7, 3) := by decide +kernel
theorem dX5_add_43 : decode cX5_add 43 = .ok (.iconst 0, 1) := by decide +kernel
theorem dX5_add_44 : decode cX5_add 44 = .ok (.iaload, 1) := by decide +kernel
theorem dX5_add_45 : decode cX5_add 45 = .ok (.iconst 1, 1) := by decide +kernel
theorem dX5_add_46 : decode cX5_add 46 = .ok (.isub, 1) := by decide +kernel
theorem dX5_add_47 : decode cX5_add 47 = .ok (.ireturn, 1) := by decide +kernel
set_option maxRecDepth 20000 in
theorem ggX5_openMany_X5_openOf : GoodIn wsX5_openMany wsX5_openOf := goodIn_r _ [6, 7, 8, 9, 5, 10, 1, 11, 12, 13, 14, 15, 16, 17, 18, 19, 20, 21, 22, 23, 24, 25, 26, 27, 28, 29, 30, 31, 32, 33, 34, 35, 36, 37, 41, 42, 43, 44, 45, 46, 47, 48, 49, 50, 51, 52, 53, 54, 55, 56] (by decide +kernel) (by decide +kernel)
set_option maxRecDepth 20000 in
theorem gX5_openMany_X5_openOf : GoodIn wsX5_openMany (wsV RX5 102 RX5 yX5_openOf wsX5_openOf) := goodIn_app (goodIn_of _ (by decide +kernel)) ggX5_openMany_X5_openOf
set_option maxRecDepth 20000 in
theorem ggX5_openMany_X5_ones : GoodIn wsX5_openMany wsX5_ones := goodIn_r _ [40] (by decide +kernel) (by decide +kernel)
set_option maxRecDepth 20000 in
theorem gX5_openMany_X5_ones : GoodIn wsX5_openMany (va_wsS RX5 126 yX5_ones wsX5_ones) := goodIn_app (goodIn_of _ (by decide +kernel)) ggX5_openMany_X5_ones
theorem dX5_openMany_0 : decode cX5_openMany 0 = .ok (.iconst 0, 1) := by decide +kernel
theorem dX5_openMany_1 : decode cX5_openMany 1 = .ok (.istore_n 2, 1) := by decide +kernel
theorem dX5_openMany_2 : decode cX5_openMany 2 = .ok (.iconst 0, 1) := by decide +kernel
theorem dX5_openMany_3 : decode cX5_openMany 3 = .ok (.istore_n 3, 1) := by decide +kernel
theorem dX5_openMany_4 : decode cX5_openMany 4 = .ok (.iload_n 3, 1) := by decide +kernel
theorem dX5_openMany_5 : decode cX5_openMany 5 = .ok (.aload_n 0, 1) := by decide +kernel
theorem dX5_openMany_6 : decode cX5_openMany 6 = .ok (.getfield 7, 3) := by decide +kernel
theorem dX5_openMany_9 : decode cX5_openMany 9 = .ok (.iconst 0, 1) := by decide +kernel
theorem dX5_openMany_10 : decode cX5_openMany 10 = .ok (.iaload, 1) := by decide +kernel
theorem dX5_openMany_11 : decode cX5_openMany 11 = .ok (.if_icmp .ge 29, 3) := by decide +kernel
theorem dX5_openMany_14 : decode cX5_openMany 14 = .ok (.iload_n 2, 1) := by decide +kernel
theorem dX5_openMany_15 : decode cX5_openMany 15 = .ok (.iload_n 3, 1) := by decide +kernel
theorem dX5_openMany_16 : decode cX5_openMany 16 = .ok (.iload_n 1, 1) := by decide +kernel
theorem dX5_openMany_17 : decode cX5_openMany 17 = .ok (.if_icmp .ne 7, 3) := by decide +kernel
theorem dX5_openMany_20 : decode cX5_openMany 20 = .ok (.iconst 0, 1) := by decide +kernel
theorem dX5_openMany_21 : decode cX5_openMany 21 = .ok (.goto 11, 3) := by decide +kernel
theorem dX5_openMany_24 : decode cX5_openMany 24 = .ok (.aload_n 0, 1) := by decide +kernel
theorem dX5_openMany_25 : decode cX5_openMany 25 = .ok (.iload_n 3, 1) := by decide +kernel
theorem dX5_openMany_26 : decode cX5_openMany 26 = .ok (.invokevirtual 102, 3) := by decide +kernel
theorem dX5_openMany_29 : decode cX5_openMany 29 = .ok (.invokestatic 126, 3) := by decide +kernel
theorem dX5_openMany_32 : decode cX5_openMany 32 = .ok (.iadd, 1) := by decide +kernel
theorem dX5_openMany_33 : decode cX5_openMany 33 = .ok (.istore_n 2, 1) := by decide +kernel
theorem dX5_openMany_34 : decode cX5_openMany 34 = .ok (.iinc 3 1, 3) := by decide +kernel
theorem dX5_openMany_37 : decode cX5_openMany 37 = .ok (.goto (-33), 3) := by decide +kernel
theorem dX5_openMany_40 : decode cX5_openMany 40 = .ok (.iload_n 2, 1) := by decide +kernel
theorem dX5_openMany_41 : decode cX5_openMany 41 = .ok (.ireturn, 1) := by decide +kernel
set_option maxRecDepth 20000 in
theorem ggX5_remove_X5_isPoint : GoodIn wsX5_remove wsX5_isPoint := goodIn_r _ [7, 2, 8, 9, 6, 10, 60, 61, 62, 63, 64, 65, 66, 67, 68, 69, 70, 71, 72, 73, 74, 75] (by decide +kernel) (by decide +kernel)
set_option maxRecDepth 20000 in
theorem gX5_remove_X5_isPoint : GoodIn wsX5_remove (wsV RX5 129 RX5 yX5_isPoint wsX5_isPoint) := goodIn_app (goodIn_of _ (by decide +kernel)) ggX5_remove_X5_isPoint
set_option maxRecDepth 20000 in
theorem ggX5_remove_X5_fails : GoodIn wsX5_remove wsX5_fails := goodIn_r _ [14, 1, 60, 61, 62, 63, 64, 65, 66, 67, 68, 69, 70, 71, 72, 73, 74, 75] (by decide +kernel) (by decide +kernel)
set_option maxRecDepth 20000 in
theorem gX5_remove_X5_fails : GoodIn wsX5_remove (wsV RX5 132 RX5 yX5_fails wsX5_fails) := goodIn_app (goodIn_of _ (by decide +kernel)) ggX5_remove_X5_fails
set_option maxRecDepth 20000 in
theorem ggX5_remove_X5_saves : GoodIn wsX5_remove wsX5_saves := goodIn_r _ [18, 19, 20, 2, 60, 61, 62, 63, 64, 65, 66, 67, 68, 69, 70, 71, 72, 73, 74, 75] (by decide +kernel) (by decide +kernel)
set_option maxRecDepth 20000 in
theorem gX5_remove_X5_saves : GoodIn wsX5_remove (wsV RX5 119 RX5 yX5_saves wsX5_saves) := goodIn_app (goodIn_of _ (by decide +kernel)) ggX5_remove_X5_saves
set_option maxRecDepth 20000 in
theorem ggX5_remove_X5_openMany : GoodIn wsX5_remove wsX5_openMany := goodIn_r _ [24, 2, 25, 26, 27, 6, 28, 29, 30, 31, 32, 33, 34, 35, 36, 37, 38, 39, 40, 41, 42, 43, 44, 45, 46, 47, 48, 49, 50, 51, 52, 53, 54, 55, 56, 8, 9, 10, 57, 58, 59, 60, 61, 62, 63, 64, 65, 66, 67, 68, 69, 70, 71, 72, 73, 74, 75] (by decide +kernel) (by decide +kernel)
set_option maxRecDepth 20000 in
theorem gX5_remove_X5_openMany : GoodIn wsX5_remove (wsV RX5 135 RX5 yX5_openMany wsX5_openMany) := goodIn_app (goodIn_of _ (by decide +kernel)) ggX5_remove_X5_openMany
theorem dX5_remove_0 : decode cX5_remove 0 = .ok (.aload_n 0, 1) := by decide +kernel
theorem dX5_remove_1 : decode cX5_remove 1 = .ok (.iconst 0, 1) := by decide +kernel
theorem dX5_remove_2 : decode cX5_remove 2 = .ok (.putfield 31, 3) := by decide +kernel
theorem dX5_remove_5 : decode cX5_remove 5 = .ok (.aload_n 0, 1) := by decide +kernel
theorem dX5_remove_6 : decode cX5_remove 6 = .ok (.iload_n 1, 1) := by decide +kernel
theorem dX5_remove_7 : decode cX5_remove 7 = .ok (.invokevirtual 129, 3) := by decide +kernel
theorem dX5_remove_10 : decode cX5_remove 10 = .ok (.ifCond .ne 9, 3) := by decide +kernel
theorem dX5_remove_13 : decode cX5_remove 13 = .ok (.aload_n 0, 1) := by decide +kernel
theorem dX5_remove_14 : decode cX5_remove 14 = .ok (.iconst 1, 1) := by decide +kernel
theorem dX5_remove_15 : decode cX5_remove 15 = .ok (.invokevirtual 132, 3) := by decide +kernel
theorem dX5_remove_18 : decode cX5_remove 18 = .ok (.ireturn, 1) := by decide +kernel
theorem dX5_remove_19 : decode cX5_remove 19 = .ok (.aload_n 0, 1) := by decide +kernel
theorem dX5_remove_20 : decode cX5_remove 20 = .ok (.invokevirtual 119, 3) := by decide +kernel
theorem dX5_remove_23 : decode cX5_remove 23 = .ok (.aload_n 0, 1) := by decide +kernel
theorem dX5_remove_24 : decode cX5_remove 24 = .ok (.iload_n 1, 1) := by decide +kernel
theorem dX5_remove_25 : decode cX5_remove 25 = .ok (.invokevirtual 135, 3) := by decide +kernel
theorem dX5_remove_28 : decode cX5_remove 28 = .ok (.istore_n 2, 1) := by decide +kernel
theorem dX5_remove_29 : decode cX5_remove 29 = .ok (.aload_n 0, 1) := by decide +kernel
theorem dX5_remove_30 : decode cX5_remove 30 = .ok (.getfield 7, 3) := by decide +kernel
theorem dX5_remove_33 : decode cX5_remove 33 = .ok (.iconst 0, 1) := by decide +kernel
theorem dX5_remove_34 : decode cX5_remove 34 = .ok (.dup2, 1) := by decide +kernel
theorem dX5_remove_35 : decode cX5_remove 35 = .ok (.iaload, 1) := by decide +kernel
theorem dX5_remove_36 : decode cX5_remove 36 = .ok (.iconst 1, 1) := by decide +kernel
theorem dX5_remove_37 : decode cX5_remove 37 = .ok (.isub, 1) := by decide +kernel
theorem dX5_remove_38 : decode cX5_remove 38 = .ok (.iastore, 1) := by decide +kernel
theorem dX5_remove_39 : decode cX5_remove 39 = .ok (.bipush 6, 2) := by decide +kernel
theorem dX5_remove_41 : decode cX5_remove 41 = .ok (.iload_n 1, 1) := by decide +kernel
theorem dX5_remove_42 : decode cX5_remove 42 = .ok (.imul, 1) := by decide +kernel
theorem dX5_remove_43 : decode cX5_remove 43 = .ok (.istore_n 3, 1) := by decide +kernel
theorem dX5_remove_44 : decode cX5_remove 44 = .ok (.iload_n 3, 1) := by decide +kernel
theorem dX5_remove_45 : decode cX5_remove 45 = .ok (.bipush 6, 2) := by decide +kernel
theorem dX5_remove_47 : decode cX5_remove 47 = .ok (.aload_n 0, 1) := by decide +kernel
theorem dX5_remove_48 : decode cX5_remove 48 = .ok (.getfield 7, 3) := by decide +kernel
theorem dX5_remove_51 : decode cX5_remove 51 = .ok (.iconst 0, 1) := by decide +kernel
theorem dX5_remove_52 : decode cX5_remove 52 = .ok (.iaload, 1) := by decide +kernel
theorem dX5_remove_53 : decode cX5_remove 53 = .ok (.imul, 1) := by decide +kernel
theorem dX5_remove_54 : decode cX5_remove 54 = .ok (.if_icmp .ge 28, 3) := by decide +kernel
theorem dX5_remove_57 : decode cX5_remove 57 = .ok (.aload_n 0, 1) := by decide +kernel
theorem dX5_remove_58 : decode cX5_remove 58 = .ok (.getfield 7, 3) := by decide +kernel
theorem dX5_remove_61 : decode cX5_remove 61 = .ok (.iconst 1, 1) := by decide +kernel
theorem dX5_remove_62 : decode cX5_remove 62 = .ok (.iload_n 3, 1) := by decide +kernel
theorem dX5_remove_63 : decode cX5_remove 63 = .ok (.iadd, 1) := by decide +kernel
theorem dX5_remove_64 : decode cX5_remove 64 = .ok (.aload_n 0, 1) := by decide +kernel
theorem dX5_remove_65 : decode cX5_remove 65 = .ok (.getfield 7, 3) := by decide +kernel
theorem dX5_remove_68 : decode cX5_remove 68 = .ok (.iconst 1, 1) := by decide +kernel
theorem dX5_remove_69 : decode cX5_remove 69 = .ok (.iload_n 3, 1) := by decide +kernel
theorem dX5_remove_70 : decode cX5_remove 70 = .ok (.iadd, 1) := by decide +kernel
theorem dX5_remove_71 : decode cX5_remove 71 = .ok (.bipush 6, 2) := by decide +kernel
theorem dX5_remove_73 : decode cX5_remove 73 = .ok (.iadd, 1) := by decide +kernel
theorem dX5_remove_74 : decode cX5_remove 74 = .ok (.iaload, 1) := by decide +kernel
theorem dX5_remove_75 : decode cX5_remove 75 = .ok (.iastore, 1) := by decide +kernel
theorem dX5_remove_76 : decode cX5_remove 76 = .ok (.iinc 3 1, 3) := by decide +kernel
theorem dX5_remove_79 : decode cX5_remove 79 = .ok (.goto (-35), 3) := by decide +kernel
theorem dX5_remove_82 : decode cX5_remove 82 = .ok (.iconst 0, 1) := by decide +kernel
theorem dX5_remove_83 : decode cX5_remove 83 = .ok (.istore_n 3, 1) := by decide +kernel
theorem dX5_remove_84 : decode cX5_remove 84 = .ok (.iload_n 3, 1) := by decide +kernel
theorem dX5_remove_85 : decode cX5_remove 85 = .ok (.bipush 6, 2) := by decide +kernel
theorem dX5_remove_87 : decode cX5_remove 87 = .ok (.if_icmp .ge 28, 3) := by decide +kernel
theorem dX5_remove_90 : decode cX5_remove 90 = .ok (.aload_n 0, 1) := by decide +kernel
theorem dX5_remove_91 : decode cX5_remove 91 = .ok (.getfield 7, 3) := by decide +kernel
theorem dX5_remove_94 : decode cX5_remove 94 = .ok (.iconst 1, 1) := by decide +kernel
theorem dX5_remove_95 : decode cX5_remove 95 = .ok (.bipush 6, 2) := by decide +kernel
theorem dX5_remove_97 : decode cX5_remove 97 = .ok (.aload_n 0, 1) := by decide +kernel
theorem dX5_remove_98 : decode cX5_remove 98 = .ok (.getfield 7, 3) := by decide +kernel
theorem dX5_remove_101 : decode cX5_remove 101 = .ok (.iconst 0, 1) := by decide +kernel
theorem dX5_remove_102 : decode cX5_remove 102 = .ok (.iaload, 1) := by decide +kernel
theorem dX5_remove_103 : decode cX5_remove 103 = .ok (.imul, 1) := by decide +kernel
theorem dX5_remove_104 : decode cX5_remove 104 = .ok (.iadd, 1) := by decide +kernel
theorem dX5_remove_105 : decode cX5_remove 105 = .ok (.iload_n 3, 1) := by decide +kernel
theorem dX5_remove_106 : decode cX5_remove 106 = .ok (.iadd, 1) := by decide +kernel
theorem dX5_remove_107 : decode cX5_remove 107 = .ok (.iconst 0, 1) := by decide +kernel
theorem dX5_remove_108 : decode cX5_remove 108 = .ok (.iastore, 1) := by decide +kernel
theorem dX5_remove_109 : decode cX5_remove 109 = .ok (.iinc 3 1, 3) := by decide +kernel
theorem dX5_remove_112 : decode cX5_remove 112 = .ok (.goto (-28), 3) := by decide +kernel
theorem dX5_remove_115 : decode cX5_remove 115 = .ok (.aload_n 0, 1) := by decide +kernel
theorem dX5_remove_116 : decode cX5_remove 116 = .ok (.iconst (-1), 1) := by decide +kernel
theorem dX5_remove_117 : decode cX5_remove 117 = .ok (.invokevirtual 135, 3) := by decide +kernel
theorem dX5_remove_120 : decode cX5_remove 120 = .ok (.iload_n 2, 1) := by decide +kernel
theorem dX5_remove_121 : decode cX5_remove 121 = .ok (.isub, 1) := by decide +kernel
theorem dX5_remove_122 : decode cX5_remove 122 = .ok (.ireturn, 1) := by decide +kernel
set_option maxRecDepth 20000 in
theorem ggX5_weigh_X5_isPoint : GoodIn wsX5_weigh wsX5_isPoint := goodIn_r _ [7, 2, 8, 9, 6, 10, 25, 26, 27, 28, 29, 30, 31, 32, 33, 34, 35, 36, 37, 38, 39, 40] (by decide +kernel) (by decide +kernel)
set_option maxRecDepth 20000 in
theorem gX5_weigh_X5_isPoint : GoodIn wsX5_weigh (wsV RX5 129 RX5 yX5_isPoint wsX5_isPoint) := goodIn_app (goodIn_of _ (by decide +kernel)) ggX5_weigh_X5_isPoint
set_option maxRecDepth 20000 in
theorem ggX5_weigh_X5_fails : GoodIn wsX5_weigh wsX5_fails := goodIn_r _ [14, 1, 25, 26, 27, 28, 29, 30, 31, 32, 33, 34, 35, 36, 37, 38, 39, 40] (by decide +kernel) (by decide +kernel)
set_option maxRecDepth 20000 in
theorem gX5_weigh_X5_fails : GoodIn wsX5_weigh (wsV RX5 132 RX5 yX5_fails wsX5_fails) := goodIn_app (goodIn_of _ (by decide +kernel)) ggX5_weigh_X5_fails
set_option maxRecDepth 20000 in
theorem ggX5_weigh_X5_in : GoodIn wsX5_weigh wsX5_in := goodIn_r _ [10] (by decide +kernel) (by decide +kernel)
set_option maxRecDepth 20000 in
theorem gX5_weigh_X5_in : GoodIn wsX5_weigh (va_wsS RX5 35 yX5_in wsX5_in) := goodIn_app (goodIn_of _ (by decide +kernel)) ggX5_weigh_X5_in
set_option maxRecDepth 20000 in
theorem ggX5_weigh_X5_saves : GoodIn wsX5_weigh wsX5_saves := goodIn_r _ [18, 19, 20, 2, 25, 26, 27, 28, 29, 30, 31, 32, 33, 34, 35, 36, 37, 38, 39, 40] (by decide +kernel) (by decide +kernel)
set_option maxRecDepth 20000 in
theorem gX5_weigh_X5_saves : GoodIn wsX5_weigh (wsV RX5 119 RX5 yX5_saves wsX5_saves) := goodIn_app (goodIn_of _ (by decide +kernel)) ggX5_weigh_X5_saves
set_option maxRecDepth 20000 in
theorem ggX5_weigh_X5_of : GoodIn wsX5_weigh wsX5_of := goodIn_r _ [24, 2, 25, 26, 27, 28, 29, 30, 31, 32, 33, 34, 35, 36, 37, 38, 39, 40] (by decide +kernel) (by decide +kernel)
set_option maxRecDepth 20000 in
theorem gX5_weigh_X5_of : GoodIn wsX5_weigh (wsV RX5 39 RX5 yX5_of wsX5_of) := goodIn_app (goodIn_of _ (by decide +kernel)) ggX5_weigh_X5_of
theorem dX5_weigh_0 : decode cX5_weigh 0 = .ok (.aload_n 0, 1) := by decide +kernel
theorem dX5_weigh_1 : decode cX5_weigh 1 = .ok (.iconst 0, 1) := by decide +kernel
theorem dX5_weigh_2 : decode cX5_weigh 2 = .ok (.putfield 31, 3) := by decide +kernel
theorem dX5_weigh_5 : decode cX5_weigh 5 = .ok (.aload_n 0, 1) := by decide +kernel
theorem dX5_weigh_6 : decode cX5_weigh 6 = .ok (.iload_n 1, 1) := by decide +kernel
theorem dX5_weigh_7 : decode cX5_weigh 7 = .ok (.invokevirtual 129, 3) := by decide +kernel
theorem dX5_weigh_10 : decode cX5_weigh 10 = .ok (.ifCond .ne 9, 3) := by decide +kernel
theorem dX5_weigh_13 : decode cX5_weigh 13 = .ok (.aload_n 0, 1) := by decide +kernel
theorem dX5_weigh_14 : decode cX5_weigh 14 = .ok (.iconst 1, 1) := by decide +kernel
theorem dX5_weigh_15 : decode cX5_weigh 15 = .ok (.invokevirtual 132, 3) := by decide +kernel
theorem dX5_weigh_18 : decode cX5_weigh 18 = .ok (.ireturn, 1) := by decide +kernel
theorem dX5_weigh_19 : decode cX5_weigh 19 = .ok (.iload_n 2, 1) := by decide +kernel
theorem dX5_weigh_20 : decode cX5_weigh 20 = .ok (.iconst 1, 1) := by decide +kernel
theorem dX5_weigh_21 : decode cX5_weigh 21 = .ok (.bipush 99, 2) := by decide +kernel
theorem dX5_weigh_23 : decode cX5_weigh 23 = .ok (.invokestatic 35, 3) := by decide +kernel
theorem dX5_weigh_26 : decode cX5_weigh 26 = .ok (.ifCond .ne 9, 3) := by decide +kernel
theorem dX5_weigh_29 : decode cX5_weigh 29 = .ok (.aload_n 0, 1) := by decide +kernel
theorem dX5_weigh_30 : decode cX5_weigh 30 = .ok (.iconst 2, 1) := by decide +kernel
theorem dX5_weigh_31 : decode cX5_weigh 31 = .ok (.invokevirtual 132, 3) := by decide +kernel
theorem dX5_weigh_34 : decode cX5_weigh 34 = .ok (.ireturn, 1) := by decide +kernel
theorem dX5_weigh_35 : decode cX5_weigh 35 = .ok (.aload_n 0, 1) := by decide +kernel
theorem dX5_weigh_36 : decode cX5_weigh 36 = .ok (.invokevirtual 119, 3) := by decide +kernel
theorem dX5_weigh_39 : decode cX5_weigh 39 = .ok (.aload_n 0, 1) := by decide +kernel
theorem dX5_weigh_40 : decode cX5_weigh 40 = .ok (.iload_n 1, 1) := by decide +kernel
theorem dX5_weigh_41 : decode cX5_weigh 41 = .ok (.iconst 4, 1) := by decide +kernel
theorem dX5_weigh_42 : decode cX5_weigh 42 = .ok (.invokevirtual 39, 3) := by decide +kernel
theorem dX5_weigh_45 : decode cX5_weigh 45 = .ok (.istore_n 3, 1) := by decide +kernel
theorem dX5_weigh_46 : decode cX5_weigh 46 = .ok (.aload_n 0, 1) := by decide +kernel
theorem dX5_weigh_47 : decode cX5_weigh 47 = .ok (.getfield 7, 3) := by decide +kernel
theorem dX5_weigh_50 : decode cX5_weigh 50 = .ok (.iconst 1, 1) := by decide +kernel
theorem dX5_weigh_51 : decode cX5_weigh 51 = .ok (.bipush 6, 2) := by decide +kernel
theorem dX5_weigh_53 : decode cX5_weigh 53 = .ok (.iload_n 1, 1) := by decide +kernel
theorem dX5_weigh_54 : decode cX5_weigh 54 = .ok (.imul, 1) := by decide +kernel
theorem dX5_weigh_55 : decode cX5_weigh 55 = .ok (.iadd, 1) := by decide +kernel
theorem dX5_weigh_56 : decode cX5_weigh 56 = .ok (.iconst 4, 1) := by decide +kernel
theorem dX5_weigh_57 : decode cX5_weigh 57 = .ok (.iadd, 1) := by decide +kernel
theorem dX5_weigh_58 : decode cX5_weigh 58 = .ok (.iload_n 2, 1) := by decide +kernel
theorem dX5_weigh_59 : decode cX5_weigh 59 = .ok (.iastore, 1) := by decide +kernel
theorem dX5_weigh_60 : decode cX5_weigh 60 = .ok (.iload_n 3, 1) := by decide +kernel
theorem dX5_weigh_61 : decode cX5_weigh 61 = .ok (.ireturn, 1) := by decide +kernel
set_option maxRecDepth 20000 in
theorem ggX5_resize_X5_isPoint : GoodIn wsX5_resize wsX5_isPoint := goodIn_r _ [7, 2, 8, 9, 6, 10, 60, 61, 62, 63, 64, 65, 66, 67, 68, 69, 70, 71, 72, 73, 74, 75] (by decide +kernel) (by decide +kernel)
set_option maxRecDepth 20000 in
theorem gX5_resize_X5_isPoint : GoodIn wsX5_resize (wsV RX5 129 RX5 yX5_isPoint wsX5_isPoint) := goodIn_app (goodIn_of _ (by decide +kernel)) ggX5_resize_X5_isPoint
set_option maxRecDepth 20000 in
theorem ggX5_resize_X5_fails : GoodIn wsX5_resize wsX5_fails := goodIn_r _ [14, 1, 60, 61, 62, 63, 64, 65, 66, 67, 68, 69, 70, 71, 72, 73, 74, 75] (by decide +kernel) (by decide +kernel)
set_option maxRecDepth 20000 in
theorem gX5_resize_X5_fails : GoodIn wsX5_resize (wsV RX5 132 RX5 yX5_fails wsX5_fails) := goodIn_app (goodIn_of _ (by decide +kernel)) ggX5_resize_X5_fails
set_option maxRecDepth 20000 in
theorem ggX5_resize_X5_in : GoodIn wsX5_resize wsX5_in := goodIn_r _ [10] (by decide +kernel) (by decide +kernel)
set_option maxRecDepth 20000 in
theorem gX5_resize_X5_in : GoodIn wsX5_resize (va_wsS RX5 35 yX5_in wsX5_in) := goodIn_app (goodIn_of _ (by decide +kernel)) ggX5_resize_X5_in
set_option maxRecDepth 20000 in
theorem ggX5_resize_X5_saves : GoodIn wsX5_resize wsX5_saves := goodIn_r _ [18, 19, 20, 2, 60, 61, 62, 63, 64, 65, 66, 67, 68, 69, 70, 71, 72, 73, 74, 75] (by decide +kernel) (by decide +kernel)
set_option maxRecDepth 20000 in
theorem gX5_resize_X5_saves : GoodIn wsX5_resize (wsV RX5 119 RX5 yX5_saves wsX5_saves) := goodIn_app (goodIn_of _ (by decide +kernel)) ggX5_resize_X5_saves
set_option maxRecDepth 20000 in
theorem ggX5_resize_X5_stands : GoodIn wsX5_resize wsX5_stands := goodIn_r _ [24, 2, 60, 61, 62, 63, 64, 65, 66, 67, 68, 69, 70, 71, 72, 73, 74, 75] (by decide +kernel) (by decide +kernel)
set_option maxRecDepth 20000 in
theorem gX5_resize_X5_stands : GoodIn wsX5_resize (wsV RX5 108 RX5 yX5_stands wsX5_stands) := goodIn_app (goodIn_of _ (by decide +kernel)) ggX5_resize_X5_stands
set_option maxRecDepth 20000 in
theorem ggX5_resize_X5_openOf : GoodIn wsX5_resize wsX5_openOf := goodIn_r _ [28, 29, 30, 31, 6, 32, 2, 33, 34, 35, 36, 37, 38, 39, 40, 41, 42, 43, 44, 45, 46, 47, 48, 49, 50, 51, 52, 53, 54, 55, 56, 8, 9, 10, 60, 61, 62, 63, 64, 65, 66, 67, 68, 69, 70, 71, 72, 73, 74, 75] (by decide +kernel) (by decide +kernel)
set_option maxRecDepth 20000 in
theorem gX5_resize_X5_openOf : GoodIn wsX5_resize (wsV RX5 102 RX5 yX5_openOf wsX5_openOf) := goodIn_app (goodIn_of _ (by decide +kernel)) ggX5_resize_X5_openOf
set_option maxRecDepth 20000 in
theorem ggX5_resize_X5_ones : GoodIn wsX5_resize wsX5_ones := goodIn_r _ [59] (by decide +kernel) (by decide +kernel)
set_option maxRecDepth 20000 in
theorem gX5_resize_X5_ones : GoodIn wsX5_resize (va_wsS RX5 126 yX5_ones wsX5_ones) := goodIn_app (goodIn_of _ (by decide +kernel)) ggX5_resize_X5_ones
theorem dX5_resize_0 : decode cX5_resize 0 = .ok (.aload_n 0, 1) := by decide +kernel
theorem dX5_resize_1 : decode cX5_resize 1 = .ok (.iconst 0, 1) := by decide +kernel
theorem dX5_resize_2 : decode cX5_resize 2 = .ok (.putfield 31, 3) := by decide +kernel
theorem dX5_resize_5 : decode cX5_resize 5 = .ok (.aload_n 0, 1) := by decide +kernel
theorem dX5_resize_6 : decode cX5_resize 6 = .ok (.iload_n 1, 1) := by decide +kernel
theorem dX5_resize_7 : decode cX5_resize 7 = .ok (.invokevirtual 129, 3) := by decide +kernel
theorem dX5_resize_10 : decode cX5_resize 10 = .ok (.ifCond .ne 9, 3) := by decide +kernel
theorem dX5_resize_13 : decode cX5_resize 13 = .ok (.aload_n 0, 1) := by decide +kernel
theorem dX5_resize_14 : decode cX5_resize 14 = .ok (.iconst 1, 1) := by decide +kernel
theorem dX5_resize_15 : decode cX5_resize 15 = .ok (.invokevirtual 132, 3) := by decide +kernel
theorem dX5_resize_18 : decode cX5_resize 18 = .ok (.ireturn, 1) := by decide +kernel
theorem dX5_resize_19 : decode cX5_resize 19 = .ok (.iload_n 2, 1) := by decide +kernel
theorem dX5_resize_20 : decode cX5_resize 20 = .ok (.iconst 1, 1) := by decide +kernel
theorem dX5_resize_21 : decode cX5_resize 21 = .ok (.bipush 20, 2) := by decide +kernel
theorem dX5_resize_23 : decode cX5_resize 23 = .ok (.invokestatic 35, 3) := by decide +kernel
theorem dX5_resize_26 : decode cX5_resize 26 = .ok (.ifCond .eq 13, 3) := by decide +kernel
theorem dX5_resize_29 : decode cX5_resize 29 = .ok (.iload_n 3, 1) := by decide +kernel
theorem dX5_resize_30 : decode cX5_resize 30 = .ok (.iconst 1, 1) := by decide +kernel
theorem dX5_resize_31 : decode cX5_resize 31 = .ok (.bipush 9, 2) := by decide +kernel
theorem dX5_resize_33 : decode cX5_resize 33 = .ok (.invokestatic 35, 3) := by decide +kernel
theorem dX5_resize_36 : decode cX5_resize 36 = .ok (.ifCond .ne 9, 3) := by decide +kernel
theorem dX5_resize_39 : decode cX5_resize 39 = .ok (.aload_n 0, 1) := by decide +kernel
theorem dX5_resize_40 : decode cX5_resize 40 = .ok (.iconst 2, 1) := by decide +kernel
theorem dX5_resize_41 : decode cX5_resize 41 = .ok (.invokevirtual 132, 3) := by decide +kernel
theorem dX5_resize_44 : decode cX5_resize 44 = .ok (.ireturn, 1) := by decide +kernel
theorem dX5_resize_45 : decode cX5_resize 45 = .ok (.aload_n 0, 1) := by decide +kernel
theorem dX5_resize_46 : decode cX5_resize 46 = .ok (.invokevirtual 119, 3) := by decide +kernel
theorem dX5_resize_49 : decode cX5_resize 49 = .ok (.aload_n 0, 1) := by decide +kernel
theorem dX5_resize_50 : decode cX5_resize 50 = .ok (.getfield 7, 3) := by decide +kernel
theorem dX5_resize_53 : decode cX5_resize 53 = .ok (.iconst 1, 1) := by decide +kernel
theorem dX5_resize_54 : decode cX5_resize 54 = .ok (.bipush 6, 2) := by decide +kernel
theorem dX5_resize_56 : decode cX5_resize 56 = .ok (.iload_n 1, 1) := by decide +kernel
theorem dX5_resize_57 : decode cX5_resize 57 = .ok (.imul, 1) := by decide +kernel
theorem dX5_resize_58 : decode cX5_resize 58 = .ok (.iadd, 1) := by decide +kernel
theorem dX5_resize_59 : decode cX5_resize 59 = .ok (.iconst 2, 1) := by decide +kernel
theorem dX5_resize_60 : decode cX5_resize 60 = .ok (.iadd, 1) := by decide +kernel
theorem dX5_resize_61 : decode cX5_resize 61 = .ok (.iload_n 2, 1) := by decide +kernel
theorem dX5_resize_62 : decode cX5_resize 62 = .ok (.iastore, 1) := by decide +kernel
theorem dX5_resize_63 : decode cX5_resize 63 = .ok (.aload_n 0, 1) := by decide +kernel
theorem dX5_resize_64 : decode cX5_resize 64 = .ok (.getfield 7, 3) := by decide +kernel
theorem dX5_resize_67 : decode cX5_resize 67 = .ok (.iconst 1, 1) := by decide +kernel
theorem dX5_resize_68 : decode cX5_resize 68 = .ok (.bipush 6, 2) := by decide +kernel
theorem dX5_resize_70 : decode cX5_resize 70 = .ok (.iload_n 1, 1) := by decide +kernel
theorem dX5_resize_71 : decode cX5_resize 71 = .ok (.imul, 1) := by decide +kernel
theorem dX5_resize_72 : decode cX5_resize 72 = .ok (.iadd, 1) := by decide +kernel
theorem dX5_resize_73 : decode cX5_resize 73 = .ok (.iconst 3, 1) := by decide +kernel
theorem dX5_resize_74 : decode cX5_resize 74 = .ok (.iadd, 1) := by decide +kernel
theorem dX5_resize_75 : decode cX5_resize 75 = .ok (.iload_n 3, 1) := by decide +kernel
theorem dX5_resize_76 : decode cX5_resize 76 = .ok (.iastore, 1) := by decide +kernel
theorem dX5_resize_77 : decode cX5_resize 77 = .ok (.aload_n 0, 1) := by decide +kernel
theorem dX5_resize_78 : decode cX5_resize 78 = .ok (.iload_n 1, 1) := by decide +kernel
theorem dX5_resize_79 : decode cX5_resize 79 = .ok (.iconst (-1), 1) := by decide +kernel
theorem dX5_resize_80 : decode cX5_resize 80 = .ok (.invokevirtual 108, 3) := by decide +kernel
theorem dX5_resize_83 : decode cX5_resize 83 = .ok (.aload_n 0, 1) := by decide +kernel
theorem dX5_resize_84 : decode cX5_resize 84 = .ok (.iload_n 1, 1) := by decide +kernel
theorem dX5_resize_85 : decode cX5_resize 85 = .ok (.invokevirtual 102, 3) := by decide +kernel
theorem dX5_resize_88 : decode cX5_resize 88 = .ok (.invokestatic 126, 3) := by decide +kernel
theorem dX5_resize_91 : decode cX5_resize 91 = .ok (.ireturn, 1) := by decide +kernel
set_option maxRecDepth 20000 in
theorem ggX5_place_X5_isPoint : GoodIn wsX5_place wsX5_isPoint := goodIn_r _ [6, 7, 8, 9, 5, 10, 71, 72, 73, 74, 75, 76, 77, 78, 79, 80, 81, 82, 83, 84, 85, 86] (by decide +kernel) (by decide +kernel)
set_option maxRecDepth 20000 in
theorem gX5_place_X5_isPoint : GoodIn wsX5_place (wsV RX5 129 RX5 yX5_isPoint wsX5_isPoint) := goodIn_app (goodIn_of _ (by decide +kernel)) ggX5_place_X5_isPoint
set_option maxRecDepth 20000 in
theorem ggX5_place_X5_fails : GoodIn wsX5_place wsX5_fails := goodIn_r _ [14, 1, 71, 72, 73, 74, 75, 76, 77, 78, 79, 80, 81, 82, 83, 84, 85, 86] (by decide +kernel) (by decide +kernel)
set_option maxRecDepth 20000 in
theorem gX5_place_X5_fails : GoodIn wsX5_place (wsV RX5 132 RX5 yX5_fails wsX5_fails) := goodIn_app (goodIn_of _ (by decide +kernel)) ggX5_place_X5_fails
set_option maxRecDepth 20000 in
theorem ggX5_place_X5_in : GoodIn wsX5_place wsX5_in := goodIn_r _ [10] (by decide +kernel) (by decide +kernel)
set_option maxRecDepth 20000 in
theorem gX5_place_X5_in : GoodIn wsX5_place (va_wsS RX5 35 yX5_in wsX5_in) := goodIn_app (goodIn_of _ (by decide +kernel)) ggX5_place_X5_in
set_option maxRecDepth 20000 in
theorem ggX5_place_X5_canStand : GoodIn wsX5_place wsX5_canStand := goodIn_r _ [18, 7, 19, 20, 21, 5, 22, 23, 24, 25, 26, 27, 28, 29, 30, 31, 32, 33, 34, 35, 36, 37, 38, 39, 40, 41, 42, 43, 44, 45, 46, 8, 9, 10, 47, 48, 49, 50, 51, 52, 53, 54, 55, 56, 57, 58, 59, 60, 71, 72, 73, 74, 75, 76, 77, 78, 79, 80, 81, 82, 83, 84, 85, 86] (by decide +kernel) (by decide +kernel)
set_option maxRecDepth 20000 in
theorem gX5_place_X5_canStand : GoodIn wsX5_place (wsV RX5 138 RX5 yX5_canStand wsX5_canStand) := goodIn_app (goodIn_of _ (by decide +kernel)) ggX5_place_X5_canStand
set_option maxRecDepth 20000 in
theorem ggX5_place_X5_saves : GoodIn wsX5_place wsX5_saves := goodIn_r _ [64, 65, 66, 7, 71, 72, 73, 74, 75, 76, 77, 78, 79, 80, 81, 82, 83, 84, 85, 86] (by decide +kernel) (by decide +kernel)
set_option maxRecDepth 20000 in
theorem gX5_place_X5_saves : GoodIn wsX5_place (wsV RX5 119 RX5 yX5_saves wsX5_saves) := goodIn_app (goodIn_of _ (by decide +kernel)) ggX5_place_X5_saves
set_option maxRecDepth 20000 in
theorem ggX5_place_X5_cornerOf : GoodIn wsX5_place wsX5_cornerOf := goodIn_r _ [50, 27, 28, 29, 5, 30, 7, 71, 72, 73, 74, 75, 76, 77, 78, 79, 80, 81, 82, 83, 84, 85, 86] (by decide +kernel) (by decide +kernel)
set_option maxRecDepth 20000 in
theorem gX5_place_X5_cornerOf : GoodIn wsX5_place (wsV RX5 72 RX5 yX5_cornerOf wsX5_cornerOf) := goodIn_app (goodIn_of _ (by decide +kernel)) ggX5_place_X5_cornerOf
set_option maxRecDepth 20000 in
theorem ggX5_place_X5_stands : GoodIn wsX5_place wsX5_stands := goodIn_r _ [70, 7, 71, 72, 73, 74, 75, 76, 77, 78, 79, 80, 81, 82, 83, 84, 85, 86] (by decide +kernel) (by decide +kernel)
set_option maxRecDepth 20000 in
theorem gX5_place_X5_stands : GoodIn wsX5_place (wsV RX5 108 RX5 yX5_stands wsX5_stands) := goodIn_app (goodIn_of _ (by decide +kernel)) ggX5_place_X5_stands
theorem dX5_place_0 : decode cX5_place 0 = .ok (.aload_n 0, 1) := by decide +kernel
theorem dX5_place_1 : decode cX5_place 1 = .ok (.iconst 0, 1) := by decide +kernel
theorem dX5_place_2 : decode cX5_place 2 = .ok (.putfield 31, 3) := by decide +kernel
theorem dX5_place_5 : decode cX5_place 5 = .ok (.aload_n 0, 1) := by decide +kernel
theorem dX5_place_6 : decode cX5_place 6 = .ok (.iload_n 1, 1) := by decide +kernel
theorem dX5_place_7 : decode cX5_place 7 = .ok (.invokevirtual 129, 3) := by decide +kernel
theorem dX5_place_10 : decode cX5_place 10 = .ok (.ifCond .ne 9, 3) := by decide +kernel
theorem dX5_place_13 : decode cX5_place 13 = .ok (.aload_n 0, 1) := by decide +kernel
theorem dX5_place_14 : decode cX5_place 14 = .ok (.iconst 1, 1) := by decide +kernel
theorem dX5_place_15 : decode cX5_place 15 = .ok (.invokevirtual 132, 3) := by decide +kernel
theorem dX5_place_18 : decode cX5_place 18 = .ok (.ireturn, 1) := by decide +kernel
theorem dX5_place_19 : decode cX5_place 19 = .ok (.iload_n 2, 1) := by decide +kernel
theorem dX5_place_20 : decode cX5_place 20 = .ok (.iconst 0, 1) := by decide +kernel
theorem dX5_place_21 : decode cX5_place 21 = .ok (.iconst 3, 1) := by decide +kernel
theorem dX5_place_22 : decode cX5_place 22 = .ok (.invokestatic 35, 3) := by decide +kernel
theorem dX5_place_25 : decode cX5_place 25 = .ok (.ifCond .ne 9, 3) := by decide +kernel
theorem dX5_place_28 : decode cX5_place 28 = .ok (.aload_n 0, 1) := by decide +kernel
theorem dX5_place_29 : decode cX5_place 29 = .ok (.iconst 2, 1) := by decide +kernel
theorem dX5_place_30 : decode cX5_place 30 = .ok (.invokevirtual 132, 3) := by decide +kernel
theorem dX5_place_33 : decode cX5_place 33 = .ok (.ireturn, 1) := by decide +kernel
theorem dX5_place_34 : decode cX5_place 34 = .ok (.aload_n 0, 1) := by decide +kernel
theorem dX5_place_35 : decode cX5_place 35 = .ok (.iload_n 1, 1) := by decide +kernel
theorem dX5_place_36 : decode cX5_place 36 = .ok (.iload_n 2, 1) := by decide +kernel
theorem dX5_place_37 : decode cX5_place 37 = .ok (.invokevirtual 138, 3) := by decide +kernel
theorem dX5_place_40 : decode cX5_place 40 = .ok (.ifCond .ne 9, 3) := by decide +kernel
theorem dX5_place_43 : decode cX5_place 43 = .ok (.aload_n 0, 1) := by decide +kernel
theorem dX5_place_44 : decode cX5_place 44 = .ok (.iconst 3, 1) := by decide +kernel
theorem dX5_place_45 : decode cX5_place 45 = .ok (.invokevirtual 132, 3) := by decide +kernel
theorem dX5_place_48 : decode cX5_place 48 = .ok (.ireturn, 1) := by decide +kernel
theorem dX5_place_49 : decode cX5_place 49 = .ok (.aload_n 0, 1) := by decide +kernel
theorem dX5_place_50 : decode cX5_place 50 = .ok (.invokevirtual 119, 3) := by decide +kernel
theorem dX5_place_53 : decode cX5_place 53 = .ok (.aload_n 0, 1) := by decide +kernel
theorem dX5_place_54 : decode cX5_place 54 = .ok (.iload_n 1, 1) := by decide +kernel
theorem dX5_place_55 : decode cX5_place 55 = .ok (.invokevirtual 72, 3) := by decide +kernel
theorem dX5_place_58 : decode cX5_place 58 = .ok (.istore_n 3, 1) := by decide +kernel
theorem dX5_place_59 : decode cX5_place 59 = .ok (.aload_n 0, 1) := by decide +kernel
theorem dX5_place_60 : decode cX5_place 60 = .ok (.iload_n 1, 1) := by decide +kernel
theorem dX5_place_61 : decode cX5_place 61 = .ok (.iload_n 2, 1) := by decide +kernel
theorem dX5_place_62 : decode cX5_place 62 = .ok (.invokevirtual 108, 3) := by decide +kernel
theorem dX5_place_65 : decode cX5_place 65 = .ok (.iload_n 3, 1) := by decide +kernel
theorem dX5_place_66 : decode cX5_place 66 = .ok (.ireturn, 1) := by decide +kernel
set_option maxRecDepth 20000 in
theorem ggX5_drop_X5_isPoint : GoodIn wsX5_drop wsX5_isPoint := goodIn_r _ [6, 7, 8, 9, 5, 10, 33, 34, 35, 36, 37, 38, 39, 40, 41, 42, 43, 44, 45, 46, 47, 48] (by decide +kernel) (by decide +kernel)
set_option maxRecDepth 20000 in
theorem gX5_drop_X5_isPoint : GoodIn wsX5_drop (wsV RX5 129 RX5 yX5_isPoint wsX5_isPoint) := goodIn_app (goodIn_of _ (by decide +kernel)) ggX5_drop_X5_isPoint
set_option maxRecDepth 20000 in
theorem ggX5_drop_X5_fails : GoodIn wsX5_drop wsX5_fails := goodIn_r _ [14, 1, 33, 34, 35, 36, 37, 38, 39, 40, 41, 42, 43, 44, 45, 46, 47, 48] (by decide +kernel) (by decide +kernel)
set_option maxRecDepth 20000 in
theorem gX5_drop_X5_fails : GoodIn wsX5_drop (wsV RX5 132 RX5 yX5_fails wsX5_fails) := goodIn_app (goodIn_of _ (by decide +kernel)) ggX5_drop_X5_fails
set_option maxRecDepth 20000 in
theorem ggX5_drop_X5_saves : GoodIn wsX5_drop wsX5_saves := goodIn_r _ [18, 19, 20, 7, 33, 34, 35, 36, 37, 38, 39, 40, 41, 42, 43, 44, 45, 46, 47, 48] (by decide +kernel) (by decide +kernel)
set_option maxRecDepth 20000 in
theorem gX5_drop_X5_saves : GoodIn wsX5_drop (wsV RX5 119 RX5 yX5_saves wsX5_saves) := goodIn_app (goodIn_of _ (by decide +kernel)) ggX5_drop_X5_saves
set_option maxRecDepth 20000 in
theorem ggX5_drop_X5_cornerOf : GoodIn wsX5_drop wsX5_cornerOf := goodIn_r _ [24, 25, 26, 27, 5, 28, 7, 33, 34, 35, 36, 37, 38, 39, 40, 41, 42, 43, 44, 45, 46, 47, 48] (by decide +kernel) (by decide +kernel)
set_option maxRecDepth 20000 in
theorem gX5_drop_X5_cornerOf : GoodIn wsX5_drop (wsV RX5 72 RX5 yX5_cornerOf wsX5_cornerOf) := goodIn_app (goodIn_of _ (by decide +kernel)) ggX5_drop_X5_cornerOf
set_option maxRecDepth 20000 in
theorem ggX5_drop_X5_stands : GoodIn wsX5_drop wsX5_stands := goodIn_r _ [32, 7, 33, 34, 35, 36, 37, 38, 39, 40, 41, 42, 43, 44, 45, 46, 47, 48] (by decide +kernel) (by decide +kernel)
set_option maxRecDepth 20000 in
theorem gX5_drop_X5_stands : GoodIn wsX5_drop (wsV RX5 108 RX5 yX5_stands wsX5_stands) := goodIn_app (goodIn_of _ (by decide +kernel)) ggX5_drop_X5_stands
theorem dX5_drop_0 : decode cX5_drop 0 = .ok (.aload_n 0, 1) := by decide +kernel
theorem dX5_drop_1 : decode cX5_drop 1 = .ok (.iconst 0, 1) := by decide +kernel
theorem dX5_drop_2 : decode cX5_drop 2 = .ok (.putfield 31, 3) := by decide +kernel
theorem dX5_drop_5 : decode cX5_drop 5 = .ok (.aload_n 0, 1) := by decide +kernel
theorem dX5_drop_6 : decode cX5_drop 6 = .ok (.iload_n 1, 1) := by decide +kernel
theorem dX5_drop_7 : decode cX5_drop 7 = .ok (.invokevirtual 129, 3) := by decide +kernel
theorem dX5_drop_10 : decode cX5_drop 10 = .ok (.ifCond .ne 9, 3) := by decide +kernel
theorem dX5_drop_13 : decode cX5_drop 13 = .ok (.aload_n 0, 1) := by decide +kernel
theorem dX5_drop_14 : decode cX5_drop 14 = .ok (.iconst 1, 1) := by decide +kernel
theorem dX5_drop_15 : decode cX5_drop 15 = .ok (.invokevirtual 132, 3) := by decide +kernel
theorem dX5_drop_18 : decode cX5_drop 18 = .ok (.ireturn, 1) := by decide +kernel
theorem dX5_drop_19 : decode cX5_drop 19 = .ok (.aload_n 0, 1) := by decide +kernel
theorem dX5_drop_20 : decode cX5_drop 20 = .ok (.invokevirtual 119, 3) := by decide +kernel
theorem dX5_drop_23 : decode cX5_drop 23 = .ok (.aload_n 0, 1) := by decide +kernel
theorem dX5_drop_24 : decode cX5_drop 24 = .ok (.iload_n 1, 1) := by decide +kernel
theorem dX5_drop_25 : decode cX5_drop 25 = .ok (.invokevirtual 72, 3) := by decide +kernel
theorem dX5_drop_28 : decode cX5_drop 28 = .ok (.istore_n 2, 1) := by decide +kernel
theorem dX5_drop_29 : decode cX5_drop 29 = .ok (.aload_n 0, 1) := by decide +kernel
theorem dX5_drop_30 : decode cX5_drop 30 = .ok (.iload_n 1, 1) := by decide +kernel
theorem dX5_drop_31 : decode cX5_drop 31 = .ok (.iconst (-1), 1) := by decide +kernel
theorem dX5_drop_32 : decode cX5_drop 32 = .ok (.invokevirtual 108, 3) := by decide +kernel
theorem dX5_drop_35 : decode cX5_drop 35 = .ok (.iload_n 2, 1) := by decide +kernel
theorem dX5_drop_36 : decode cX5_drop 36 = .ok (.ireturn, 1) := by decide +kernel
set_option maxRecDepth 20000 in
theorem ggX5_solve_X5_saves : GoodIn wsX5_solve wsX5_saves := goodIn_r _ [6, 7, 8, 9, 100, 101, 102, 103, 104, 105, 106, 107, 108, 109, 110, 111, 112, 113, 114, 115] (by decide +kernel) (by decide +kernel)
set_option maxRecDepth 20000 in
theorem gX5_solve_X5_saves : GoodIn wsX5_solve (wsV RX5 119 RX5 yX5_saves wsX5_saves) := goodIn_app (goodIn_of _ (by decide +kernel)) ggX5_solve_X5_saves
set_option maxRecDepth 20000 in
theorem ggX5_solve_X5_heaviest : GoodIn wsX5_solve wsX5_heaviest := goodIn_r _ [13, 9, 14, 15, 16, 17, 5, 18, 19, 20, 21, 22, 23, 24, 25, 26, 27, 28, 29, 30, 31, 32, 33, 34, 35, 36, 37, 38, 39, 40, 41, 42, 43, 44, 45, 46, 47, 48, 49, 50, 51, 52, 53, 54, 55, 56, 57, 58, 59, 60, 61, 62, 63, 64, 65, 66, 67, 68, 69, 70, 71, 72, 73, 74, 75, 76, 77, 78, 79, 80, 81, 82, 83, 84, 85, 86, 87, 88, 89, 90, 91, 100, 101, 102, 103, 104, 105, 106, 107, 108, 109, 110, 111, 112, 113, 114, 115] (by decide +kernel) (by decide +kernel)
set_option maxRecDepth 20000 in
theorem gX5_solve_X5_heaviest : GoodIn wsX5_solve (wsV RX5 141 RX5 yX5_heaviest wsX5_heaviest) := goodIn_app (goodIn_of _ (by decide +kernel)) ggX5_solve_X5_heaviest
set_option maxRecDepth 20000 in
theorem ggX5_solve_X5_lays : GoodIn wsX5_solve wsX5_lays := goodIn_r _ [95, 9, 61, 96, 97, 98, 5, 99, 100, 101, 102, 103, 104, 105, 106, 107, 108, 109, 110, 111, 112, 113, 114, 115] (by decide +kernel) (by decide +kernel)
set_option maxRecDepth 20000 in
theorem gX5_solve_X5_lays : GoodIn wsX5_solve (wsV RX5 144 RX5 yX5_lays wsX5_lays) := goodIn_app (goodIn_of _ (by decide +kernel)) ggX5_solve_X5_lays
theorem dX5_solve_0 : decode cX5_solve 0 = .ok (.aload_n 0, 1) := by decide +kernel
theorem dX5_solve_1 : decode cX5_solve 1 = .ok (.iconst 0, 1) := by decide +kernel
theorem dX5_solve_2 : decode cX5_solve 2 = .ok (.putfield 31, 3) := by decide +kernel
theorem dX5_solve_5 : decode cX5_solve 5 = .ok (.aload_n 0, 1) := by decide +kernel
theorem dX5_solve_6 : decode cX5_solve 6 = .ok (.invokevirtual 119, 3) := by decide +kernel
theorem dX5_solve_9 : decode cX5_solve 9 = .ok (.aload_n 0, 1) := by decide +kernel
theorem dX5_solve_10 : decode cX5_solve 10 = .ok (.iconst (-1), 1) := by decide +kernel
theorem dX5_solve_11 : decode cX5_solve 11 = .ok (.invokevirtual 141, 3) := by decide +kernel
theorem dX5_solve_14 : decode cX5_solve 14 = .ok (.istore_n 1, 1) := by decide +kernel
theorem dX5_solve_15 : decode cX5_solve 15 = .ok (.aload_n 0, 1) := by decide +kernel
theorem dX5_solve_16 : decode cX5_solve 16 = .ok (.invokevirtual 144, 3) := by decide +kernel
theorem dX5_solve_19 : decode cX5_solve 19 = .ok (.iload_n 1, 1) := by decide +kernel
theorem dX5_solve_20 : decode cX5_solve 20 = .ok (.ireturn, 1) := by decide +kernel
set_option maxRecDepth 20000 in
theorem ggX5_push_X5_isPoint : GoodIn wsX5_push wsX5_isPoint := goodIn_r _ [6, 7, 8, 9, 5, 10, 108, 109, 110, 111, 112, 113, 114, 115, 116, 117, 118, 119, 120, 121, 122, 123] (by decide +kernel) (by decide +kernel)
set_option maxRecDepth 20000 in
theorem gX5_push_X5_isPoint : GoodIn wsX5_push (wsV RX5 129 RX5 yX5_isPoint wsX5_isPoint) := goodIn_app (goodIn_of _ (by decide +kernel)) ggX5_push_X5_isPoint
set_option maxRecDepth 20000 in
theorem ggX5_push_X5_fails : GoodIn wsX5_push wsX5_fails := goodIn_r _ [14, 1, 108, 109, 110, 111, 112, 113, 114, 115, 116, 117, 118, 119, 120, 121, 122, 123] (by decide +kernel) (by decide +kernel)
set_option maxRecDepth 20000 in
theorem gX5_push_X5_fails : GoodIn wsX5_push (wsV RX5 132 RX5 yX5_fails wsX5_fails) := goodIn_app (goodIn_of _ (by decide +kernel)) ggX5_push_X5_fails
set_option maxRecDepth 20000 in
theorem ggX5_push_X5_makesRoom : GoodIn wsX5_push wsX5_makesRoom := goodIn_r _ [18, 7, 19, 20, 21, 22, 5, 23, 24, 25, 26, 27, 28, 29, 30, 31, 32, 33, 34, 35, 36, 37, 38, 39, 40, 41, 42, 43, 44, 45, 46, 47, 48, 49, 50, 51, 52, 53, 54, 55, 8, 9, 10, 56, 57, 58, 59, 60, 61, 62, 63, 64, 65, 66, 67, 68, 69, 70, 71, 72, 73, 74, 75, 76, 77, 78, 79, 80, 81, 82, 83, 84, 85, 86, 87, 88, 89, 90, 91, 92, 93, 108, 109, 110, 111, 112, 113, 114, 115, 116, 117, 118, 119, 120, 121, 122, 123] (by decide +kernel) (by decide +kernel)
set_option maxRecDepth 20000 in
theorem gX5_push_X5_makesRoom : GoodIn wsX5_push (wsV RX5 147 RX5 yX5_makesRoom wsX5_makesRoom) := goodIn_app (goodIn_of _ (by decide +kernel)) ggX5_push_X5_makesRoom
set_option maxRecDepth 20000 in
theorem ggX5_push_X5_saves : GoodIn wsX5_push wsX5_saves := goodIn_r _ [97, 98, 99, 7, 108, 109, 110, 111, 112, 113, 114, 115, 116, 117, 118, 119, 120, 121, 122, 123] (by decide +kernel) (by decide +kernel)
set_option maxRecDepth 20000 in
theorem gX5_push_X5_saves : GoodIn wsX5_push (wsV RX5 119 RX5 yX5_saves wsX5_saves) := goodIn_app (goodIn_of _ (by decide +kernel)) ggX5_push_X5_saves
set_option maxRecDepth 20000 in
theorem ggX5_push_X5_lays : GoodIn wsX5_push wsX5_lays := goodIn_r _ [103, 7, 67, 104, 105, 106, 5, 107, 108, 109, 110, 111, 112, 113, 114, 115, 116, 117, 118, 119, 120, 121, 122, 123] (by decide +kernel) (by decide +kernel)
set_option maxRecDepth 20000 in
theorem gX5_push_X5_lays : GoodIn wsX5_push (wsV RX5 144 RX5 yX5_lays wsX5_lays) := goodIn_app (goodIn_of _ (by decide +kernel)) ggX5_push_X5_lays
theorem dX5_push_0 : decode cX5_push 0 = .ok (.aload_n 0, 1) := by decide +kernel
theorem dX5_push_1 : decode cX5_push 1 = .ok (.iconst 0, 1) := by decide +kernel
theorem dX5_push_2 : decode cX5_push 2 = .ok (.putfield 31, 3) := by decide +kernel
theorem dX5_push_5 : decode cX5_push 5 = .ok (.aload_n 0, 1) := by decide +kernel
theorem dX5_push_6 : decode cX5_push 6 = .ok (.iload_n 1, 1) := by decide +kernel
theorem dX5_push_7 : decode cX5_push 7 = .ok (.invokevirtual 129, 3) := by decide +kernel
theorem dX5_push_10 : decode cX5_push 10 = .ok (.ifCond .ne 9, 3) := by decide +kernel
theorem dX5_push_13 : decode cX5_push 13 = .ok (.aload_n 0, 1) := by decide +kernel
theorem dX5_push_14 : decode cX5_push 14 = .ok (.iconst 1, 1) := by decide +kernel
theorem dX5_push_15 : decode cX5_push 15 = .ok (.invokevirtual 132, 3) := by decide +kernel
theorem dX5_push_18 : decode cX5_push 18 = .ok (.ireturn, 1) := by decide +kernel
theorem dX5_push_19 : decode cX5_push 19 = .ok (.aload_n 0, 1) := by decide +kernel
theorem dX5_push_20 : decode cX5_push 20 = .ok (.iload_n 1, 1) := by decide +kernel
theorem dX5_push_21 : decode cX5_push 21 = .ok (.invokevirtual 147, 3) := by decide +kernel
theorem dX5_push_24 : decode cX5_push 24 = .ok (.istore_n 2, 1) := by decide +kernel
theorem dX5_push_25 : decode cX5_push 25 = .ok (.iload_n 2, 1) := by decide +kernel
theorem dX5_push_26 : decode cX5_push 26 = .ok (.iconst (-1), 1) := by decide +kernel
theorem dX5_push_27 : decode cX5_push 27 = .ok (.if_icmp .ne 9, 3) := by decide +kernel
theorem dX5_push_30 : decode cX5_push 30 = .ok (.aload_n 0, 1) := by decide +kernel
theorem dX5_push_31 : decode cX5_push 31 = .ok (.iconst 2, 1) := by decide +kernel
theorem dX5_push_32 : decode cX5_push 32 = .ok (.invokevirtual 132, 3) := by decide +kernel
theorem dX5_push_35 : decode cX5_push 35 = .ok (.ireturn, 1) := by decide +kernel
theorem dX5_push_36 : decode cX5_push 36 = .ok (.aload_n 0, 1) := by decide +kernel
theorem dX5_push_37 : decode cX5_push 37 = .ok (.invokevirtual 119, 3) := by decide +kernel
theorem dX5_push_40 : decode cX5_push 40 = .ok (.aload_n 0, 1) := by decide +kernel
theorem dX5_push_41 : decode cX5_push 41 = .ok (.invokevirtual 144, 3) := by decide +kernel
theorem dX5_push_44 : decode cX5_push 44 = .ok (.iload_n 2, 1) := by decide +kernel
theorem dX5_push_45 : decode cX5_push 45 = .ok (.ireturn, 1) := by decide +kernel
set_option maxRecDepth 20000 in
theorem ggX5_standing_X5_cornerOf : GoodIn wsX5_standing wsX5_cornerOf := goodIn_r _ [6, 7, 8, 9, 5, 10, 1, 11, 12, 13, 14, 15, 16, 17, 18, 19, 20, 21, 22, 23, 24, 25, 26] (by decide +kernel) (by decide +kernel)
set_option maxRecDepth 20000 in
theorem gX5_standing_X5_cornerOf : GoodIn wsX5_standing (wsV RX5 72 RX5 yX5_cornerOf wsX5_cornerOf) := goodIn_app (goodIn_of _ (by decide +kernel)) ggX5_standing_X5_cornerOf
theorem dX5_standing_0 : decode cX5_standing 0 = .ok (.iconst 0, 1) := by decide +kernel
theorem dX5_standing_1 : decode cX5_standing 1 = .ok (.istore_n 1, 1) := by decide +kernel
theorem dX5_standing_2 : decode cX5_standing 2 = .ok (.iconst 0, 1) := by decide +kernel
theorem dX5_standing_3 : decode cX5_standing 3 = .ok (.istore_n 2, 1) := by decide +kernel
theorem dX5_standing_4 : decode cX5_standing 4 = .ok (.iload_n 2, 1) := by decide +kernel
theorem dX5_standing_5 : decode cX5_standing 5 = .ok (.aload_n 0, 1) := by decide +kernel
theorem dX5_standing_6 : decode cX5_standing 6 = .ok (.getfield 7, 3) := by decide +kernel
theorem dX5_standing_9 : decode cX5_standing 9 = .ok (.iconst 0, 1) := by decide +kernel
theorem dX5_standing_10 : decode cX5_standing 10 = .ok (.iaload, 1) := by decide +kernel
theorem dX5_standing_11 : decode cX5_standing 11 = .ok (.if_icmp .ge 26, 3) := by decide +kernel
theorem dX5_standing_14 : decode cX5_standing 14 = .ok (.iload_n 1, 1) := by decide +kernel
theorem dX5_standing_15 : decode cX5_standing 15 = .ok (.aload_n 0, 1) := by decide +kernel
theorem dX5_standing_16 : decode cX5_standing 16 = .ok (.iload_n 2, 1) := by decide +kernel
theorem dX5_standing_17 : decode cX5_standing 17 = .ok (.invokevirtual 72, 3) := by decide +kernel
theorem dX5_standing_20 : decode cX5_standing 20 = .ok (.iconst (-1), 1) := by decide +kernel
theorem dX5_standing_21 : decode cX5_standing 21 = .ok (.if_icmp .ne 7, 3) := by decide +kernel
theorem dX5_standing_24 : decode cX5_standing 24 = .ok (.iconst 0, 1) := by decide +kernel
theorem dX5_standing_25 : decode cX5_standing 25 = .ok (.goto 4, 3) := by decide +kernel
theorem dX5_standing_28 : decode cX5_standing 28 = .ok (.iconst 1, 1) := by decide +kernel
theorem dX5_standing_29 : decode cX5_standing 29 = .ok (.iadd, 1) := by decide +kernel
theorem dX5_standing_30 : decode cX5_standing 30 = .ok (.istore_n 1, 1) := by decide +kernel
theorem dX5_standing_31 : decode cX5_standing 31 = .ok (.iinc 2 1, 3) := by decide +kernel
theorem dX5_standing_34 : decode cX5_standing 34 = .ok (.goto (-30), 3) := by decide +kernel
theorem dX5_standing_37 : decode cX5_standing 37 = .ok (.iload_n 1, 1) := by decide +kernel
theorem dX5_standing_38 : decode cX5_standing 38 = .ok (.ireturn, 1) := by decide +kernel
set_option maxRecDepth 20000 in
theorem ggX5_mirror_X5_saves : GoodIn wsX5_mirror wsX5_saves := goodIn_r _ [7, 8, 9, 2, 26, 27, 28, 29, 30, 31, 32, 33, 34, 35, 36, 37, 38, 39, 40, 41] (by decide +kernel) (by decide +kernel)
set_option maxRecDepth 20000 in
theorem gX5_mirror_X5_saves : GoodIn wsX5_mirror (wsV RX5 119 RX5 yX5_saves wsX5_saves) := goodIn_app (goodIn_of _ (by decide +kernel)) ggX5_mirror_X5_saves
set_option maxRecDepth 20000 in
theorem ggX5_mirror_X5_of : GoodIn wsX5_mirror wsX5_of := goodIn_r _ [13, 2, 26, 27, 28, 29, 30, 31, 32, 33, 34, 35, 36, 37, 38, 39, 40, 41] (by decide +kernel) (by decide +kernel)
set_option maxRecDepth 20000 in
theorem gX5_mirror_X5_of : GoodIn wsX5_mirror (wsV RX5 39 RX5 yX5_of wsX5_of) := goodIn_app (goodIn_of _ (by decide +kernel)) ggX5_mirror_X5_of
set_option maxRecDepth 20000 in
theorem ggX5_mirror_X5_cornerOf : GoodIn wsX5_mirror wsX5_cornerOf := goodIn_r _ [17, 10, 11, 12, 6, 13, 2, 26, 27, 28, 29, 30, 31, 32, 33, 34, 35, 36, 37, 38, 39, 40, 41] (by decide +kernel) (by decide +kernel)
set_option maxRecDepth 20000 in
theorem gX5_mirror_X5_cornerOf : GoodIn wsX5_mirror (wsV RX5 72 RX5 yX5_cornerOf wsX5_cornerOf) := goodIn_app (goodIn_of _ (by decide +kernel)) ggX5_mirror_X5_cornerOf
set_option maxRecDepth 20000 in
theorem ggX5_mirror_X5_stands : GoodIn wsX5_mirror wsX5_stands := goodIn_r _ [21, 2, 26, 27, 28, 29, 30, 31, 32, 33, 34, 35, 36, 37, 38, 39, 40, 41] (by decide +kernel) (by decide +kernel)
set_option maxRecDepth 20000 in
theorem gX5_mirror_X5_stands : GoodIn wsX5_mirror (wsV RX5 108 RX5 yX5_stands wsX5_stands) := goodIn_app (goodIn_of _ (by decide +kernel)) ggX5_mirror_X5_stands
set_option maxRecDepth 20000 in
theorem ggX5_mirror_X5_standing : GoodIn wsX5_mirror wsX5_standing := goodIn_r _ [25, 2, 14, 15, 16, 6, 17, 10, 11, 12, 13, 26, 27, 28, 29, 30, 31, 32, 33, 34, 35, 36, 37, 38, 39, 40, 41] (by decide +kernel) (by decide +kernel)
set_option maxRecDepth 20000 in
theorem gX5_mirror_X5_standing : GoodIn wsX5_mirror (wsV RX5 150 RX5 yX5_standing wsX5_standing) := goodIn_app (goodIn_of _ (by decide +kernel)) ggX5_mirror_X5_standing
theorem dX5_mirror_0 : decode cX5_mirror 0 = .ok (.aload_n 0, 1) := by decide +kernel
theorem dX5_mirror_1 : decode cX5_mirror 1 = .ok (.iconst 0, 1) := by decide +kernel
theorem dX5_mirror_2 : decode cX5_mirror 2 = .ok (.putfield 31, 3) := by decide +kernel
theorem dX5_mirror_5 : decode cX5_mirror 5 = .ok (.aload_n 0, 1) := by decide +kernel
theorem dX5_mirror_6 : decode cX5_mirror 6 = .ok (.invokevirtual 119, 3) := by decide +kernel
theorem dX5_mirror_9 : decode cX5_mirror 9 = .ok (.iconst 0, 1) := by decide +kernel
theorem dX5_mirror_10 : decode cX5_mirror 10 = .ok (.istore_n 1, 1) := by decide +kernel
theorem dX5_mirror_11 : decode cX5_mirror 11 = .ok (.iload_n 1, 1) := by decide +kernel
theorem dX5_mirror_12 : decode cX5_mirror 12 = .ok (.aload_n 0, 1) := by decide +kernel
theorem dX5_mirror_13 : decode cX5_mirror 13 = .ok (.getfield 7, 3) := by decide +kernel
theorem dX5_mirror_16 : decode cX5_mirror 16 = .ok (.iconst 0, 1) := by decide +kernel
theorem dX5_mirror_17 : decode cX5_mirror 17 = .ok (.iaload, 1) := by decide +kernel
theorem dX5_mirror_18 : decode cX5_mirror 18 = .ok (.if_icmp .ge 56, 3) := by decide +kernel
theorem dX5_mirror_21 : decode cX5_mirror 21 = .ok (.aload_n 0, 1) := by decide +kernel
theorem dX5_mirror_22 : decode cX5_mirror 22 = .ok (.getfield 7, 3) := by decide +kernel
theorem dX5_mirror_25 : decode cX5_mirror 25 = .ok (.iconst 1, 1) := by decide +kernel
theorem dX5_mirror_26 : decode cX5_mirror 26 = .ok (.bipush 6, 2) := by decide +kernel
theorem dX5_mirror_28 : decode cX5_mirror 28 = .ok (.iload_n 1, 1) := by decide +kernel
theorem dX5_mirror_29 : decode cX5_mirror 29 = .ok (.imul, 1) := by decide +kernel
theorem dX5_mirror_30 : decode cX5_mirror 30 = .ok (.iadd, 1) := by decide +kernel
theorem dX5_mirror_31 : decode cX5_mirror 31 = .ok (.iconst 0, 1) := by decide +kernel
theorem dX5_mirror_32 : decode cX5_mirror 32 = .ok (.iadd, 1) := by decide +kernel
theorem dX5_mirror_33 : decode cX5_mirror 33 = .ok (.bipush 59, 2) := by decide +kernel
theorem dX5_mirror_35 : decode cX5_mirror 35 = .ok (.aload_n 0, 1) := by decide +kernel
theorem dX5_mirror_36 : decode cX5_mirror 36 = .ok (.iload_n 1, 1) := by decide +kernel
theorem dX5_mirror_37 : decode cX5_mirror 37 = .ok (.iconst 0, 1) := by decide +kernel
theorem dX5_mirror_38 : decode cX5_mirror 38 = .ok (.invokevirtual 39, 3) := by decide +kernel
theorem dX5_mirror_41 : decode cX5_mirror 41 = .ok (.isub, 1) := by decide +kernel
theorem dX5_mirror_42 : decode cX5_mirror 42 = .ok (.iastore, 1) := by decide +kernel
theorem dX5_mirror_43 : decode cX5_mirror 43 = .ok (.aload_n 0, 1) := by decide +kernel
theorem dX5_mirror_44 : decode cX5_mirror 44 = .ok (.iload_n 1, 1) := by decide +kernel
theorem dX5_mirror_45 : decode cX5_mirror 45 = .ok (.aload_n 0, 1) := by decide +kernel
theorem dX5_mirror_46 : decode cX5_mirror 46 = .ok (.iload_n 1, 1) := by decide +kernel
theorem dX5_mirror_47 : decode cX5_mirror 47 = .ok (.invokevirtual 72, 3) := by decide +kernel
theorem dX5_mirror_50 : decode cX5_mirror 50 = .ok (.iconst (-1), 1) := by decide +kernel
theorem dX5_mirror_51 : decode cX5_mirror 51 = .ok (.if_icmp .ne 7, 3) := by decide +kernel
theorem dX5_mirror_54 : decode cX5_mirror 54 = .ok (.iconst (-1), 1) := by decide +kernel
theorem dX5_mirror_55 : decode cX5_mirror 55 = .ok (.goto 10, 3) := by decide +kernel
theorem dX5_mirror_58 : decode cX5_mirror 58 = .ok (.aload_n 0, 1) := by decide +kernel
theorem dX5_mirror_59 : decode cX5_mirror 59 = .ok (.iload_n 1, 1) := by decide +kernel
theorem dX5_mirror_60 : decode cX5_mirror 60 = .ok (.invokevirtual 72, 3) := by decide +kernel
theorem dX5_mirror_63 : decode cX5_mirror 63 = .ok (.iconst 1, 1) := by decide +kernel
theorem dX5_mirror_64 : decode cX5_mirror 64 = .ok (.ixor, 1) := by decide +kernel
theorem dX5_mirror_65 : decode cX5_mirror 65 = .ok (.invokevirtual 108, 3) := by decide +kernel
theorem dX5_mirror_68 : decode cX5_mirror 68 = .ok (.iinc 1 1, 3) := by decide +kernel
theorem dX5_mirror_71 : decode cX5_mirror 71 = .ok (.goto (-60), 3) := by decide +kernel
theorem dX5_mirror_74 : decode cX5_mirror 74 = .ok (.aload_n 0, 1) := by decide +kernel
theorem dX5_mirror_75 : decode cX5_mirror 75 = .ok (.invokevirtual 150, 3) := by decide +kernel
theorem dX5_mirror_78 : decode cX5_mirror 78 = .ok (.ireturn, 1) := by decide +kernel
set_option maxRecDepth 20000 in
theorem ggX5_append_X5_in : GoodIn wsX5_append wsX5_in := goodIn_r _ [7] (by decide +kernel) (by decide +kernel)
set_option maxRecDepth 20000 in
theorem gX5_append_X5_in : GoodIn wsX5_append (va_wsS RX5 35 yX5_in wsX5_in) := goodIn_app (goodIn_of _ (by decide +kernel)) ggX5_append_X5_in
set_option maxRecDepth 20000 in
theorem ggX5_append_X5_fails : GoodIn wsX5_append wsX5_fails := goodIn_r _ [11, 1, 12, 13, 14, 15, 16, 17, 18, 19, 20, 21, 22, 23, 24, 25, 26, 27] (by decide +kernel) (by decide +kernel)
set_option maxRecDepth 20000 in
theorem gX5_append_X5_fails : GoodIn wsX5_append (wsV RX5 132 RX5 yX5_fails wsX5_fails) := goodIn_app (goodIn_of _ (by decide +kernel)) ggX5_append_X5_fails
theorem dX5_append_0 : decode cX5_append 0 = .ok (.aload_n 0, 1) := by decide +kernel
theorem dX5_append_1 : decode cX5_append 1 = .ok (.iconst 0, 1) := by decide +kernel
theorem dX5_append_2 : decode cX5_append 2 = .ok (.putfield 31, 3) := by decide +kernel
theorem dX5_append_5 : decode cX5_append 5 = .ok (.iload_n 1, 1) := by decide +kernel
theorem dX5_append_6 : decode cX5_append 6 = .ok (.bipush 33, 2) := by decide +kernel
theorem dX5_append_8 : decode cX5_append 8 = .ok (.bipush 126, 2) := by decide +kernel
theorem dX5_append_10 : decode cX5_append 10 = .ok (.invokestatic 35, 3) := by decide +kernel
theorem dX5_append_13 : decode cX5_append 13 = .ok (.ifCond .ne 9, 3) := by decide +kernel
theorem dX5_append_16 : decode cX5_append 16 = .ok (.aload_n 0, 1) := by decide +kernel
theorem dX5_append_17 : decode cX5_append 17 = .ok (.iconst 1, 1) := by decide +kernel
theorem dX5_append_18 : decode cX5_append 18 = .ok (.invokevirtual 132, 3) := by decide +kernel
theorem dX5_append_21 : decode cX5_append 21 = .ok (.ireturn, 1) := by decide +kernel
theorem dX5_append_22 : decode cX5_append 22 = .ok (.aload_n 0, 1) := by decide +kernel
theorem dX5_append_23 : decode cX5_append 23 = .ok (.getfield 154, 3) := by decide +kernel
theorem dX5_append_26 : decode cX5_append 26 = .ok (.bipush 60, 2) := by decide +kernel
theorem dX5_append_28 : decode cX5_append 28 = .ok (.if_icmp .ne 9, 3) := by decide +kernel
theorem dX5_append_31 : decode cX5_append 31 = .ok (.aload_n 0, 1) := by decide +kernel
theorem dX5_append_32 : decode cX5_append 32 = .ok (.iconst 2, 1) := by decide +kernel
theorem dX5_append_33 : decode cX5_append 33 = .ok (.invokevirtual 132, 3) := by decide +kernel
theorem dX5_append_36 : decode cX5_append 36 = .ok (.ireturn, 1) := by decide +kernel
theorem dX5_append_37 : decode cX5_append 37 = .ok (.aload_n 0, 1) := by decide +kernel
theorem dX5_append_38 : decode cX5_append 38 = .ok (.getfield 16, 3) := by decide +kernel
theorem dX5_append_41 : decode cX5_append 41 = .ok (.aload_n 0, 1) := by decide +kernel
theorem dX5_append_42 : decode cX5_append 42 = .ok (.getfield 154, 3) := by decide +kernel
theorem dX5_append_45 : decode cX5_append 45 = .ok (.iload_n 1, 1) := by decide +kernel
theorem dX5_append_46 : decode cX5_append 46 = .ok (.iastore, 1) := by decide +kernel
theorem dX5_append_47 : decode cX5_append 47 = .ok (.aload_n 0, 1) := by decide +kernel
theorem dX5_append_48 : decode cX5_append 48 = .ok (.dup, 1) := by decide +kernel
theorem dX5_append_49 : decode cX5_append 49 = .ok (.getfield 154, 3) := by decide +kernel
theorem dX5_append_52 : decode cX5_append 52 = .ok (.iconst 1, 1) := by decide +kernel
theorem dX5_append_53 : decode cX5_append 53 = .ok (.iadd, 1) := by decide +kernel
theorem dX5_append_54 : decode cX5_append 54 = .ok (.putfield 154, 3) := by decide +kernel
theorem dX5_append_57 : decode cX5_append 57 = .ok (.aload_n 0, 1) := by decide +kernel
theorem dX5_append_58 : decode cX5_append 58 = .ok (.getfield 154, 3) := by decide +kernel
theorem dX5_append_61 : decode cX5_append 61 = .ok (.ireturn, 1) := by decide +kernel
theorem dX5_clearBuffer_0 : decode cX5_clearBuffer 0 = .ok (.aload_n 0, 1) := by decide +kernel
theorem dX5_clearBuffer_1 : decode cX5_clearBuffer 1 = .ok (.iconst 0, 1) := by decide +kernel
theorem dX5_clearBuffer_2 : decode cX5_clearBuffer 2 = .ok (.putfield 31, 3) := by decide +kernel
theorem dX5_clearBuffer_5 : decode cX5_clearBuffer 5 = .ok (.aload_n 0, 1) := by decide +kernel
theorem dX5_clearBuffer_6 : decode cX5_clearBuffer 6 = .ok (.getfield 154, 3) := by decide +kernel
theorem dX5_clearBuffer_9 : decode cX5_clearBuffer 9 = .ok (.istore_n 1, 1) := by decide +kernel
theorem dX5_clearBuffer_10 : decode cX5_clearBuffer 10 = .ok (.aload_n 0, 1) := by decide +kernel
theorem dX5_clearBuffer_11 : decode cX5_clearBuffer 11 = .ok (.iconst 0, 1) := by decide +kernel
theorem dX5_clearBuffer_12 : decode cX5_clearBuffer 12 = .ok (.putfield 154, 3) := by decide +kernel
theorem dX5_clearBuffer_15 : decode cX5_clearBuffer 15 = .ok (.iload_n 1, 1) := by decide +kernel
theorem dX5_clearBuffer_16 : decode cX5_clearBuffer 16 = .ok (.ireturn, 1) := by decide +kernel
theorem dX5_sign_0 : decode cX5_sign 0 = .ok (.aload_n 0, 1) := by decide +kernel
theorem dX5_sign_1 : decode cX5_sign 1 = .ok (.getfield 157, 3) := by decide +kernel
theorem dX5_sign_4 : decode cX5_sign 4 = .ok (.aload_n 0, 1) := by decide +kernel
theorem dX5_sign_5 : decode cX5_sign 5 = .ok (.getfield 154, 3) := by decide +kernel
theorem dX5_sign_8 : decode cX5_sign 8 = .ok (.if_icmp .ge 15, 3) := by decide +kernel
theorem dX5_sign_11 : decode cX5_sign 11 = .ok (.aload_n 0, 1) := by decide +kernel
theorem dX5_sign_12 : decode cX5_sign 12 = .ok (.getfield 16, 3) := by decide +kernel
theorem dX5_sign_15 : decode cX5_sign 15 = .ok (.aload_n 0, 1) := by decide +kernel
theorem dX5_sign_16 : decode cX5_sign 16 = .ok (.getfield 157, 3) := by decide +kernel
theorem dX5_sign_19 : decode cX5_sign 19 = .ok (.iaload, 1) := by decide +kernel
theorem dX5_sign_20 : decode cX5_sign 20 = .ok (.goto 4, 3) := by decide +kernel
theorem dX5_sign_23 : decode cX5_sign 23 = .ok (.iconst 0, 1) := by decide +kernel
theorem dX5_sign_24 : decode cX5_sign 24 = .ok (.ireturn, 1) := by decide +kernel
set_option maxRecDepth 20000 in
theorem ggX5_takes_X5_sign : GoodIn wsX5_takes wsX5_sign := goodIn_r _ [7, 2, 8, 9, 10, 11, 12, 13, 14, 15, 16, 17, 18, 19, 20, 21, 22, 23, 24, 25] (by decide +kernel) (by decide +kernel)
set_option maxRecDepth 20000 in
theorem gX5_takes_X5_sign : GoodIn wsX5_takes (wsV RX5 164 RX5 yX5_sign wsX5_sign) := goodIn_app (goodIn_of _ (by decide +kernel)) ggX5_takes_X5_sign
theorem dX5_takes_0 : decode cX5_takes 0 = .ok (.aload_n 0, 1) := by decide +kernel
theorem dX5_takes_1 : decode cX5_takes 1 = .ok (.getfield 160, 3) := by decide +kernel
theorem dX5_takes_4 : decode cX5_takes 4 = .ok (.ifCond .eq 15, 3) := by decide +kernel
theorem dX5_takes_7 : decode cX5_takes 7 = .ok (.aload_n 0, 1) := by decide +kernel
theorem dX5_takes_8 : decode cX5_takes 8 = .ok (.invokevirtual 164, 3) := by decide +kernel
theorem dX5_takes_11 : decode cX5_takes 11 = .ok (.iload_n 1, 1) := by decide +kernel
theorem dX5_takes_12 : decode cX5_takes 12 = .ok (.if_icmp .ne 7, 3) := by decide +kernel
theorem dX5_takes_15 : decode cX5_takes 15 = .ok (.iconst 1, 1) := by decide +kernel
theorem dX5_takes_16 : decode cX5_takes 16 = .ok (.goto 4, 3) := by decide +kernel
theorem dX5_takes_19 : decode cX5_takes 19 = .ok (.iconst 0, 1) := by decide +kernel
theorem dX5_takes_20 : decode cX5_takes 20 = .ok (.istore_n 2, 1) := by decide +kernel
theorem dX5_takes_21 : decode cX5_takes 21 = .ok (.aload_n 0, 1) := by decide +kernel
theorem dX5_takes_22 : decode cX5_takes 22 = .ok (.dup, 1) := by decide +kernel
theorem dX5_takes_23 : decode cX5_takes 23 = .ok (.getfield 157, 3) := by decide +kernel
theorem dX5_takes_26 : decode cX5_takes 26 = .ok (.iload_n 2, 1) := by decide +kernel
theorem dX5_takes_27 : decode cX5_takes 27 = .ok (.ifCond .eq 7, 3) := by decide +kernel
theorem dX5_takes_30 : decode cX5_takes 30 = .ok (.iconst 1, 1) := by decide +kernel
theorem dX5_takes_31 : decode cX5_takes 31 = .ok (.goto 4, 3) := by decide +kernel
theorem dX5_takes_34 : decode cX5_takes 34 = .ok (.iconst 0, 1) := by decide +kernel
theorem dX5_takes_35 : decode cX5_takes 35 = .ok (.iadd, 1) := by decide +kernel
theorem dX5_takes_36 : decode cX5_takes 36 = .ok (.putfield 157, 3) := by decide +kernel
theorem dX5_takes_39 : decode cX5_takes 39 = .ok (.iload_n 2, 1) := by decide +kernel
theorem dX5_takes_40 : decode cX5_takes 40 = .ok (.ireturn, 1) := by decide +kernel
set_option maxRecDepth 20000 in
theorem ggX5_number_X5_sign : GoodIn wsX5_number wsX5_sign := goodIn_r _ [7, 2, 8, 9, 13, 14, 15, 16, 17, 18, 19, 20, 21, 22, 23, 24, 25, 26, 27, 28] (by decide +kernel) (by decide +kernel)
set_option maxRecDepth 20000 in
theorem gX5_number_X5_sign : GoodIn wsX5_number (wsV RX5 164 RX5 yX5_sign wsX5_sign) := goodIn_app (goodIn_of _ (by decide +kernel)) ggX5_number_X5_sign
set_option maxRecDepth 20000 in
theorem ggX5_number_X5_in : GoodIn wsX5_number wsX5_in := goodIn_r _ [12] (by decide +kernel) (by decide +kernel)
set_option maxRecDepth 20000 in
theorem gX5_number_X5_in : GoodIn wsX5_number (va_wsS RX5 35 yX5_in wsX5_in) := goodIn_app (goodIn_of _ (by decide +kernel)) ggX5_number_X5_in
theorem dX5_number_0 : decode cX5_number 0 = .ok (.aload_n 0, 1) := by decide +kernel
theorem dX5_number_1 : decode cX5_number 1 = .ok (.aload_n 0, 1) := by decide +kernel
theorem dX5_number_2 : decode cX5_number 2 = .ok (.getfield 160, 3) := by decide +kernel
theorem dX5_number_5 : decode cX5_number 5 = .ok (.ifCond .eq 23, 3) := by decide +kernel
theorem dX5_number_8 : decode cX5_number 8 = .ok (.aload_n 0, 1) := by decide +kernel
theorem dX5_number_9 : decode cX5_number 9 = .ok (.invokevirtual 164, 3) := by decide +kernel
theorem dX5_number_12 : decode cX5_number 12 = .ok (.bipush 48, 2) := by decide +kernel
theorem dX5_number_14 : decode cX5_number 14 = .ok (.iload_n 1, 1) := by decide +kernel
theorem dX5_number_15 : decode cX5_number 15 = .ok (.iadd, 1) := by decide +kernel
theorem dX5_number_16 : decode cX5_number 16 = .ok (.bipush 57, 2) := by decide +kernel
theorem dX5_number_18 : decode cX5_number 18 = .ok (.invokestatic 35, 3) := by decide +kernel
theorem dX5_number_21 : decode cX5_number 21 = .ok (.ifCond .eq 7, 3) := by decide +kernel
theorem dX5_number_24 : decode cX5_number 24 = .ok (.iconst 1, 1) := by decide +kernel
theorem dX5_number_25 : decode cX5_number 25 = .ok (.goto 4, 3) := by decide +kernel
theorem dX5_number_28 : decode cX5_number 28 = .ok (.iconst 0, 1) := by decide +kernel
theorem dX5_number_29 : decode cX5_number 29 = .ok (.putfield 160, 3) := by decide +kernel
theorem dX5_number_32 : decode cX5_number 32 = .ok (.aload_n 0, 1) := by decide +kernel
theorem dX5_number_33 : decode cX5_number 33 = .ok (.invokevirtual 164, 3) := by decide +kernel
theorem dX5_number_36 : decode cX5_number 36 = .ok (.bipush 48, 2) := by decide +kernel
theorem dX5_number_38 : decode cX5_number 38 = .ok (.isub, 1) := by decide +kernel
theorem dX5_number_39 : decode cX5_number 39 = .ok (.istore_n 3, 1) := by decide +kernel
theorem dX5_number_40 : decode cX5_number 40 = .ok (.aload_n 0, 1) := by decide +kernel
theorem dX5_number_41 : decode cX5_number 41 = .ok (.dup, 1) := by decide +kernel
theorem dX5_number_42 : decode cX5_number 42 = .ok (.getfield 157, 3) := by decide +kernel
theorem dX5_number_45 : decode cX5_number 45 = .ok (.aload_n 0, 1) := by decide +kernel
theorem dX5_number_46 : decode cX5_number 46 = .ok (.getfield 160, 3) := by decide +kernel
theorem dX5_number_49 : decode cX5_number 49 = .ok (.ifCond .eq 7, 3) := by decide +kernel
theorem dX5_number_52 : decode cX5_number 52 = .ok (.iconst 1, 1) := by decide +kernel
theorem dX5_number_53 : decode cX5_number 53 = .ok (.goto 4, 3) := by decide +kernel
theorem dX5_number_56 : decode cX5_number 56 = .ok (.iconst 0, 1) := by decide +kernel
theorem dX5_number_57 : decode cX5_number 57 = .ok (.iadd, 1) := by decide +kernel
theorem dX5_number_58 : decode cX5_number 58 = .ok (.putfield 157, 3) := by decide +kernel
theorem dX5_number_61 : decode cX5_number 61 = .ok (.aload_n 0, 1) := by decide +kernel
theorem dX5_number_62 : decode cX5_number 62 = .ok (.getfield 160, 3) := by decide +kernel
theorem dX5_number_65 : decode cX5_number 65 = .ok (.ifCond .eq 63, 3) := by decide +kernel
theorem dX5_number_68 : decode cX5_number 68 = .ok (.iload_n 3, 1) := by decide +kernel
theorem dX5_number_69 : decode cX5_number 69 = .ok (.ifCond .le 59, 3) := by decide +kernel
theorem dX5_number_72 : decode cX5_number 72 = .ok (.aload_n 0, 1) := by decide +kernel
theorem dX5_number_73 : decode cX5_number 73 = .ok (.invokevirtual 164, 3) := by decide +kernel
theorem dX5_number_76 : decode cX5_number 76 = .ok (.bipush 48, 2) := by decide +kernel
theorem dX5_number_78 : decode cX5_number 78 = .ok (.bipush 57, 2) := by decide +kernel
theorem dX5_number_80 : decode cX5_number 80 = .ok (.invokestatic 35, 3) := by decide +kernel
theorem dX5_number_83 : decode cX5_number 83 = .ok (.ifCond .eq 45, 3) := by decide +kernel
theorem dX5_number_86 : decode cX5_number 86 = .ok (.bipush 10, 2) := by decide +kernel
theorem dX5_number_88 : decode cX5_number 88 = .ok (.iload_n 3, 1) := by decide +kernel
theorem dX5_number_89 : decode cX5_number 89 = .ok (.imul, 1) := by decide +kernel
theorem dX5_number_90 : decode cX5_number 90 = .ok (.aload_n 0, 1) := by decide +kernel
theorem dX5_number_91 : decode cX5_number 91 = .ok (.invokevirtual 164, 3) := by decide +kernel
theorem dX5_number_94 : decode cX5_number 94 = .ok (.iadd, 1) := by decide +kernel
theorem dX5_number_95 : decode cX5_number 95 = .ok (.bipush 48, 2) := by decide +kernel
theorem dX5_number_97 : decode cX5_number 97 = .ok (.isub, 1) := by decide +kernel
theorem dX5_number_98 : decode cX5_number 98 = .ok (.iload_n 2, 1) := by decide +kernel
theorem dX5_number_99 : decode cX5_number 99 = .ok (.if_icmp .gt 29, 3) := by decide +kernel
theorem dX5_number_102 : decode cX5_number 102 = .ok (.bipush 10, 2) := by decide +kernel
theorem dX5_number_104 : decode cX5_number 104 = .ok (.iload_n 3, 1) := by decide +kernel
theorem dX5_number_105 : decode cX5_number 105 = .ok (.imul, 1) := by decide +kernel
theorem dX5_number_106 : decode cX5_number 106 = .ok (.aload_n 0, 1) := by decide +kernel
theorem dX5_number_107 : decode cX5_number 107 = .ok (.invokevirtual 164, 3) := by decide +kernel
theorem dX5_number_110 : decode cX5_number 110 = .ok (.iadd, 1) := by decide +kernel
theorem dX5_number_111 : decode cX5_number 111 = .ok (.bipush 48, 2) := by decide +kernel
theorem dX5_number_113 : decode cX5_number 113 = .ok (.isub, 1) := by decide +kernel
theorem dX5_number_114 : decode cX5_number 114 = .ok (.istore_n 3, 1) := by decide +kernel
theorem dX5_number_115 : decode cX5_number 115 = .ok (.aload_n 0, 1) := by decide +kernel
theorem dX5_number_116 : decode cX5_number 116 = .ok (.dup, 1) := by decide +kernel
theorem dX5_number_117 : decode cX5_number 117 = .ok (.getfield 157, 3) := by decide +kernel
theorem dX5_number_120 : decode cX5_number 120 = .ok (.iconst 1, 1) := by decide +kernel
theorem dX5_number_121 : decode cX5_number 121 = .ok (.iadd, 1) := by decide +kernel
theorem dX5_number_122 : decode cX5_number 122 = .ok (.putfield 157, 3) := by decide +kernel
theorem dX5_number_125 : decode cX5_number 125 = .ok (.goto (-64), 3) := by decide +kernel
theorem dX5_number_128 : decode cX5_number 128 = .ok (.iload_n 3, 1) := by decide +kernel
theorem dX5_number_129 : decode cX5_number 129 = .ok (.ireturn, 1) := by decide +kernel
set_option maxRecDepth 20000 in
theorem ggX5_readsPoint_X5_number : GoodIn wsX5_readsPoint wsX5_number := goodIn_r _ [8, 3, 9, 10, 11, 12, 7, 13, 14, 15, 16, 17, 18, 23, 24, 25, 26, 27, 28, 29, 30, 31, 32, 33, 34, 35, 36, 37, 38] (by decide +kernel) (by decide +kernel)
set_option maxRecDepth 20000 in
theorem gX5_readsPoint_X5_number : GoodIn wsX5_readsPoint (wsV RX5 170 RX5 yX5_number wsX5_number) := goodIn_app (goodIn_of _ (by decide +kernel)) ggX5_readsPoint_X5_number
set_option maxRecDepth 20000 in
theorem ggX5_readsPoint_X5_takes : GoodIn wsX5_readsPoint wsX5_takes := goodIn_r _ [22, 3, 9, 10, 11, 12, 7, 13, 14, 15, 23, 24, 25, 26, 27, 28, 29, 30, 31, 32, 33, 34, 35, 36, 37, 38] (by decide +kernel) (by decide +kernel)
set_option maxRecDepth 20000 in
theorem gX5_readsPoint_X5_takes : GoodIn wsX5_readsPoint (wsV RX5 173 RX5 yX5_takes wsX5_takes) := goodIn_app (goodIn_of _ (by decide +kernel)) ggX5_readsPoint_X5_takes
theorem dX5_readsPoint_0 : decode cX5_readsPoint 0 = .ok (.iconst 5, 1) := by decide +kernel
theorem dX5_readsPoint_1 : decode cX5_readsPoint 1 = .ok (.aload_n 0, 1) := by decide +kernel
theorem dX5_readsPoint_2 : decode cX5_readsPoint 2 = .ok (.getfield 167, 3) := by decide +kernel
theorem dX5_readsPoint_5 : decode cX5_readsPoint 5 = .ok (.imul, 1) := by decide +kernel
theorem dX5_readsPoint_6 : decode cX5_readsPoint 6 = .ok (.istore_n 1, 1) := by decide +kernel
theorem dX5_readsPoint_7 : decode cX5_readsPoint 7 = .ok (.aload_n 0, 1) := by decide +kernel
theorem dX5_readsPoint_8 : decode cX5_readsPoint 8 = .ok (.getfield 28, 3) := by decide +kernel
theorem dX5_readsPoint_11 : decode cX5_readsPoint 11 = .ok (.iload_n 1, 1) := by decide +kernel
theorem dX5_readsPoint_12 : decode cX5_readsPoint 12 = .ok (.aload_n 0, 1) := by decide +kernel
theorem dX5_readsPoint_13 : decode cX5_readsPoint 13 = .ok (.iconst 0, 1) := by decide +kernel
theorem dX5_readsPoint_14 : decode cX5_readsPoint 14 = .ok (.bipush 59, 2) := by decide +kernel
theorem dX5_readsPoint_16 : decode cX5_readsPoint 16 = .ok (.invokevirtual 170, 3) := by decide +kernel
theorem dX5_readsPoint_19 : decode cX5_readsPoint 19 = .ok (.iastore, 1) := by decide +kernel
theorem dX5_readsPoint_20 : decode cX5_readsPoint 20 = .ok (.aload_n 0, 1) := by decide +kernel
theorem dX5_readsPoint_21 : decode cX5_readsPoint 21 = .ok (.aload_n 0, 1) := by decide +kernel
theorem dX5_readsPoint_22 : decode cX5_readsPoint 22 = .ok (.bipush 44, 2) := by decide +kernel
theorem dX5_readsPoint_24 : decode cX5_readsPoint 24 = .ok (.invokevirtual 173, 3) := by decide +kernel
theorem dX5_readsPoint_27 : decode cX5_readsPoint 27 = .ok (.putfield 160, 3) := by decide +kernel
theorem dX5_readsPoint_30 : decode cX5_readsPoint 30 = .ok (.aload_n 0, 1) := by decide +kernel
theorem dX5_readsPoint_31 : decode cX5_readsPoint 31 = .ok (.getfield 28, 3) := by decide +kernel
theorem dX5_readsPoint_34 : decode cX5_readsPoint 34 = .ok (.iload_n 1, 1) := by decide +kernel
theorem dX5_readsPoint_35 : decode cX5_readsPoint 35 = .ok (.iconst 1, 1) := by decide +kernel
theorem dX5_readsPoint_36 : decode cX5_readsPoint 36 = .ok (.iadd, 1) := by decide +kernel
theorem dX5_readsPoint_37 : decode cX5_readsPoint 37 = .ok (.aload_n 0, 1) := by decide +kernel
theorem dX5_readsPoint_38 : decode cX5_readsPoint 38 = .ok (.iconst 0, 1) := by decide +kernel
theorem dX5_readsPoint_39 : decode cX5_readsPoint 39 = .ok (.bipush 39, 2) := by decide +kernel
theorem dX5_readsPoint_41 : decode cX5_readsPoint 41 = .ok (.invokevirtual 170, 3) := by decide +kernel
theorem dX5_readsPoint_44 : decode cX5_readsPoint 44 = .ok (.iastore, 1) := by decide +kernel
theorem dX5_readsPoint_45 : decode cX5_readsPoint 45 = .ok (.aload_n 0, 1) := by decide +kernel
theorem dX5_readsPoint_46 : decode cX5_readsPoint 46 = .ok (.aload_n 0, 1) := by decide +kernel
theorem dX5_readsPoint_47 : decode cX5_readsPoint 47 = .ok (.bipush 58, 2) := by decide +kernel
theorem dX5_readsPoint_49 : decode cX5_readsPoint 49 = .ok (.invokevirtual 173, 3) := by decide +kernel
theorem dX5_readsPoint_52 : decode cX5_readsPoint 52 = .ok (.putfield 160, 3) := by decide +kernel
theorem dX5_readsPoint_55 : decode cX5_readsPoint 55 = .ok (.aload_n 0, 1) := by decide +kernel
theorem dX5_readsPoint_56 : decode cX5_readsPoint 56 = .ok (.getfield 28, 3) := by decide +kernel
theorem dX5_readsPoint_59 : decode cX5_readsPoint 59 = .ok (.iload_n 1, 1) := by decide +kernel
theorem dX5_readsPoint_60 : decode cX5_readsPoint 60 = .ok (.iconst 2, 1) := by decide +kernel
theorem dX5_readsPoint_61 : decode cX5_readsPoint 61 = .ok (.iadd, 1) := by decide +kernel
theorem dX5_readsPoint_62 : decode cX5_readsPoint 62 = .ok (.aload_n 0, 1) := by decide +kernel
theorem dX5_readsPoint_63 : decode cX5_readsPoint 63 = .ok (.iconst 1, 1) := by decide +kernel
theorem dX5_readsPoint_64 : decode cX5_readsPoint 64 = .ok (.bipush 20, 2) := by decide +kernel
theorem dX5_readsPoint_66 : decode cX5_readsPoint 66 = .ok (.invokevirtual 170, 3) := by decide +kernel
theorem dX5_readsPoint_69 : decode cX5_readsPoint 69 = .ok (.iastore, 1) := by decide +kernel
theorem dX5_readsPoint_70 : decode cX5_readsPoint 70 = .ok (.aload_n 0, 1) := by decide +kernel
theorem dX5_readsPoint_71 : decode cX5_readsPoint 71 = .ok (.aload_n 0, 1) := by decide +kernel
theorem dX5_readsPoint_72 : decode cX5_readsPoint 72 = .ok (.bipush 120, 2) := by decide +kernel
theorem dX5_readsPoint_74 : decode cX5_readsPoint 74 = .ok (.invokevirtual 173, 3) := by decide +kernel
theorem dX5_readsPoint_77 : decode cX5_readsPoint 77 = .ok (.putfield 160, 3) := by decide +kernel
theorem dX5_readsPoint_80 : decode cX5_readsPoint 80 = .ok (.aload_n 0, 1) := by decide +kernel
theorem dX5_readsPoint_81 : decode cX5_readsPoint 81 = .ok (.getfield 28, 3) := by decide +kernel
theorem dX5_readsPoint_84 : decode cX5_readsPoint 84 = .ok (.iload_n 1, 1) := by decide +kernel
theorem dX5_readsPoint_85 : decode cX5_readsPoint 85 = .ok (.iconst 3, 1) := by decide +kernel
theorem dX5_readsPoint_86 : decode cX5_readsPoint 86 = .ok (.iadd, 1) := by decide +kernel
theorem dX5_readsPoint_87 : decode cX5_readsPoint 87 = .ok (.aload_n 0, 1) := by decide +kernel
theorem dX5_readsPoint_88 : decode cX5_readsPoint 88 = .ok (.iconst 1, 1) := by decide +kernel
theorem dX5_readsPoint_89 : decode cX5_readsPoint 89 = .ok (.bipush 9, 2) := by decide +kernel
theorem dX5_readsPoint_91 : decode cX5_readsPoint 91 = .ok (.invokevirtual 170, 3) := by decide +kernel
theorem dX5_readsPoint_94 : decode cX5_readsPoint 94 = .ok (.iastore, 1) := by decide +kernel
theorem dX5_readsPoint_95 : decode cX5_readsPoint 95 = .ok (.aload_n 0, 1) := by decide +kernel
theorem dX5_readsPoint_96 : decode cX5_readsPoint 96 = .ok (.getfield 28, 3) := by decide +kernel
theorem dX5_readsPoint_99 : decode cX5_readsPoint 99 = .ok (.iload_n 1, 1) := by decide +kernel
theorem dX5_readsPoint_100 : decode cX5_readsPoint 100 = .ok (.iconst 4, 1) := by decide +kernel
theorem dX5_readsPoint_101 : decode cX5_readsPoint 101 = .ok (.iadd, 1) := by decide +kernel
theorem dX5_readsPoint_102 : decode cX5_readsPoint 102 = .ok (.aload_n 0, 1) := by decide +kernel
theorem dX5_readsPoint_103 : decode cX5_readsPoint 103 = .ok (.bipush 42, 2) := by decide +kernel
theorem dX5_readsPoint_105 : decode cX5_readsPoint 105 = .ok (.invokevirtual 173, 3) := by decide +kernel
theorem dX5_readsPoint_108 : decode cX5_readsPoint 108 = .ok (.ifCond .eq 13, 3) := by decide +kernel
theorem dX5_readsPoint_111 : decode cX5_readsPoint 111 = .ok (.aload_n 0, 1) := by decide +kernel
theorem dX5_readsPoint_112 : decode cX5_readsPoint 112 = .ok (.iconst 1, 1) := by decide +kernel
theorem dX5_readsPoint_113 : decode cX5_readsPoint 113 = .ok (.bipush 99, 2) := by decide +kernel
theorem dX5_readsPoint_115 : decode cX5_readsPoint 115 = .ok (.invokevirtual 170, 3) := by decide +kernel
theorem dX5_readsPoint_118 : decode cX5_readsPoint 118 = .ok (.goto 4, 3) := by decide +kernel
theorem dX5_readsPoint_121 : decode cX5_readsPoint 121 = .ok (.iconst 1, 1) := by decide +kernel
theorem dX5_readsPoint_122 : decode cX5_readsPoint 122 = .ok (.iastore, 1) := by decide +kernel
theorem dX5_readsPoint_123 : decode cX5_readsPoint 123 = .ok (.aload_n 0, 1) := by decide +kernel
theorem dX5_readsPoint_124 : decode cX5_readsPoint 124 = .ok (.dup, 1) := by decide +kernel
theorem dX5_readsPoint_125 : decode cX5_readsPoint 125 = .ok (.getfield 167, 3) := by decide +kernel
theorem dX5_readsPoint_128 : decode cX5_readsPoint 128 = .ok (.aload_n 0, 1) := by decide +kernel
theorem dX5_readsPoint_129 : decode cX5_readsPoint 129 = .ok (.getfield 160, 3) := by decide +kernel
theorem dX5_readsPoint_132 : decode cX5_readsPoint 132 = .ok (.ifCond .eq 7, 3) := by decide +kernel
theorem dX5_readsPoint_135 : decode cX5_readsPoint 135 = .ok (.iconst 1, 1) := by decide +kernel
theorem dX5_readsPoint_136 : decode cX5_readsPoint 136 = .ok (.goto 4, 3) := by decide +kernel
theorem dX5_readsPoint_139 : decode cX5_readsPoint 139 = .ok (.iconst 0, 1) := by decide +kernel
theorem dX5_readsPoint_140 : decode cX5_readsPoint 140 = .ok (.iadd, 1) := by decide +kernel
theorem dX5_readsPoint_141 : decode cX5_readsPoint 141 = .ok (.putfield 167, 3) := by decide +kernel
theorem dX5_readsPoint_144 : decode cX5_readsPoint 144 = .ok (.return_, 1) := by decide +kernel
set_option maxRecDepth 20000 in
theorem ggX5_readsAll_X5_readsPoint : GoodIn wsX5_readsAll wsX5_readsPoint := goodIn_r _ [9, 3, 10, 2, 11, 12, 13, 8, 14, 1, 15, 16, 17, 18, 4, 19, 20, 21, 22, 23, 24, 25, 26, 27, 28, 29, 30, 31, 32, 33, 34, 35, 36, 37, 38, 39, 40, 41, 42] (by decide +kernel) (by decide +kernel)
set_option maxRecDepth 20000 in
theorem gX5_readsAll_X5_readsPoint : GoodIn wsX5_readsAll (wsV RX5 176 RX5 yX5_readsPoint wsX5_readsPoint) := goodIn_app (goodIn_of _ (by decide +kernel)) ggX5_readsAll_X5_readsPoint
set_option maxRecDepth 20000 in
theorem ggX5_readsAll_X5_takes : GoodIn wsX5_readsAll wsX5_takes := goodIn_r _ [26, 2, 1, 15, 16, 17, 8, 18, 4, 19, 27, 28, 29, 30, 31, 32, 33, 34, 35, 36, 37, 38, 39, 40, 41, 42] (by decide +kernel) (by decide +kernel)
set_option maxRecDepth 20000 in
theorem gX5_readsAll_X5_takes : GoodIn wsX5_readsAll (wsV RX5 173 RX5 yX5_takes wsX5_takes) := goodIn_app (goodIn_of _ (by decide +kernel)) ggX5_readsAll_X5_takes
theorem dX5_readsAll_0 : decode cX5_readsAll 0 = .ok (.aload_n 0, 1) := by decide +kernel
theorem dX5_readsAll_1 : decode cX5_readsAll 1 = .ok (.iconst 0, 1) := by decide +kernel
theorem dX5_readsAll_2 : decode cX5_readsAll 2 = .ok (.putfield 157, 3) := by decide +kernel
theorem dX5_readsAll_5 : decode cX5_readsAll 5 = .ok (.aload_n 0, 1) := by decide +kernel
theorem dX5_readsAll_6 : decode cX5_readsAll 6 = .ok (.iconst 1, 1) := by decide +kernel
theorem dX5_readsAll_7 : decode cX5_readsAll 7 = .ok (.putfield 160, 3) := by decide +kernel
theorem dX5_readsAll_10 : decode cX5_readsAll 10 = .ok (.aload_n 0, 1) := by decide +kernel
theorem dX5_readsAll_11 : decode cX5_readsAll 11 = .ok (.iconst 0, 1) := by decide +kernel
theorem dX5_readsAll_12 : decode cX5_readsAll 12 = .ok (.putfield 167, 3) := by decide +kernel
theorem dX5_readsAll_15 : decode cX5_readsAll 15 = .ok (.aload_n 0, 1) := by decide +kernel
theorem dX5_readsAll_16 : decode cX5_readsAll 16 = .ok (.invokevirtual 176, 3) := by decide +kernel
theorem dX5_readsAll_19 : decode cX5_readsAll 19 = .ok (.aload_n 0, 1) := by decide +kernel
theorem dX5_readsAll_20 : decode cX5_readsAll 20 = .ok (.getfield 160, 3) := by decide +kernel
theorem dX5_readsAll_23 : decode cX5_readsAll 23 = .ok (.ifCond .eq 38, 3) := by decide +kernel
theorem dX5_readsAll_26 : decode cX5_readsAll 26 = .ok (.aload_n 0, 1) := by decide +kernel
theorem dX5_readsAll_27 : decode cX5_readsAll 27 = .ok (.getfield 157, 3) := by decide +kernel
theorem dX5_readsAll_30 : decode cX5_readsAll 30 = .ok (.aload_n 0, 1) := by decide +kernel
theorem dX5_readsAll_31 : decode cX5_readsAll 31 = .ok (.getfield 154, 3) := by decide +kernel
theorem dX5_readsAll_34 : decode cX5_readsAll 34 = .ok (.if_icmp .ge 27, 3) := by decide +kernel
theorem dX5_readsAll_37 : decode cX5_readsAll 37 = .ok (.aload_n 0, 1) := by decide +kernel
theorem dX5_readsAll_38 : decode cX5_readsAll 38 = .ok (.aload_n 0, 1) := by decide +kernel
theorem dX5_readsAll_39 : decode cX5_readsAll 39 = .ok (.bipush 59, 2) := by decide +kernel
theorem dX5_readsAll_41 : decode cX5_readsAll 41 = .ok (.invokevirtual 173, 3) := by decide +kernel
theorem dX5_readsAll_44 : decode cX5_readsAll 44 = .ok (.putfield 160, 3) := by decide +kernel
theorem dX5_readsAll_47 : decode cX5_readsAll 47 = .ok (.aload_n 0, 1) := by decide +kernel
theorem dX5_readsAll_48 : decode cX5_readsAll 48 = .ok (.getfield 160, 3) := by decide +kernel
theorem dX5_readsAll_51 : decode cX5_readsAll 51 = .ok (.ifCond .eq (-32), 3) := by decide +kernel
theorem dX5_readsAll_54 : decode cX5_readsAll 54 = .ok (.aload_n 0, 1) := by decide +kernel
theorem dX5_readsAll_55 : decode cX5_readsAll 55 = .ok (.invokevirtual 176, 3) := by decide +kernel
theorem dX5_readsAll_58 : decode cX5_readsAll 58 = .ok (.goto (-39), 3) := by decide +kernel
theorem dX5_readsAll_61 : decode cX5_readsAll 61 = .ok (.return_, 1) := by decide +kernel
set_option maxRecDepth 20000 in
theorem ggX5_firstError_X5_readsAll : GoodIn wsX5_firstError wsX5_readsAll := goodIn_r _ [7, 2, 8, 9, 10, 11, 12, 13, 6, 14, 15, 16, 17, 18, 19, 20, 21, 22, 23, 24, 25, 26, 27, 28, 29, 30, 31, 32, 33, 34, 35, 36, 37, 38, 39, 40, 41, 42, 43, 44, 45, 46, 47] (by decide +kernel) (by decide +kernel)
set_option maxRecDepth 20000 in
theorem gX5_firstError_X5_readsAll : GoodIn wsX5_firstError (wsV RX5 179 RX5 yX5_readsAll wsX5_readsAll) := goodIn_app (goodIn_of _ (by decide +kernel)) ggX5_firstError_X5_readsAll
theorem dX5_firstError_0 : decode cX5_firstError 0 = .ok (.aload_n 0, 1) := by decide +kernel
theorem dX5_firstError_1 : decode cX5_firstError 1 = .ok (.iconst 0, 1) := by decide +kernel
theorem dX5_firstError_2 : decode cX5_firstError 2 = .ok (.putfield 31, 3) := by decide +kernel
theorem dX5_firstError_5 : decode cX5_firstError 5 = .ok (.aload_n 0, 1) := by decide +kernel
theorem dX5_firstError_6 : decode cX5_firstError 6 = .ok (.invokevirtual 179, 3) := by decide +kernel
theorem dX5_firstError_9 : decode cX5_firstError 9 = .ok (.aload_n 0, 1) := by decide +kernel
theorem dX5_firstError_10 : decode cX5_firstError 10 = .ok (.getfield 157, 3) := by decide +kernel
theorem dX5_firstError_13 : decode cX5_firstError 13 = .ok (.ireturn, 1) := by decide +kernel
set_option maxRecDepth 20000 in
theorem ggX5_read_X5_readsAll : GoodIn wsX5_read wsX5_readsAll := goodIn_r _ [10, 11, 2, 4, 3, 12, 13, 14, 9, 15, 5, 16, 17, 18, 19, 20, 21, 22, 23, 24, 25, 26, 27, 28, 29, 30, 31, 87, 88, 89, 90, 91, 92, 93, 94, 95, 96, 97, 98, 99, 100, 101, 102] (by decide +kernel) (by decide +kernel)
set_option maxRecDepth 20000 in
theorem gX5_read_X5_readsAll : GoodIn wsX5_read (wsV RX5 179 RX5 yX5_readsAll wsX5_readsAll) := goodIn_app (goodIn_of _ (by decide +kernel)) ggX5_read_X5_readsAll
set_option maxRecDepth 20000 in
theorem ggX5_read_X5_fails : GoodIn wsX5_read wsX5_fails := goodIn_r _ [35, 1, 87, 88, 89, 90, 91, 92, 93, 94, 95, 96, 97, 98, 99, 100, 101, 102] (by decide +kernel) (by decide +kernel)
set_option maxRecDepth 20000 in
theorem gX5_read_X5_fails : GoodIn wsX5_read (wsV RX5 132 RX5 yX5_fails wsX5_fails) := goodIn_app (goodIn_of _ (by decide +kernel)) ggX5_read_X5_fails
set_option maxRecDepth 20000 in
theorem ggX5_read_X5_saves : GoodIn wsX5_read wsX5_saves := goodIn_r _ [39, 40, 41, 42, 87, 88, 89, 90, 91, 92, 93, 94, 95, 96, 97, 98, 99, 100, 101, 102] (by decide +kernel) (by decide +kernel)
set_option maxRecDepth 20000 in
theorem gX5_read_X5_saves : GoodIn wsX5_read (wsV RX5 119 RX5 yX5_saves wsX5_saves) := goodIn_app (goodIn_of _ (by decide +kernel)) ggX5_read_X5_saves
set_option maxRecDepth 20000 in
theorem ggX5_read_X5_refusesAdd : GoodIn wsX5_read wsX5_refusesAdd := goodIn_r _ [46, 42, 25, 26, 9, 27, 47, 48, 49, 50, 51, 52, 53, 54, 87, 88, 89, 90, 91, 92, 93, 94, 95, 96, 97, 98, 99, 100, 101, 102] (by decide +kernel) (by decide +kernel)
set_option maxRecDepth 20000 in
theorem gX5_read_X5_refusesAdd : GoodIn wsX5_read (wsV RX5 115 RX5 yX5_refusesAdd wsX5_refusesAdd) := goodIn_app (goodIn_of _ (by decide +kernel)) ggX5_read_X5_refusesAdd
set_option maxRecDepth 20000 in
theorem ggX5_read_X5_comes : GoodIn wsX5_read wsX5_comes := goodIn_r _ [58, 42, 59, 60, 61, 9, 62, 51, 52, 53, 54, 63, 64, 65, 66, 67, 68, 69, 70, 71, 72, 73, 74, 25, 26, 27, 75, 76, 77, 78, 79, 80, 81, 82, 83, 84, 85, 86, 87, 88, 89, 90, 91, 92, 93, 94, 95, 96, 97, 98, 99, 100, 101, 102] (by decide +kernel) (by decide +kernel)
set_option maxRecDepth 20000 in
theorem gX5_read_X5_comes : GoodIn wsX5_read (wsV RX5 122 RX5 yX5_comes wsX5_comes) := goodIn_app (goodIn_of _ (by decide +kernel)) ggX5_read_X5_comes
theorem dX5_read_0 : decode cX5_read 0 = .ok (.aload_n 0, 1) := by decide +kernel
theorem dX5_read_1 : decode cX5_read 1 = .ok (.iconst 0, 1) := by decide +kernel
theorem dX5_read_2 : decode cX5_read 2 = .ok (.putfield 31, 3) := by decide +kernel
theorem dX5_read_5 : decode cX5_read 5 = .ok (.aload_n 0, 1) := by decide +kernel
theorem dX5_read_6 : decode cX5_read 6 = .ok (.invokevirtual 179, 3) := by decide +kernel
theorem dX5_read_9 : decode cX5_read 9 = .ok (.aload_n 0, 1) := by decide +kernel
theorem dX5_read_10 : decode cX5_read 10 = .ok (.getfield 160, 3) := by decide +kernel
theorem dX5_read_13 : decode cX5_read 13 = .ok (.ifCond .ne 9, 3) := by decide +kernel
theorem dX5_read_16 : decode cX5_read 16 = .ok (.aload_n 0, 1) := by decide +kernel
theorem dX5_read_17 : decode cX5_read 17 = .ok (.iconst 1, 1) := by decide +kernel
theorem dX5_read_18 : decode cX5_read 18 = .ok (.invokevirtual 132, 3) := by decide +kernel
theorem dX5_read_21 : decode cX5_read 21 = .ok (.ireturn, 1) := by decide +kernel
theorem dX5_read_22 : decode cX5_read 22 = .ok (.aload_n 0, 1) := by decide +kernel
theorem dX5_read_23 : decode cX5_read 23 = .ok (.invokevirtual 119, 3) := by decide +kernel
theorem dX5_read_26 : decode cX5_read 26 = .ok (.aload_n 0, 1) := by decide +kernel
theorem dX5_read_27 : decode cX5_read 27 = .ok (.iconst 0, 1) := by decide +kernel
theorem dX5_read_28 : decode cX5_read 28 = .ok (.putfield 154, 3) := by decide +kernel
theorem dX5_read_31 : decode cX5_read 31 = .ok (.iconst 0, 1) := by decide +kernel
theorem dX5_read_32 : decode cX5_read 32 = .ok (.istore_n 1, 1) := by decide +kernel
theorem dX5_read_33 : decode cX5_read 33 = .ok (.iload_n 1, 1) := by decide +kernel
theorem dX5_read_34 : decode cX5_read 34 = .ok (.aload_n 0, 1) := by decide +kernel
theorem dX5_read_35 : decode cX5_read 35 = .ok (.getfield 167, 3) := by decide +kernel
theorem dX5_read_38 : decode cX5_read 38 = .ok (.if_icmp .ge 116, 3) := by decide +kernel
theorem dX5_read_41 : decode cX5_read 41 = .ok (.aload_n 0, 1) := by decide +kernel
theorem dX5_read_42 : decode cX5_read 42 = .ok (.aload_n 0, 1) := by decide +kernel
theorem dX5_read_43 : decode cX5_read 43 = .ok (.getfield 28, 3) := by decide +kernel
theorem dX5_read_46 : decode cX5_read 46 = .ok (.iconst 5, 1) := by decide +kernel
theorem dX5_read_47 : decode cX5_read 47 = .ok (.iload_n 1, 1) := by decide +kernel
theorem dX5_read_48 : decode cX5_read 48 = .ok (.imul, 1) := by decide +kernel
theorem dX5_read_49 : decode cX5_read 49 = .ok (.iaload, 1) := by decide +kernel
theorem dX5_read_50 : decode cX5_read 50 = .ok (.aload_n 0, 1) := by decide +kernel
theorem dX5_read_51 : decode cX5_read 51 = .ok (.getfield 28, 3) := by decide +kernel
theorem dX5_read_54 : decode cX5_read 54 = .ok (.iconst 5, 1) := by decide +kernel
theorem dX5_read_55 : decode cX5_read 55 = .ok (.iload_n 1, 1) := by decide +kernel
theorem dX5_read_56 : decode cX5_read 56 = .ok (.imul, 1) := by decide +kernel
theorem dX5_read_57 : decode cX5_read 57 = .ok (.iconst 1, 1) := by decide +kernel
theorem dX5_read_58 : decode cX5_read 58 = .ok (.iadd, 1) := by decide +kernel
theorem dX5_read_59 : decode cX5_read 59 = .ok (.iaload, 1) := by decide +kernel
theorem dX5_read_60 : decode cX5_read 60 = .ok (.aload_n 0, 1) := by decide +kernel
theorem dX5_read_61 : decode cX5_read 61 = .ok (.getfield 28, 3) := by decide +kernel
theorem dX5_read_64 : decode cX5_read 64 = .ok (.iconst 5, 1) := by decide +kernel
theorem dX5_read_65 : decode cX5_read 65 = .ok (.iload_n 1, 1) := by decide +kernel
theorem dX5_read_66 : decode cX5_read 66 = .ok (.imul, 1) := by decide +kernel
theorem dX5_read_67 : decode cX5_read 67 = .ok (.iconst 2, 1) := by decide +kernel
theorem dX5_read_68 : decode cX5_read 68 = .ok (.iadd, 1) := by decide +kernel
theorem dX5_read_69 : decode cX5_read 69 = .ok (.iaload, 1) := by decide +kernel
theorem dX5_read_70 : decode cX5_read 70 = .ok (.aload_n 0, 1) := by decide +kernel
theorem dX5_read_71 : decode cX5_read 71 = .ok (.getfield 28, 3) := by decide +kernel
theorem dX5_read_74 : decode cX5_read 74 = .ok (.iconst 5, 1) := by decide +kernel
theorem dX5_read_75 : decode cX5_read 75 = .ok (.iload_n 1, 1) := by decide +kernel
theorem dX5_read_76 : decode cX5_read 76 = .ok (.imul, 1) := by decide +kernel
theorem dX5_read_77 : decode cX5_read 77 = .ok (.iconst 3, 1) := by decide +kernel
theorem dX5_read_78 : decode cX5_read 78 = .ok (.iadd, 1) := by decide +kernel
theorem dX5_read_79 : decode cX5_read 79 = .ok (.iaload, 1) := by decide +kernel
theorem dX5_read_80 : decode cX5_read 80 = .ok (.aload_n 0, 1) := by decide +kernel
theorem dX5_read_81 : decode cX5_read 81 = .ok (.getfield 28, 3) := by decide +kernel
theorem dX5_read_84 : decode cX5_read 84 = .ok (.iconst 5, 1) := by decide +kernel
theorem dX5_read_85 : decode cX5_read 85 = .ok (.iload_n 1, 1) := by decide +kernel
theorem dX5_read_86 : decode cX5_read 86 = .ok (.imul, 1) := by decide +kernel
theorem dX5_read_87 : decode cX5_read 87 = .ok (.iconst 4, 1) := by decide +kernel
theorem dX5_read_88 : decode cX5_read 88 = .ok (.iadd, 1) := by decide +kernel
theorem dX5_read_89 : decode cX5_read 89 = .ok (.iaload, 1) := by decide +kernel
theorem dX5_read_90 : decode cX5_read 90 = .ok (.invokevirtual 115, 3) := by decide +kernel
theorem dX5_read_93 : decode cX5_read 93 = .ok (.ifCond .ne 61, 3) := by decide +kernel
theorem dX5_read_96 : decode cX5_read 96 = .ok (.aload_n 0, 1) := by decide +kernel
theorem dX5_read_97 : decode cX5_read 97 = .ok (.aload_n 0, 1) := by decide +kernel
theorem dX5_read_98 : decode cX5_read 98 = .ok (.getfield 28, 3) := by decide +kernel
theorem dX5_read_101 : decode cX5_read 101 = .ok (.iconst 5, 1) := by decide +kernel
theorem dX5_read_102 : decode cX5_read 102 = .ok (.iload_n 1, 1) := by decide +kernel
theorem dX5_read_103 : decode cX5_read 103 = .ok (.imul, 1) := by decide +kernel
theorem dX5_read_104 : decode cX5_read 104 = .ok (.iaload, 1) := by decide +kernel
theorem dX5_read_105 : decode cX5_read 105 = .ok (.aload_n 0, 1) := by decide +kernel
theorem dX5_read_106 : decode cX5_read 106 = .ok (.getfield 28, 3) := by decide +kernel
theorem dX5_read_109 : decode cX5_read 109 = .ok (.iconst 5, 1) := by decide +kernel
theorem dX5_read_110 : decode cX5_read 110 = .ok (.iload_n 1, 1) := by decide +kernel
theorem dX5_read_111 : decode cX5_read 111 = .ok (.imul, 1) := by decide +kernel
theorem dX5_read_112 : decode cX5_read 112 = .ok (.iconst 1, 1) := by decide +kernel
theorem dX5_read_113 : decode cX5_read 113 = .ok (.iadd, 1) := by decide +kernel
theorem dX5_read_114 : decode cX5_read 114 = .ok (.iaload, 1) := by decide +kernel
theorem dX5_read_115 : decode cX5_read 115 = .ok (.aload_n 0, 1) := by decide +kernel
theorem dX5_read_116 : decode cX5_read 116 = .ok (.getfield 28, 3) := by decide +kernel
theorem dX5_read_119 : decode cX5_read 119 = .ok (.iconst 5, 1) := by decide +kernel
theorem dX5_read_120 : decode cX5_read 120 = .ok (.iload_n 1, 1) := by decide +kernel
theorem dX5_read_121 : decode cX5_read 121 = .ok (.imul, 1) := by decide +kernel
theorem dX5_read_122 : decode cX5_read 122 = .ok (.iconst 2, 1) := by decide +kernel
theorem dX5_read_123 : decode cX5_read 123 = .ok (.iadd, 1) := by decide +kernel
theorem dX5_read_124 : decode cX5_read 124 = .ok (.iaload, 1) := by decide +kernel
theorem dX5_read_125 : decode cX5_read 125 = .ok (.aload_n 0, 1) := by decide +kernel
theorem dX5_read_126 : decode cX5_read 126 = .ok (.getfield 28, 3) := by decide +kernel
theorem dX5_read_129 : decode cX5_read 129 = .ok (.iconst 5, 1) := by decide +kernel
theorem dX5_read_130 : decode cX5_read 130 = .ok (.iload_n 1, 1) := by decide +kernel
theorem dX5_read_131 : decode cX5_read 131 = .ok (.imul, 1) := by decide +kernel
theorem dX5_read_132 : decode cX5_read 132 = .ok (.iconst 3, 1) := by decide +kernel
theorem dX5_read_133 : decode cX5_read 133 = .ok (.iadd, 1) := by decide +kernel
theorem dX5_read_134 : decode cX5_read 134 = .ok (.iaload, 1) := by decide +kernel
theorem dX5_read_135 : decode cX5_read 135 = .ok (.aload_n 0, 1) := by decide +kernel
theorem dX5_read_136 : decode cX5_read 136 = .ok (.getfield 28, 3) := by decide +kernel
theorem dX5_read_139 : decode cX5_read 139 = .ok (.iconst 5, 1) := by decide +kernel
theorem dX5_read_140 : decode cX5_read 140 = .ok (.iload_n 1, 1) := by decide +kernel
theorem dX5_read_141 : decode cX5_read 141 = .ok (.imul, 1) := by decide +kernel
theorem dX5_read_142 : decode cX5_read 142 = .ok (.iconst 4, 1) := by decide +kernel
theorem dX5_read_143 : decode cX5_read 143 = .ok (.iadd, 1) := by decide +kernel
theorem dX5_read_144 : decode cX5_read 144 = .ok (.iaload, 1) := by decide +kernel
theorem dX5_read_145 : decode cX5_read 145 = .ok (.invokevirtual 122, 3) := by decide +kernel
theorem dX5_read_148 : decode cX5_read 148 = .ok (.iinc 1 1, 3) := by decide +kernel
theorem dX5_read_151 : decode cX5_read 151 = .ok (.goto (-118), 3) := by decide +kernel
theorem dX5_read_154 : decode cX5_read 154 = .ok (.iload_n 1, 1) := by decide +kernel
theorem dX5_read_155 : decode cX5_read 155 = .ok (.ireturn, 1) := by decide +kernel
set_option maxRecDepth 20000 in
theorem ggX5_undo_X5_fails : GoodIn wsX5_undo wsX5_fails := goodIn_r _ [9, 1, 10, 11, 12, 13, 14, 15, 16, 17, 18, 19, 20, 21, 22, 23, 24, 25] (by decide +kernel) (by decide +kernel)
set_option maxRecDepth 20000 in
theorem gX5_undo_X5_fails : GoodIn wsX5_undo (wsV RX5 132 RX5 yX5_fails wsX5_fails) := goodIn_app (goodIn_of _ (by decide +kernel)) ggX5_undo_X5_fails
theorem dX5_undo_0 : decode cX5_undo 0 = .ok (.aload_n 0, 1) := by decide +kernel
theorem dX5_undo_1 : decode cX5_undo 1 = .ok (.iconst 0, 1) := by decide +kernel
theorem dX5_undo_2 : decode cX5_undo 2 = .ok (.putfield 31, 3) := by decide +kernel
theorem dX5_undo_5 : decode cX5_undo 5 = .ok (.aload_n 0, 1) := by decide +kernel
theorem dX5_undo_6 : decode cX5_undo 6 = .ok (.getfield 43, 3) := by decide +kernel
theorem dX5_undo_9 : decode cX5_undo 9 = .ok (.ifCond .ne 9, 3) := by decide +kernel
theorem dX5_undo_12 : decode cX5_undo 12 = .ok (.aload_n 0, 1) := by decide +kernel
theorem dX5_undo_13 : decode cX5_undo 13 = .ok (.iconst 1, 1) := by decide +kernel
theorem dX5_undo_14 : decode cX5_undo 14 = .ok (.invokevirtual 132, 3) := by decide +kernel
theorem dX5_undo_17 : decode cX5_undo 17 = .ok (.ireturn, 1) := by decide +kernel
theorem dX5_undo_18 : decode cX5_undo 18 = .ok (.aload_n 0, 1) := by decide +kernel
theorem dX5_undo_19 : decode cX5_undo 19 = .ok (.dup, 1) := by decide +kernel
theorem dX5_undo_20 : decode cX5_undo 20 = .ok (.getfield 43, 3) := by decide +kernel
theorem dX5_undo_23 : decode cX5_undo 23 = .ok (.iconst 1, 1) := by decide +kernel
theorem dX5_undo_24 : decode cX5_undo 24 = .ok (.isub, 1) := by decide +kernel
theorem dX5_undo_25 : decode cX5_undo 25 = .ok (.putfield 43, 3) := by decide +kernel
theorem dX5_undo_28 : decode cX5_undo 28 = .ok (.iconst 0, 1) := by decide +kernel
theorem dX5_undo_29 : decode cX5_undo 29 = .ok (.istore_n 1, 1) := by decide +kernel
theorem dX5_undo_30 : decode cX5_undo 30 = .ok (.iload_n 1, 1) := by decide +kernel
theorem dX5_undo_31 : decode cX5_undo 31 = .ok (.bipush 49, 2) := by decide +kernel
theorem dX5_undo_33 : decode cX5_undo 33 = .ok (.if_icmp .ge 29, 3) := by decide +kernel
theorem dX5_undo_36 : decode cX5_undo 36 = .ok (.aload_n 0, 1) := by decide +kernel
theorem dX5_undo_37 : decode cX5_undo 37 = .ok (.getfield 7, 3) := by decide +kernel
theorem dX5_undo_40 : decode cX5_undo 40 = .ok (.iload_n 1, 1) := by decide +kernel
theorem dX5_undo_41 : decode cX5_undo 41 = .ok (.aload_n 0, 1) := by decide +kernel
theorem dX5_undo_42 : decode cX5_undo 42 = .ok (.getfield 13, 3) := by decide +kernel
theorem dX5_undo_45 : decode cX5_undo 45 = .ok (.bipush 49, 2) := by decide +kernel
theorem dX5_undo_47 : decode cX5_undo 47 = .ok (.aload_n 0, 1) := by decide +kernel
theorem dX5_undo_48 : decode cX5_undo 48 = .ok (.getfield 43, 3) := by decide +kernel
theorem dX5_undo_51 : decode cX5_undo 51 = .ok (.imul, 1) := by decide +kernel
theorem dX5_undo_52 : decode cX5_undo 52 = .ok (.iload_n 1, 1) := by decide +kernel
theorem dX5_undo_53 : decode cX5_undo 53 = .ok (.iadd, 1) := by decide +kernel
theorem dX5_undo_54 : decode cX5_undo 54 = .ok (.iaload, 1) := by decide +kernel
theorem dX5_undo_55 : decode cX5_undo 55 = .ok (.iastore, 1) := by decide +kernel
theorem dX5_undo_56 : decode cX5_undo 56 = .ok (.iinc 1 1, 3) := by decide +kernel
theorem dX5_undo_59 : decode cX5_undo 59 = .ok (.goto (-29), 3) := by decide +kernel
theorem dX5_undo_62 : decode cX5_undo 62 = .ok (.aload_n 0, 1) := by decide +kernel
theorem dX5_undo_63 : decode cX5_undo 63 = .ok (.getfield 43, 3) := by decide +kernel
theorem dX5_undo_66 : decode cX5_undo 66 = .ok (.ireturn, 1) := by decide +kernel
set_option maxRecDepth 20000 in
theorem ggX5_freeOf_X5_canStand : GoodIn wsX5_freeOf wsX5_canStand := goodIn_r _ [5, 6, 7, 8, 9, 4, 10, 11, 12, 13, 14, 15, 16, 17, 18, 19, 20, 21, 22, 23, 24, 25, 26, 27, 28, 29, 30, 31, 32, 33, 34, 35, 36, 37, 38, 39, 40, 41, 42, 43, 44, 45, 46, 47, 48, 49, 50, 51, 52, 53, 54, 55, 56, 57, 58, 59, 60, 61, 62, 63, 64, 65, 66, 67] (by decide +kernel) (by decide +kernel)
set_option maxRecDepth 20000 in
theorem gX5_freeOf_X5_canStand : GoodIn wsX5_freeOf (wsV RX5 138 RX5 yX5_canStand wsX5_canStand) := goodIn_app (goodIn_of _ (by decide +kernel)) ggX5_freeOf_X5_canStand
theorem dX5_freeOf_0 : decode cX5_freeOf 0 = .ok (.iconst 0, 1) := by decide +kernel
theorem dX5_freeOf_1 : decode cX5_freeOf 1 = .ok (.istore_n 2, 1) := by decide +kernel
theorem dX5_freeOf_2 : decode cX5_freeOf 2 = .ok (.iconst 0, 1) := by decide +kernel
theorem dX5_freeOf_3 : decode cX5_freeOf 3 = .ok (.istore_n 3, 1) := by decide +kernel
theorem dX5_freeOf_4 : decode cX5_freeOf 4 = .ok (.iload_n 3, 1) := by decide +kernel
theorem dX5_freeOf_5 : decode cX5_freeOf 5 = .ok (.iconst 4, 1) := by decide +kernel
theorem dX5_freeOf_6 : decode cX5_freeOf 6 = .ok (.if_icmp .ge 28, 3) := by decide +kernel
theorem dX5_freeOf_9 : decode cX5_freeOf 9 = .ok (.iload_n 2, 1) := by decide +kernel
theorem dX5_freeOf_10 : decode cX5_freeOf 10 = .ok (.aload_n 0, 1) := by decide +kernel
theorem dX5_freeOf_11 : decode cX5_freeOf 11 = .ok (.iload_n 1, 1) := by decide +kernel
theorem dX5_freeOf_12 : decode cX5_freeOf 12 = .ok (.iload_n 3, 1) := by decide +kernel
theorem dX5_freeOf_13 : decode cX5_freeOf 13 = .ok (.invokevirtual 138, 3) := by decide +kernel
theorem dX5_freeOf_16 : decode cX5_freeOf 16 = .ok (.ifCond .eq 9, 3) := by decide +kernel
theorem dX5_freeOf_19 : decode cX5_freeOf 19 = .ok (.iconst 1, 1) := by decide +kernel
theorem dX5_freeOf_20 : decode cX5_freeOf 20 = .ok (.iload_n 3, 1) := by decide +kernel
theorem dX5_freeOf_21 : decode cX5_freeOf 21 = .ok (.ishl, 1) := by decide +kernel
theorem dX5_freeOf_22 : decode cX5_freeOf 22 = .ok (.goto 4, 3) := by decide +kernel
theorem dX5_freeOf_25 : decode cX5_freeOf 25 = .ok (.iconst 0, 1) := by decide +kernel
theorem dX5_freeOf_26 : decode cX5_freeOf 26 = .ok (.ior, 1) := by decide +kernel
theorem dX5_freeOf_27 : decode cX5_freeOf 27 = .ok (.istore_n 2, 1) := by decide +kernel
theorem dX5_freeOf_28 : decode cX5_freeOf 28 = .ok (.iinc 3 1, 3) := by decide +kernel
theorem dX5_freeOf_31 : decode cX5_freeOf 31 = .ok (.goto (-27), 3) := by decide +kernel
theorem dX5_freeOf_34 : decode cX5_freeOf 34 = .ok (.iload_n 2, 1) := by decide +kernel
theorem dX5_freeOf_35 : decode cX5_freeOf 35 = .ok (.ireturn, 1) := by decide +kernel
set_option maxRecDepth 20000 in
theorem ggX5_crosses_X5_of : GoodIn wsX5_crosses wsX5_of := goodIn_r _ [6, 1, 30, 31, 32, 33, 34, 35, 36, 37, 38, 39, 40, 41, 42, 43, 44, 45] (by decide +kernel) (by decide +kernel)
set_option maxRecDepth 20000 in
theorem gX5_crosses_X5_of : GoodIn wsX5_crosses (wsV RX5 39 RX5 yX5_of wsX5_of) := goodIn_app (goodIn_of _ (by decide +kernel)) ggX5_crosses_X5_of
set_option maxRecDepth 20000 in
theorem ggX5_crosses_X5_cornerOf : GoodIn wsX5_crosses wsX5_cornerOf := goodIn_r _ [10, 2, 3, 4, 5, 6, 1, 30, 31, 32, 33, 34, 35, 36, 37, 38, 39, 40, 41, 42, 43, 44, 45] (by decide +kernel) (by decide +kernel)
set_option maxRecDepth 20000 in
theorem gX5_crosses_X5_cornerOf : GoodIn wsX5_crosses (wsV RX5 72 RX5 yX5_cornerOf wsX5_cornerOf) := goodIn_app (goodIn_of _ (by decide +kernel)) ggX5_crosses_X5_cornerOf
set_option maxRecDepth 20000 in
theorem ggX5_crosses_X5_low : GoodIn wsX5_crosses wsX5_low := goodIn_r _ [14, 2, 3, 4, 5, 6, 1, 30, 31, 32, 33, 34, 35, 36, 37, 38, 39, 40, 41, 42, 43, 44, 45] (by decide +kernel) (by decide +kernel)
set_option maxRecDepth 20000 in
theorem gX5_crosses_X5_low : GoodIn wsX5_crosses (wsV RX5 49 RX5 yX5_low wsX5_low) := goodIn_app (goodIn_of _ (by decide +kernel)) ggX5_crosses_X5_low
set_option maxRecDepth 20000 in
theorem ggX5_crosses_X5_high : GoodIn wsX5_crosses wsX5_high := goodIn_r _ [18, 11, 12, 13, 5, 14, 2, 3, 4, 6, 1, 30, 31, 32, 33, 34, 35, 36, 37, 38, 39, 40, 41, 42, 43, 44, 45] (by decide +kernel) (by decide +kernel)
set_option maxRecDepth 20000 in
theorem gX5_crosses_X5_high : GoodIn wsX5_crosses (wsV RX5 55 RX5 yX5_high wsX5_high) := goodIn_app (goodIn_of _ (by decide +kernel)) ggX5_crosses_X5_high
set_option maxRecDepth 20000 in
theorem ggX5_crosses_X5_in : GoodIn wsX5_crosses wsX5_in := goodIn_r _ [21] (by decide +kernel) (by decide +kernel)
set_option maxRecDepth 20000 in
theorem gX5_crosses_X5_in : GoodIn wsX5_crosses (va_wsS RX5 35 yX5_in wsX5_in) := goodIn_app (goodIn_of _ (by decide +kernel)) ggX5_crosses_X5_in
set_option maxRecDepth 20000 in
theorem ggX5_crosses_X5_right : GoodIn wsX5_crosses wsX5_right := goodIn_r _ [25, 26, 27, 28, 5, 29, 2, 3, 4, 6, 1, 30, 31, 32, 33, 34, 35, 36, 37, 38, 39, 40, 41, 42, 43, 44, 45] (by decide +kernel) (by decide +kernel)
set_option maxRecDepth 20000 in
theorem gX5_crosses_X5_right : GoodIn wsX5_crosses (wsV RX5 52 RX5 yX5_right wsX5_right) := goodIn_app (goodIn_of _ (by decide +kernel)) ggX5_crosses_X5_right
theorem dX5_crosses_0 : decode cX5_crosses 0 = .ok (.aload_n 0, 1) := by decide +kernel
theorem dX5_crosses_1 : decode cX5_crosses 1 = .ok (.iload_n 1, 1) := by decide +kernel
theorem dX5_crosses_2 : decode cX5_crosses 2 = .ok (.iconst 1, 1) := by decide +kernel
theorem dX5_crosses_3 : decode cX5_crosses 3 = .ok (.invokevirtual 39, 3) := by decide +kernel
theorem dX5_crosses_6 : decode cX5_crosses 6 = .ok (.istore_n 2, 1) := by decide +kernel
theorem dX5_crosses_7 : decode cX5_crosses 7 = .ok (.iconst 0, 1) := by decide +kernel
theorem dX5_crosses_8 : decode cX5_crosses 8 = .ok (.istore_n 3, 1) := by decide +kernel
theorem dX5_crosses_9 : decode cX5_crosses 9 = .ok (.iconst 0, 1) := by decide +kernel
theorem dX5_crosses_10 : decode cX5_crosses 10 = .ok (.istore 4, 2) := by decide +kernel
theorem dX5_crosses_12 : decode cX5_crosses 12 = .ok (.iload 4, 2) := by decide +kernel
theorem dX5_crosses_14 : decode cX5_crosses 14 = .ok (.aload_n 0, 1) := by decide +kernel
theorem dX5_crosses_15 : decode cX5_crosses 15 = .ok (.getfield 7, 3) := by decide +kernel
theorem dX5_crosses_18 : decode cX5_crosses 18 = .ok (.iconst 0, 1) := by decide +kernel
theorem dX5_crosses_19 : decode cX5_crosses 19 = .ok (.iaload, 1) := by decide +kernel
theorem dX5_crosses_20 : decode cX5_crosses 20 = .ok (.if_icmp .ge 106, 3) := by decide +kernel
theorem dX5_crosses_23 : decode cX5_crosses 23 = .ok (.aload_n 0, 1) := by decide +kernel
theorem dX5_crosses_24 : decode cX5_crosses 24 = .ok (.iload 4, 2) := by decide +kernel
theorem dX5_crosses_26 : decode cX5_crosses 26 = .ok (.invokevirtual 72, 3) := by decide +kernel
theorem dX5_crosses_29 : decode cX5_crosses 29 = .ok (.istore 5, 2) := by decide +kernel
theorem dX5_crosses_31 : decode cX5_crosses 31 = .ok (.iload_n 3, 1) := by decide +kernel
theorem dX5_crosses_32 : decode cX5_crosses 32 = .ok (.aload_n 0, 1) := by decide +kernel
theorem dX5_crosses_33 : decode cX5_crosses 33 = .ok (.iload 4, 2) := by decide +kernel
theorem dX5_crosses_35 : decode cX5_crosses 35 = .ok (.iconst 1, 1) := by decide +kernel
theorem dX5_crosses_36 : decode cX5_crosses 36 = .ok (.invokevirtual 39, 3) := by decide +kernel
theorem dX5_crosses_39 : decode cX5_crosses 39 = .ok (.iload_n 2, 1) := by decide +kernel
theorem dX5_crosses_40 : decode cX5_crosses 40 = .ok (.if_icmp .ne 23, 3) := by decide +kernel
theorem dX5_crosses_43 : decode cX5_crosses 43 = .ok (.aload_n 0, 1) := by decide +kernel
theorem dX5_crosses_44 : decode cX5_crosses 44 = .ok (.iload 4, 2) := by decide +kernel
theorem dX5_crosses_46 : decode cX5_crosses 46 = .ok (.iconst 0, 1) := by decide +kernel
theorem dX5_crosses_47 : decode cX5_crosses 47 = .ok (.invokevirtual 39, 3) := by decide +kernel
theorem dX5_crosses_50 : decode cX5_crosses 50 = .ok (.aload_n 0, 1) := by decide +kernel
theorem dX5_crosses_51 : decode cX5_crosses 51 = .ok (.iload_n 1, 1) := by decide +kernel
theorem dX5_crosses_52 : decode cX5_crosses 52 = .ok (.iconst 0, 1) := by decide +kernel
theorem dX5_crosses_53 : decode cX5_crosses 53 = .ok (.invokevirtual 39, 3) := by decide +kernel
theorem dX5_crosses_56 : decode cX5_crosses 56 = .ok (.if_icmp .le 7, 3) := by decide +kernel
theorem dX5_crosses_59 : decode cX5_crosses 59 = .ok (.iconst 1, 1) := by decide +kernel
theorem dX5_crosses_60 : decode cX5_crosses 60 = .ok (.goto 4, 3) := by decide +kernel
theorem dX5_crosses_63 : decode cX5_crosses 63 = .ok (.iconst 0, 1) := by decide +kernel
theorem dX5_crosses_64 : decode cX5_crosses 64 = .ok (.iadd, 1) := by decide +kernel
theorem dX5_crosses_65 : decode cX5_crosses 65 = .ok (.istore_n 3, 1) := by decide +kernel
theorem dX5_crosses_66 : decode cX5_crosses 66 = .ok (.iload_n 3, 1) := by decide +kernel
theorem dX5_crosses_67 : decode cX5_crosses 67 = .ok (.iload 5, 2) := by decide +kernel
theorem dX5_crosses_69 : decode cX5_crosses 69 = .ok (.iconst (-1), 1) := by decide +kernel
theorem dX5_crosses_70 : decode cX5_crosses 70 = .ok (.if_icmp .eq 47, 3) := by decide +kernel
theorem dX5_crosses_73 : decode cX5_crosses 73 = .ok (.iload_n 2, 1) := by decide +kernel
theorem dX5_crosses_74 : decode cX5_crosses 74 = .ok (.aload_n 0, 1) := by decide +kernel
theorem dX5_crosses_75 : decode cX5_crosses 75 = .ok (.iload 4, 2) := by decide +kernel
theorem dX5_crosses_77 : decode cX5_crosses 77 = .ok (.iload 5, 2) := by decide +kernel
theorem dX5_crosses_79 : decode cX5_crosses 79 = .ok (.invokevirtual 49, 3) := by decide +kernel
theorem dX5_crosses_82 : decode cX5_crosses 82 = .ok (.aload_n 0, 1) := by decide +kernel
theorem dX5_crosses_83 : decode cX5_crosses 83 = .ok (.iload 4, 2) := by decide +kernel
theorem dX5_crosses_85 : decode cX5_crosses 85 = .ok (.iload 5, 2) := by decide +kernel
theorem dX5_crosses_87 : decode cX5_crosses 87 = .ok (.invokevirtual 55, 3) := by decide +kernel
theorem dX5_crosses_90 : decode cX5_crosses 90 = .ok (.invokestatic 35, 3) := by decide +kernel
theorem dX5_crosses_93 : decode cX5_crosses 93 = .ok (.ifCond .eq 24, 3) := by decide +kernel
theorem dX5_crosses_96 : decode cX5_crosses 96 = .ok (.aload_n 0, 1) := by decide +kernel
theorem dX5_crosses_97 : decode cX5_crosses 97 = .ok (.iload 4, 2) := by decide +kernel
theorem dX5_crosses_99 : decode cX5_crosses 99 = .ok (.iload 5, 2) := by decide +kernel
theorem dX5_crosses_101 : decode cX5_crosses 101 = .ok (.invokevirtual 52, 3) := by decide +kernel
theorem dX5_crosses_104 : decode cX5_crosses 104 = .ok (.aload_n 0, 1) := by decide +kernel
theorem dX5_crosses_105 : decode cX5_crosses 105 = .ok (.iload_n 1, 1) := by decide +kernel
theorem dX5_crosses_106 : decode cX5_crosses 106 = .ok (.iconst 0, 1) := by decide +kernel
