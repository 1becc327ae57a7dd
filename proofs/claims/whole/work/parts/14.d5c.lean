theorem dX5_crosses_107 : decode cX5_crosses 107 = .ok (.invokevirtual 39, 3) := by decide +kernel
theorem dX5_crosses_110 : decode cX5_crosses 110 = .ok (.if_icmp .le 7, 3) := by decide +kernel
theorem dX5_crosses_113 : decode cX5_crosses 113 = .ok (.iconst 1, 1) := by decide +kernel
theorem dX5_crosses_114 : decode cX5_crosses 114 = .ok (.goto 4, 3) := by decide +kernel
theorem dX5_crosses_117 : decode cX5_crosses 117 = .ok (.iconst 0, 1) := by decide +kernel
theorem dX5_crosses_118 : decode cX5_crosses 118 = .ok (.iadd, 1) := by decide +kernel
theorem dX5_crosses_119 : decode cX5_crosses 119 = .ok (.istore_n 3, 1) := by decide +kernel
theorem dX5_crosses_120 : decode cX5_crosses 120 = .ok (.iinc 4 1, 3) := by decide +kernel
theorem dX5_crosses_123 : decode cX5_crosses 123 = .ok (.goto (-111), 3) := by decide +kernel
theorem dX5_crosses_126 : decode cX5_crosses 126 = .ok (.iload_n 3, 1) := by decide +kernel
theorem dX5_crosses_127 : decode cX5_crosses 127 = .ok (.ireturn, 1) := by decide +kernel
set_option maxRecDepth 20000 in
theorem ggX5_tellsPoint_X5_cornerOf : GoodIn wsX5_tellsPoint wsX5_cornerOf := goodIn_r _ [5, 6, 7, 8, 4, 9, 10, 64, 65, 66, 67, 68, 69, 70, 71, 72, 73, 74, 75, 76, 77, 78, 79] (by decide +kernel) (by decide +kernel)
set_option maxRecDepth 20000 in
theorem gX5_tellsPoint_X5_cornerOf : GoodIn wsX5_tellsPoint (wsV RX5 72 RX5 yX5_cornerOf wsX5_cornerOf) := goodIn_app (goodIn_of _ (by decide +kernel)) ggX5_tellsPoint_X5_cornerOf
set_option maxRecDepth 20000 in
theorem ggX5_tellsPoint_X5_openOf : GoodIn wsX5_tellsPoint wsX5_openOf := goodIn_r _ [14, 15, 16, 17, 4, 18, 10, 19, 20, 21, 22, 6, 7, 8, 9, 23, 24, 25, 26, 27, 28, 29, 30, 31, 32, 33, 34, 35, 36, 37, 38, 39, 40, 41, 64, 65, 66, 67, 68, 69, 70, 71, 72, 73, 74, 75, 76, 77, 78, 79] (by decide +kernel) (by decide +kernel)
set_option maxRecDepth 20000 in
theorem gX5_tellsPoint_X5_openOf : GoodIn wsX5_tellsPoint (wsV RX5 102 RX5 yX5_openOf wsX5_openOf) := goodIn_app (goodIn_of _ (by decide +kernel)) ggX5_tellsPoint_X5_openOf
set_option maxRecDepth 20000 in
theorem ggX5_tellsPoint_X5_freeOf : GoodIn wsX5_tellsPoint wsX5_freeOf := goodIn_r _ [45, 46, 47, 48, 4, 49, 10, 15, 16, 17, 18, 19, 20, 21, 22, 6, 7, 8, 9, 23, 24, 25, 26, 27, 28, 29, 30, 31, 32, 33, 34, 35, 36, 37, 38, 39, 40, 41, 1, 2, 3, 5, 50, 51, 52, 53, 54, 55, 56, 57, 58, 59, 64, 65, 66, 67, 68, 69, 70, 71, 72, 73, 74, 75, 76, 77, 78, 79] (by decide +kernel) (by decide +kernel)
set_option maxRecDepth 20000 in
theorem gX5_tellsPoint_X5_freeOf : GoodIn wsX5_tellsPoint (wsV RX5 182 RX5 yX5_freeOf wsX5_freeOf) := goodIn_app (goodIn_of _ (by decide +kernel)) ggX5_tellsPoint_X5_freeOf
set_option maxRecDepth 20000 in
theorem ggX5_tellsPoint_X5_crosses : GoodIn wsX5_tellsPoint wsX5_crosses := goodIn_r _ [63, 10, 6, 7, 8, 4, 9, 1, 2, 3, 5, 27, 28, 29, 30, 31, 32, 33, 34, 39, 40, 41, 23, 24, 25, 26, 19, 20, 21, 22, 64, 65, 66, 67, 68, 69, 70, 71, 72, 73, 74, 75, 76, 77, 78, 79] (by decide +kernel) (by decide +kernel)
set_option maxRecDepth 20000 in
theorem gX5_tellsPoint_X5_crosses : GoodIn wsX5_tellsPoint (wsV RX5 185 RX5 yX5_crosses wsX5_crosses) := goodIn_app (goodIn_of _ (by decide +kernel)) ggX5_tellsPoint_X5_crosses
set_option maxRecDepth 20000 in
theorem ggX5_tellsPoint_X5_of : GoodIn wsX5_tellsPoint wsX5_of := goodIn_r _ [9, 10, 64, 65, 66, 67, 68, 69, 70, 71, 72, 73, 74, 75, 76, 77, 78, 79] (by decide +kernel) (by decide +kernel)
set_option maxRecDepth 20000 in
theorem gX5_tellsPoint_X5_of : GoodIn wsX5_tellsPoint (wsV RX5 39 RX5 yX5_of wsX5_of) := goodIn_app (goodIn_of _ (by decide +kernel)) ggX5_tellsPoint_X5_of
theorem dX5_tellsPoint_0 : decode cX5_tellsPoint 0 = .ok (.iload_n 2, 1) := by decide +kernel
theorem dX5_tellsPoint_1 : decode cX5_tellsPoint 1 = .ok (.tableswitch 55 5 8 #[31, 37, 43, 49], 31) := by decide +kernel
theorem dX5_tellsPoint_32 : decode cX5_tellsPoint 32 = .ok (.aload_n 0, 1) := by decide +kernel
theorem dX5_tellsPoint_33 : decode cX5_tellsPoint 33 = .ok (.iload_n 1, 1) := by decide +kernel
theorem dX5_tellsPoint_34 : decode cX5_tellsPoint 34 = .ok (.invokevirtual 72, 3) := by decide +kernel
theorem dX5_tellsPoint_37 : decode cX5_tellsPoint 37 = .ok (.ireturn, 1) := by decide +kernel
theorem dX5_tellsPoint_38 : decode cX5_tellsPoint 38 = .ok (.aload_n 0, 1) := by decide +kernel
theorem dX5_tellsPoint_39 : decode cX5_tellsPoint 39 = .ok (.iload_n 1, 1) := by decide +kernel
theorem dX5_tellsPoint_40 : decode cX5_tellsPoint 40 = .ok (.invokevirtual 102, 3) := by decide +kernel
theorem dX5_tellsPoint_43 : decode cX5_tellsPoint 43 = .ok (.ireturn, 1) := by decide +kernel
theorem dX5_tellsPoint_44 : decode cX5_tellsPoint 44 = .ok (.aload_n 0, 1) := by decide +kernel
theorem dX5_tellsPoint_45 : decode cX5_tellsPoint 45 = .ok (.iload_n 1, 1) := by decide +kernel
theorem dX5_tellsPoint_46 : decode cX5_tellsPoint 46 = .ok (.invokevirtual 182, 3) := by decide +kernel
theorem dX5_tellsPoint_49 : decode cX5_tellsPoint 49 = .ok (.ireturn, 1) := by decide +kernel
theorem dX5_tellsPoint_50 : decode cX5_tellsPoint 50 = .ok (.aload_n 0, 1) := by decide +kernel
theorem dX5_tellsPoint_51 : decode cX5_tellsPoint 51 = .ok (.iload_n 1, 1) := by decide +kernel
theorem dX5_tellsPoint_52 : decode cX5_tellsPoint 52 = .ok (.invokevirtual 185, 3) := by decide +kernel
theorem dX5_tellsPoint_55 : decode cX5_tellsPoint 55 = .ok (.ireturn, 1) := by decide +kernel
theorem dX5_tellsPoint_56 : decode cX5_tellsPoint 56 = .ok (.aload_n 0, 1) := by decide +kernel
theorem dX5_tellsPoint_57 : decode cX5_tellsPoint 57 = .ok (.iload_n 1, 1) := by decide +kernel
theorem dX5_tellsPoint_58 : decode cX5_tellsPoint 58 = .ok (.iload_n 2, 1) := by decide +kernel
theorem dX5_tellsPoint_59 : decode cX5_tellsPoint 59 = .ok (.invokevirtual 39, 3) := by decide +kernel
theorem dX5_tellsPoint_62 : decode cX5_tellsPoint 62 = .ok (.ireturn, 1) := by decide +kernel
set_option maxRecDepth 20000 in
theorem ggX5_point_X5_isPoint : GoodIn wsX5_point wsX5_isPoint := goodIn_r _ [6, 7, 8, 9, 5, 10, 77, 78, 79, 80, 81, 82, 83, 84, 85, 86, 87, 88, 89, 90, 91, 92] (by decide +kernel) (by decide +kernel)
set_option maxRecDepth 20000 in
theorem gX5_point_X5_isPoint : GoodIn wsX5_point (wsV RX5 129 RX5 yX5_isPoint wsX5_isPoint) := goodIn_app (goodIn_of _ (by decide +kernel)) ggX5_point_X5_isPoint
set_option maxRecDepth 20000 in
theorem ggX5_point_X5_fails : GoodIn wsX5_point wsX5_fails := goodIn_r _ [14, 1, 77, 78, 79, 80, 81, 82, 83, 84, 85, 86, 87, 88, 89, 90, 91, 92] (by decide +kernel) (by decide +kernel)
set_option maxRecDepth 20000 in
theorem gX5_point_X5_fails : GoodIn wsX5_point (wsV RX5 132 RX5 yX5_fails wsX5_fails) := goodIn_app (goodIn_of _ (by decide +kernel)) ggX5_point_X5_fails
set_option maxRecDepth 20000 in
theorem ggX5_point_X5_in : GoodIn wsX5_point wsX5_in := goodIn_r _ [10] (by decide +kernel) (by decide +kernel)
set_option maxRecDepth 20000 in
theorem gX5_point_X5_in : GoodIn wsX5_point (va_wsS RX5 35 yX5_in wsX5_in) := goodIn_app (goodIn_of _ (by decide +kernel)) ggX5_point_X5_in
set_option maxRecDepth 20000 in
theorem ggX5_point_X5_tellsPoint : GoodIn wsX5_point wsX5_tellsPoint := goodIn_r _ [18, 19, 20, 21, 5, 22, 23, 24, 25, 26, 7, 27, 28, 29, 30, 31, 32, 33, 34, 35, 36, 37, 38, 39, 40, 41, 42, 43, 44, 45, 46, 47, 48, 49, 50, 51, 52, 53, 54, 8, 9, 10, 55, 56, 57, 58, 59, 60, 61, 62, 63, 64, 65, 66, 67, 68, 69, 70, 71, 72, 73, 74, 75, 76, 77, 78, 79, 80, 81, 82, 83, 84, 85, 86, 87, 88, 89, 90, 91, 92] (by decide +kernel) (by decide +kernel)
set_option maxRecDepth 20000 in
theorem gX5_point_X5_tellsPoint : GoodIn wsX5_point (wsV RX5 188 RX5 yX5_tellsPoint wsX5_tellsPoint) := goodIn_app (goodIn_of _ (by decide +kernel)) ggX5_point_X5_tellsPoint
theorem dX5_point_0 : decode cX5_point 0 = .ok (.aload_n 0, 1) := by decide +kernel
theorem dX5_point_1 : decode cX5_point 1 = .ok (.iconst 0, 1) := by decide +kernel
theorem dX5_point_2 : decode cX5_point 2 = .ok (.putfield 31, 3) := by decide +kernel
theorem dX5_point_5 : decode cX5_point 5 = .ok (.aload_n 0, 1) := by decide +kernel
theorem dX5_point_6 : decode cX5_point 6 = .ok (.iload_n 1, 1) := by decide +kernel
theorem dX5_point_7 : decode cX5_point 7 = .ok (.invokevirtual 129, 3) := by decide +kernel
theorem dX5_point_10 : decode cX5_point 10 = .ok (.ifCond .ne 9, 3) := by decide +kernel
theorem dX5_point_13 : decode cX5_point 13 = .ok (.aload_n 0, 1) := by decide +kernel
theorem dX5_point_14 : decode cX5_point 14 = .ok (.iconst 1, 1) := by decide +kernel
theorem dX5_point_15 : decode cX5_point 15 = .ok (.invokevirtual 132, 3) := by decide +kernel
theorem dX5_point_18 : decode cX5_point 18 = .ok (.ireturn, 1) := by decide +kernel
theorem dX5_point_19 : decode cX5_point 19 = .ok (.iload_n 2, 1) := by decide +kernel
theorem dX5_point_20 : decode cX5_point 20 = .ok (.iconst 0, 1) := by decide +kernel
theorem dX5_point_21 : decode cX5_point 21 = .ok (.bipush 8, 2) := by decide +kernel
theorem dX5_point_23 : decode cX5_point 23 = .ok (.invokestatic 35, 3) := by decide +kernel
theorem dX5_point_26 : decode cX5_point 26 = .ok (.ifCond .eq 12, 3) := by decide +kernel
theorem dX5_point_29 : decode cX5_point 29 = .ok (.aload_n 0, 1) := by decide +kernel
theorem dX5_point_30 : decode cX5_point 30 = .ok (.iload_n 1, 1) := by decide +kernel
theorem dX5_point_31 : decode cX5_point 31 = .ok (.iload_n 2, 1) := by decide +kernel
theorem dX5_point_32 : decode cX5_point 32 = .ok (.invokevirtual 188, 3) := by decide +kernel
theorem dX5_point_35 : decode cX5_point 35 = .ok (.goto 8, 3) := by decide +kernel
theorem dX5_point_38 : decode cX5_point 38 = .ok (.aload_n 0, 1) := by decide +kernel
theorem dX5_point_39 : decode cX5_point 39 = .ok (.iconst 2, 1) := by decide +kernel
theorem dX5_point_40 : decode cX5_point 40 = .ok (.invokevirtual 132, 3) := by decide +kernel
theorem dX5_point_43 : decode cX5_point 43 = .ok (.ireturn, 1) := by decide +kernel
set_option maxRecDepth 20000 in
theorem ggX5_clash_X5_isPoint : GoodIn wsX5_clash wsX5_isPoint := goodIn_r _ [6, 7, 8, 9, 5, 10, 45, 46, 47, 48, 49, 50, 51, 52, 53, 54, 55, 56, 57, 58, 59, 60] (by decide +kernel) (by decide +kernel)
set_option maxRecDepth 20000 in
theorem gX5_clash_X5_isPoint : GoodIn wsX5_clash (wsV RX5 129 RX5 yX5_isPoint wsX5_isPoint) := goodIn_app (goodIn_of _ (by decide +kernel)) ggX5_clash_X5_isPoint
set_option maxRecDepth 20000 in
theorem ggX5_clash_X5_fails : GoodIn wsX5_clash wsX5_fails := goodIn_r _ [14, 1, 45, 46, 47, 48, 49, 50, 51, 52, 53, 54, 55, 56, 57, 58, 59, 60] (by decide +kernel) (by decide +kernel)
set_option maxRecDepth 20000 in
theorem gX5_clash_X5_fails : GoodIn wsX5_clash (wsV RX5 132 RX5 yX5_fails wsX5_fails) := goodIn_app (goodIn_of _ (by decide +kernel)) ggX5_clash_X5_fails
set_option maxRecDepth 20000 in
theorem ggX5_clash_X5_in : GoodIn wsX5_clash wsX5_in := goodIn_r _ [10] (by decide +kernel) (by decide +kernel)
set_option maxRecDepth 20000 in
theorem gX5_clash_X5_in : GoodIn wsX5_clash (va_wsS RX5 35 yX5_in wsX5_in) := goodIn_app (goodIn_of _ (by decide +kernel)) ggX5_clash_X5_in
set_option maxRecDepth 20000 in
theorem ggX5_clash_X5_common : GoodIn wsX5_clash wsX5_common := goodIn_r _ [18, 19, 20, 21, 5, 22, 23, 24, 25, 26, 27, 28, 29, 30, 7, 31, 32, 33, 34, 35, 36, 37, 38, 39, 40, 41, 42, 43, 44, 45, 46, 47, 48, 49, 50, 51, 52, 53, 54, 55, 56, 57, 58, 59, 60] (by decide +kernel) (by decide +kernel)
set_option maxRecDepth 20000 in
theorem gX5_clash_X5_common : GoodIn wsX5_clash (wsV RX5 76 RX5 yX5_common wsX5_common) := goodIn_app (goodIn_of _ (by decide +kernel)) ggX5_clash_X5_common
theorem dX5_clash_0 : decode cX5_clash 0 = .ok (.aload_n 0, 1) := by decide +kernel
theorem dX5_clash_1 : decode cX5_clash 1 = .ok (.iconst 0, 1) := by decide +kernel
theorem dX5_clash_2 : decode cX5_clash 2 = .ok (.putfield 31, 3) := by decide +kernel
theorem dX5_clash_5 : decode cX5_clash 5 = .ok (.aload_n 0, 1) := by decide +kernel
theorem dX5_clash_6 : decode cX5_clash 6 = .ok (.iload_n 1, 1) := by decide +kernel
theorem dX5_clash_7 : decode cX5_clash 7 = .ok (.invokevirtual 129, 3) := by decide +kernel
theorem dX5_clash_10 : decode cX5_clash 10 = .ok (.ifCond .eq 11, 3) := by decide +kernel
theorem dX5_clash_13 : decode cX5_clash 13 = .ok (.aload_n 0, 1) := by decide +kernel
theorem dX5_clash_14 : decode cX5_clash 14 = .ok (.iload_n 3, 1) := by decide +kernel
theorem dX5_clash_15 : decode cX5_clash 15 = .ok (.invokevirtual 129, 3) := by decide +kernel
theorem dX5_clash_18 : decode cX5_clash 18 = .ok (.ifCond .ne 9, 3) := by decide +kernel
theorem dX5_clash_21 : decode cX5_clash 21 = .ok (.aload_n 0, 1) := by decide +kernel
theorem dX5_clash_22 : decode cX5_clash 22 = .ok (.iconst 1, 1) := by decide +kernel
theorem dX5_clash_23 : decode cX5_clash 23 = .ok (.invokevirtual 132, 3) := by decide +kernel
theorem dX5_clash_26 : decode cX5_clash 26 = .ok (.ireturn, 1) := by decide +kernel
theorem dX5_clash_27 : decode cX5_clash 27 = .ok (.iload_n 1, 1) := by decide +kernel
theorem dX5_clash_28 : decode cX5_clash 28 = .ok (.iload_n 3, 1) := by decide +kernel
theorem dX5_clash_29 : decode cX5_clash 29 = .ok (.if_icmp .eq 22, 3) := by decide +kernel
theorem dX5_clash_32 : decode cX5_clash 32 = .ok (.iload_n 2, 1) := by decide +kernel
theorem dX5_clash_33 : decode cX5_clash 33 = .ok (.iconst 0, 1) := by decide +kernel
theorem dX5_clash_34 : decode cX5_clash 34 = .ok (.iconst 3, 1) := by decide +kernel
theorem dX5_clash_35 : decode cX5_clash 35 = .ok (.invokestatic 35, 3) := by decide +kernel
theorem dX5_clash_38 : decode cX5_clash 38 = .ok (.ifCond .eq 13, 3) := by decide +kernel
theorem dX5_clash_41 : decode cX5_clash 41 = .ok (.iload 4, 2) := by decide +kernel
theorem dX5_clash_43 : decode cX5_clash 43 = .ok (.iconst 0, 1) := by decide +kernel
theorem dX5_clash_44 : decode cX5_clash 44 = .ok (.iconst 3, 1) := by decide +kernel
theorem dX5_clash_45 : decode cX5_clash 45 = .ok (.invokestatic 35, 3) := by decide +kernel
theorem dX5_clash_48 : decode cX5_clash 48 = .ok (.ifCond .ne 9, 3) := by decide +kernel
theorem dX5_clash_51 : decode cX5_clash 51 = .ok (.aload_n 0, 1) := by decide +kernel
theorem dX5_clash_52 : decode cX5_clash 52 = .ok (.iconst 2, 1) := by decide +kernel
theorem dX5_clash_53 : decode cX5_clash 53 = .ok (.invokevirtual 132, 3) := by decide +kernel
theorem dX5_clash_56 : decode cX5_clash 56 = .ok (.ireturn, 1) := by decide +kernel
theorem dX5_clash_57 : decode cX5_clash 57 = .ok (.aload_n 0, 1) := by decide +kernel
theorem dX5_clash_58 : decode cX5_clash 58 = .ok (.iload_n 1, 1) := by decide +kernel
theorem dX5_clash_59 : decode cX5_clash 59 = .ok (.iload_n 2, 1) := by decide +kernel
theorem dX5_clash_60 : decode cX5_clash 60 = .ok (.iload_n 3, 1) := by decide +kernel
theorem dX5_clash_61 : decode cX5_clash 61 = .ok (.iload 4, 2) := by decide +kernel
theorem dX5_clash_63 : decode cX5_clash 63 = .ok (.invokevirtual 76, 3) := by decide +kernel
theorem dX5_clash_66 : decode cX5_clash 66 = .ok (.ireturn, 1) := by decide +kernel
set_option maxRecDepth 20000 in
theorem ggX5_tellsAt_X5_cornerOf : GoodIn wsX5_tellsAt wsX5_cornerOf := goodIn_r _ [6, 7, 8, 9, 5, 10, 1, 38, 39, 40, 41, 42, 43, 44, 45, 46, 47, 48, 49, 50, 51, 52, 53] (by decide +kernel) (by decide +kernel)
set_option maxRecDepth 20000 in
theorem gX5_tellsAt_X5_cornerOf : GoodIn wsX5_tellsAt (wsV RX5 72 RX5 yX5_cornerOf wsX5_cornerOf) := goodIn_app (goodIn_of _ (by decide +kernel)) ggX5_tellsAt_X5_cornerOf
set_option maxRecDepth 20000 in
theorem ggX5_tellsAt_X5_has : GoodIn wsX5_tellsAt wsX5_has := goodIn_r _ [14, 15, 16, 17, 5, 18, 7, 8, 9, 10, 1, 19, 20, 21, 22, 23, 24, 25, 26, 27, 28, 29, 30, 31, 32, 33, 38, 39, 40, 41, 42, 43, 44, 45, 46, 47, 48, 49, 50, 51, 52, 53] (by decide +kernel) (by decide +kernel)
set_option maxRecDepth 20000 in
theorem gX5_tellsAt_X5_has : GoodIn wsX5_tellsAt (wsV RX5 58 RX5 yX5_has wsX5_has) := goodIn_app (goodIn_of _ (by decide +kernel)) ggX5_tellsAt_X5_has
set_option maxRecDepth 20000 in
theorem ggX5_tellsAt_X5_pointAt : GoodIn wsX5_tellsAt wsX5_pointAt := goodIn_r _ [37, 1, 7, 8, 9, 5, 10, 38, 39, 40, 41, 42, 43, 44, 45, 46, 47, 48, 49, 50, 51, 52, 53] (by decide +kernel) (by decide +kernel)
set_option maxRecDepth 20000 in
theorem gX5_tellsAt_X5_pointAt : GoodIn wsX5_tellsAt (wsV RX5 112 RX5 yX5_pointAt wsX5_pointAt) := goodIn_app (goodIn_of _ (by decide +kernel)) ggX5_tellsAt_X5_pointAt
theorem dX5_tellsAt_0 : decode cX5_tellsAt 0 = .ok (.iconst 0, 1) := by decide +kernel
theorem dX5_tellsAt_1 : decode cX5_tellsAt 1 = .ok (.istore_n 3, 1) := by decide +kernel
theorem dX5_tellsAt_2 : decode cX5_tellsAt 2 = .ok (.iload_n 3, 1) := by decide +kernel
theorem dX5_tellsAt_3 : decode cX5_tellsAt 3 = .ok (.aload_n 0, 1) := by decide +kernel
theorem dX5_tellsAt_4 : decode cX5_tellsAt 4 = .ok (.getfield 7, 3) := by decide +kernel
theorem dX5_tellsAt_7 : decode cX5_tellsAt 7 = .ok (.iconst 0, 1) := by decide +kernel
theorem dX5_tellsAt_8 : decode cX5_tellsAt 8 = .ok (.iaload, 1) := by decide +kernel
theorem dX5_tellsAt_9 : decode cX5_tellsAt 9 = .ok (.if_icmp .ge 38, 3) := by decide +kernel
theorem dX5_tellsAt_12 : decode cX5_tellsAt 12 = .ok (.aload_n 0, 1) := by decide +kernel
theorem dX5_tellsAt_13 : decode cX5_tellsAt 13 = .ok (.iload_n 3, 1) := by decide +kernel
theorem dX5_tellsAt_14 : decode cX5_tellsAt 14 = .ok (.invokevirtual 72, 3) := by decide +kernel
theorem dX5_tellsAt_17 : decode cX5_tellsAt 17 = .ok (.iconst (-1), 1) := by decide +kernel
theorem dX5_tellsAt_18 : decode cX5_tellsAt 18 = .ok (.if_icmp .eq 23, 3) := by decide +kernel
theorem dX5_tellsAt_21 : decode cX5_tellsAt 21 = .ok (.aload_n 0, 1) := by decide +kernel
theorem dX5_tellsAt_22 : decode cX5_tellsAt 22 = .ok (.iload_n 3, 1) := by decide +kernel
theorem dX5_tellsAt_23 : decode cX5_tellsAt 23 = .ok (.aload_n 0, 1) := by decide +kernel
theorem dX5_tellsAt_24 : decode cX5_tellsAt 24 = .ok (.iload_n 3, 1) := by decide +kernel
theorem dX5_tellsAt_25 : decode cX5_tellsAt 25 = .ok (.invokevirtual 72, 3) := by decide +kernel
theorem dX5_tellsAt_28 : decode cX5_tellsAt 28 = .ok (.iload_n 1, 1) := by decide +kernel
theorem dX5_tellsAt_29 : decode cX5_tellsAt 29 = .ok (.iload_n 2, 1) := by decide +kernel
theorem dX5_tellsAt_30 : decode cX5_tellsAt 30 = .ok (.invokevirtual 58, 3) := by decide +kernel
theorem dX5_tellsAt_33 : decode cX5_tellsAt 33 = .ok (.ifCond .eq 8, 3) := by decide +kernel
theorem dX5_tellsAt_36 : decode cX5_tellsAt 36 = .ok (.bipush 100, 2) := by decide +kernel
theorem dX5_tellsAt_38 : decode cX5_tellsAt 38 = .ok (.iload_n 3, 1) := by decide +kernel
theorem dX5_tellsAt_39 : decode cX5_tellsAt 39 = .ok (.iadd, 1) := by decide +kernel
theorem dX5_tellsAt_40 : decode cX5_tellsAt 40 = .ok (.ireturn, 1) := by decide +kernel
theorem dX5_tellsAt_41 : decode cX5_tellsAt 41 = .ok (.iinc 3 1, 3) := by decide +kernel
theorem dX5_tellsAt_44 : decode cX5_tellsAt 44 = .ok (.goto (-42), 3) := by decide +kernel
theorem dX5_tellsAt_47 : decode cX5_tellsAt 47 = .ok (.aload_n 0, 1) := by decide +kernel
theorem dX5_tellsAt_48 : decode cX5_tellsAt 48 = .ok (.iload_n 1, 1) := by decide +kernel
theorem dX5_tellsAt_49 : decode cX5_tellsAt 49 = .ok (.iload_n 2, 1) := by decide +kernel
theorem dX5_tellsAt_50 : decode cX5_tellsAt 50 = .ok (.invokevirtual 112, 3) := by decide +kernel
theorem dX5_tellsAt_53 : decode cX5_tellsAt 53 = .ok (.ireturn, 1) := by decide +kernel
set_option maxRecDepth 20000 in
theorem ggX5_at_X5_in : GoodIn wsX5_at wsX5_in := goodIn_r _ [5] (by decide +kernel) (by decide +kernel)
set_option maxRecDepth 20000 in
theorem gX5_at_X5_in : GoodIn wsX5_at (va_wsS RX5 35 yX5_in wsX5_in) := goodIn_app (goodIn_of _ (by decide +kernel)) ggX5_at_X5_in
set_option maxRecDepth 20000 in
theorem ggX5_at_X5_tellsAt : GoodIn wsX5_at wsX5_tellsAt := goodIn_r _ [9, 10, 11, 12, 13, 4, 14, 15, 16, 17, 18, 19, 20, 21, 22, 23, 24, 25, 26, 27, 28, 29, 30, 2, 3, 5, 31, 32, 33, 34, 35, 36, 37, 38, 39, 40, 41, 42, 47, 48, 49, 50, 51, 52, 53, 54, 55, 56, 57, 58, 59, 60, 61, 62] (by decide +kernel) (by decide +kernel)
set_option maxRecDepth 20000 in
theorem gX5_at_X5_tellsAt : GoodIn wsX5_at (wsV RX5 191 RX5 yX5_tellsAt wsX5_tellsAt) := goodIn_app (goodIn_of _ (by decide +kernel)) ggX5_at_X5_tellsAt
set_option maxRecDepth 20000 in
theorem ggX5_at_X5_fails : GoodIn wsX5_at wsX5_fails := goodIn_r _ [46, 1, 47, 48, 49, 50, 51, 52, 53, 54, 55, 56, 57, 58, 59, 60, 61, 62] (by decide +kernel) (by decide +kernel)
set_option maxRecDepth 20000 in
theorem gX5_at_X5_fails : GoodIn wsX5_at (wsV RX5 132 RX5 yX5_fails wsX5_fails) := goodIn_app (goodIn_of _ (by decide +kernel)) ggX5_at_X5_fails
theorem dX5_at_0 : decode cX5_at 0 = .ok (.aload_n 0, 1) := by decide +kernel
theorem dX5_at_1 : decode cX5_at 1 = .ok (.iconst 0, 1) := by decide +kernel
theorem dX5_at_2 : decode cX5_at 2 = .ok (.putfield 31, 3) := by decide +kernel
theorem dX5_at_5 : decode cX5_at 5 = .ok (.iload_n 1, 1) := by decide +kernel
theorem dX5_at_6 : decode cX5_at 6 = .ok (.iconst 0, 1) := by decide +kernel
theorem dX5_at_7 : decode cX5_at 7 = .ok (.bipush 59, 2) := by decide +kernel
theorem dX5_at_9 : decode cX5_at 9 = .ok (.invokestatic 35, 3) := by decide +kernel
theorem dX5_at_12 : decode cX5_at 12 = .ok (.ifCond .eq 22, 3) := by decide +kernel
theorem dX5_at_15 : decode cX5_at 15 = .ok (.iload_n 2, 1) := by decide +kernel
theorem dX5_at_16 : decode cX5_at 16 = .ok (.iconst 0, 1) := by decide +kernel
theorem dX5_at_17 : decode cX5_at 17 = .ok (.bipush 39, 2) := by decide +kernel
theorem dX5_at_19 : decode cX5_at 19 = .ok (.invokestatic 35, 3) := by decide +kernel
theorem dX5_at_22 : decode cX5_at 22 = .ok (.ifCond .eq 12, 3) := by decide +kernel
theorem dX5_at_25 : decode cX5_at 25 = .ok (.aload_n 0, 1) := by decide +kernel
theorem dX5_at_26 : decode cX5_at 26 = .ok (.iload_n 1, 1) := by decide +kernel
theorem dX5_at_27 : decode cX5_at 27 = .ok (.iload_n 2, 1) := by decide +kernel
theorem dX5_at_28 : decode cX5_at 28 = .ok (.invokevirtual 191, 3) := by decide +kernel
theorem dX5_at_31 : decode cX5_at 31 = .ok (.goto 8, 3) := by decide +kernel
theorem dX5_at_34 : decode cX5_at 34 = .ok (.aload_n 0, 1) := by decide +kernel
theorem dX5_at_35 : decode cX5_at 35 = .ok (.iconst 1, 1) := by decide +kernel
theorem dX5_at_36 : decode cX5_at 36 = .ok (.invokevirtual 132, 3) := by decide +kernel
theorem dX5_at_39 : decode cX5_at 39 = .ok (.ireturn, 1) := by decide +kernel
set_option maxRecDepth 20000 in
theorem ggX5_weightOf_X5_cornerOf : GoodIn wsX5_weightOf wsX5_cornerOf := goodIn_r _ [6, 7, 8, 9, 5, 10, 1, 11, 12, 13, 14, 15, 16, 17, 18, 19, 20, 21, 22, 23, 24, 25, 26] (by decide +kernel) (by decide +kernel)
set_option maxRecDepth 20000 in
theorem gX5_weightOf_X5_cornerOf : GoodIn wsX5_weightOf (wsV RX5 72 RX5 yX5_cornerOf wsX5_cornerOf) := goodIn_app (goodIn_of _ (by decide +kernel)) ggX5_weightOf_X5_cornerOf
set_option maxRecDepth 20000 in
theorem ggX5_weightOf_X5_of : GoodIn wsX5_weightOf wsX5_of := goodIn_r _ [10, 1, 11, 12, 13, 14, 15, 16, 17, 18, 19, 20, 21, 22, 23, 24, 25, 26] (by decide +kernel) (by decide +kernel)
set_option maxRecDepth 20000 in
theorem gX5_weightOf_X5_of : GoodIn wsX5_weightOf (wsV RX5 39 RX5 yX5_of wsX5_of) := goodIn_app (goodIn_of _ (by decide +kernel)) ggX5_weightOf_X5_of
theorem dX5_weightOf_0 : decode cX5_weightOf 0 = .ok (.iconst 0, 1) := by decide +kernel
theorem dX5_weightOf_1 : decode cX5_weightOf 1 = .ok (.istore_n 2, 1) := by decide +kernel
theorem dX5_weightOf_2 : decode cX5_weightOf 2 = .ok (.iconst 0, 1) := by decide +kernel
theorem dX5_weightOf_3 : decode cX5_weightOf 3 = .ok (.istore_n 3, 1) := by decide +kernel
theorem dX5_weightOf_4 : decode cX5_weightOf 4 = .ok (.iload_n 3, 1) := by decide +kernel
theorem dX5_weightOf_5 : decode cX5_weightOf 5 = .ok (.aload_n 0, 1) := by decide +kernel
theorem dX5_weightOf_6 : decode cX5_weightOf 6 = .ok (.getfield 7, 3) := by decide +kernel
theorem dX5_weightOf_9 : decode cX5_weightOf 9 = .ok (.iconst 0, 1) := by decide +kernel
theorem dX5_weightOf_10 : decode cX5_weightOf 10 = .ok (.iaload, 1) := by decide +kernel
theorem dX5_weightOf_11 : decode cX5_weightOf 11 = .ok (.if_icmp .ge 40, 3) := by decide +kernel
theorem dX5_weightOf_14 : decode cX5_weightOf 14 = .ok (.iload_n 2, 1) := by decide +kernel
theorem dX5_weightOf_15 : decode cX5_weightOf 15 = .ok (.aload_n 0, 1) := by decide +kernel
theorem dX5_weightOf_16 : decode cX5_weightOf 16 = .ok (.iload_n 3, 1) := by decide +kernel
theorem dX5_weightOf_17 : decode cX5_weightOf 17 = .ok (.invokevirtual 72, 3) := by decide +kernel
theorem dX5_weightOf_20 : decode cX5_weightOf 20 = .ok (.iconst (-1), 1) := by decide +kernel
theorem dX5_weightOf_21 : decode cX5_weightOf 21 = .ok (.if_icmp .eq 7, 3) := by decide +kernel
theorem dX5_weightOf_24 : decode cX5_weightOf 24 = .ok (.iconst 1, 1) := by decide +kernel
theorem dX5_weightOf_25 : decode cX5_weightOf 25 = .ok (.goto 4, 3) := by decide +kernel
theorem dX5_weightOf_28 : decode cX5_weightOf 28 = .ok (.iconst 0, 1) := by decide +kernel
theorem dX5_weightOf_29 : decode cX5_weightOf 29 = .ok (.iload_n 1, 1) := by decide +kernel
theorem dX5_weightOf_30 : decode cX5_weightOf 30 = .ok (.if_icmp .ne 12, 3) := by decide +kernel
theorem dX5_weightOf_33 : decode cX5_weightOf 33 = .ok (.aload_n 0, 1) := by decide +kernel
theorem dX5_weightOf_34 : decode cX5_weightOf 34 = .ok (.iload_n 3, 1) := by decide +kernel
theorem dX5_weightOf_35 : decode cX5_weightOf 35 = .ok (.iconst 4, 1) := by decide +kernel
theorem dX5_weightOf_36 : decode cX5_weightOf 36 = .ok (.invokevirtual 39, 3) := by decide +kernel
theorem dX5_weightOf_39 : decode cX5_weightOf 39 = .ok (.goto 4, 3) := by decide +kernel
theorem dX5_weightOf_42 : decode cX5_weightOf 42 = .ok (.iconst 0, 1) := by decide +kernel
theorem dX5_weightOf_43 : decode cX5_weightOf 43 = .ok (.iadd, 1) := by decide +kernel
theorem dX5_weightOf_44 : decode cX5_weightOf 44 = .ok (.istore_n 2, 1) := by decide +kernel
theorem dX5_weightOf_45 : decode cX5_weightOf 45 = .ok (.iinc 3 1, 3) := by decide +kernel
theorem dX5_weightOf_48 : decode cX5_weightOf 48 = .ok (.goto (-44), 3) := by decide +kernel
theorem dX5_weightOf_51 : decode cX5_weightOf 51 = .ok (.iload_n 2, 1) := by decide +kernel
theorem dX5_weightOf_52 : decode cX5_weightOf 52 = .ok (.ireturn, 1) := by decide +kernel
set_option maxRecDepth 20000 in
theorem ggX5_squares_X5_cornerOf : GoodIn wsX5_squares wsX5_cornerOf := goodIn_r _ [6, 7, 8, 9, 5, 10, 1, 11, 12, 13, 14, 15, 16, 17, 18, 19, 20, 21, 22, 23, 24, 25, 26] (by decide +kernel) (by decide +kernel)
set_option maxRecDepth 20000 in
theorem gX5_squares_X5_cornerOf : GoodIn wsX5_squares (wsV RX5 72 RX5 yX5_cornerOf wsX5_cornerOf) := goodIn_app (goodIn_of _ (by decide +kernel)) ggX5_squares_X5_cornerOf
set_option maxRecDepth 20000 in
theorem ggX5_squares_X5_of : GoodIn wsX5_squares wsX5_of := goodIn_r _ [10, 1, 11, 12, 13, 14, 15, 16, 17, 18, 19, 20, 21, 22, 23, 24, 25, 26] (by decide +kernel) (by decide +kernel)
set_option maxRecDepth 20000 in
theorem gX5_squares_X5_of : GoodIn wsX5_squares (wsV RX5 39 RX5 yX5_of wsX5_of) := goodIn_app (goodIn_of _ (by decide +kernel)) ggX5_squares_X5_of
theorem dX5_squares_0 : decode cX5_squares 0 = .ok (.iconst 0, 1) := by decide +kernel
theorem dX5_squares_1 : decode cX5_squares 1 = .ok (.istore_n 1, 1) := by decide +kernel
theorem dX5_squares_2 : decode cX5_squares 2 = .ok (.iconst 0, 1) := by decide +kernel
theorem dX5_squares_3 : decode cX5_squares 3 = .ok (.istore_n 2, 1) := by decide +kernel
theorem dX5_squares_4 : decode cX5_squares 4 = .ok (.iload_n 2, 1) := by decide +kernel
theorem dX5_squares_5 : decode cX5_squares 5 = .ok (.aload_n 0, 1) := by decide +kernel
theorem dX5_squares_6 : decode cX5_squares 6 = .ok (.getfield 7, 3) := by decide +kernel
theorem dX5_squares_9 : decode cX5_squares 9 = .ok (.iconst 0, 1) := by decide +kernel
theorem dX5_squares_10 : decode cX5_squares 10 = .ok (.iaload, 1) := by decide +kernel
theorem dX5_squares_11 : decode cX5_squares 11 = .ok (.if_icmp .ge 38, 3) := by decide +kernel
theorem dX5_squares_14 : decode cX5_squares 14 = .ok (.iload_n 1, 1) := by decide +kernel
theorem dX5_squares_15 : decode cX5_squares 15 = .ok (.aload_n 0, 1) := by decide +kernel
theorem dX5_squares_16 : decode cX5_squares 16 = .ok (.iload_n 2, 1) := by decide +kernel
theorem dX5_squares_17 : decode cX5_squares 17 = .ok (.invokevirtual 72, 3) := by decide +kernel
theorem dX5_squares_20 : decode cX5_squares 20 = .ok (.iconst (-1), 1) := by decide +kernel
theorem dX5_squares_21 : decode cX5_squares 21 = .ok (.if_icmp .ne 7, 3) := by decide +kernel
theorem dX5_squares_24 : decode cX5_squares 24 = .ok (.iconst 0, 1) := by decide +kernel
theorem dX5_squares_25 : decode cX5_squares 25 = .ok (.goto 16, 3) := by decide +kernel
theorem dX5_squares_28 : decode cX5_squares 28 = .ok (.aload_n 0, 1) := by decide +kernel
theorem dX5_squares_29 : decode cX5_squares 29 = .ok (.iload_n 2, 1) := by decide +kernel
theorem dX5_squares_30 : decode cX5_squares 30 = .ok (.iconst 2, 1) := by decide +kernel
theorem dX5_squares_31 : decode cX5_squares 31 = .ok (.invokevirtual 39, 3) := by decide +kernel
theorem dX5_squares_34 : decode cX5_squares 34 = .ok (.aload_n 0, 1) := by decide +kernel
theorem dX5_squares_35 : decode cX5_squares 35 = .ok (.iload_n 2, 1) := by decide +kernel
theorem dX5_squares_36 : decode cX5_squares 36 = .ok (.iconst 3, 1) := by decide +kernel
theorem dX5_squares_37 : decode cX5_squares 37 = .ok (.invokevirtual 39, 3) := by decide +kernel
theorem dX5_squares_40 : decode cX5_squares 40 = .ok (.imul, 1) := by decide +kernel
theorem dX5_squares_41 : decode cX5_squares 41 = .ok (.iadd, 1) := by decide +kernel
theorem dX5_squares_42 : decode cX5_squares 42 = .ok (.istore_n 1, 1) := by decide +kernel
theorem dX5_squares_43 : decode cX5_squares 43 = .ok (.iinc 2 1, 3) := by decide +kernel
theorem dX5_squares_46 : decode cX5_squares 46 = .ok (.goto (-42), 3) := by decide +kernel
theorem dX5_squares_49 : decode cX5_squares 49 = .ok (.iload_n 1, 1) := by decide +kernel
theorem dX5_squares_50 : decode cX5_squares 50 = .ok (.ireturn, 1) := by decide +kernel
set_option maxRecDepth 20000 in
theorem ggX5_closedMany_X5_openOf : GoodIn wsX5_closedMany wsX5_openOf := goodIn_r _ [6, 7, 8, 9, 5, 10, 1, 11, 12, 13, 14, 15, 16, 17, 18, 19, 20, 21, 22, 23, 24, 25, 26, 27, 28, 29, 30, 31, 32, 33, 34, 35, 36, 37, 38, 39, 40, 41, 42, 43, 44, 45, 46, 47, 48, 49, 50, 51, 52, 53] (by decide +kernel) (by decide +kernel)
set_option maxRecDepth 20000 in
theorem gX5_closedMany_X5_openOf : GoodIn wsX5_closedMany (wsV RX5 102 RX5 yX5_openOf wsX5_openOf) := goodIn_app (goodIn_of _ (by decide +kernel)) ggX5_closedMany_X5_openOf
theorem dX5_closedMany_0 : decode cX5_closedMany 0 = .ok (.iconst 0, 1) := by decide +kernel
theorem dX5_closedMany_1 : decode cX5_closedMany 1 = .ok (.istore_n 1, 1) := by decide +kernel
theorem dX5_closedMany_2 : decode cX5_closedMany 2 = .ok (.iconst 0, 1) := by decide +kernel
theorem dX5_closedMany_3 : decode cX5_closedMany 3 = .ok (.istore_n 2, 1) := by decide +kernel
theorem dX5_closedMany_4 : decode cX5_closedMany 4 = .ok (.iload_n 2, 1) := by decide +kernel
theorem dX5_closedMany_5 : decode cX5_closedMany 5 = .ok (.aload_n 0, 1) := by decide +kernel
theorem dX5_closedMany_6 : decode cX5_closedMany 6 = .ok (.getfield 7, 3) := by decide +kernel
theorem dX5_closedMany_9 : decode cX5_closedMany 9 = .ok (.iconst 0, 1) := by decide +kernel
theorem dX5_closedMany_10 : decode cX5_closedMany 10 = .ok (.iaload, 1) := by decide +kernel
theorem dX5_closedMany_11 : decode cX5_closedMany 11 = .ok (.if_icmp .ge 25, 3) := by decide +kernel
theorem dX5_closedMany_14 : decode cX5_closedMany 14 = .ok (.iload_n 1, 1) := by decide +kernel
theorem dX5_closedMany_15 : decode cX5_closedMany 15 = .ok (.aload_n 0, 1) := by decide +kernel
theorem dX5_closedMany_16 : decode cX5_closedMany 16 = .ok (.iload_n 2, 1) := by decide +kernel
theorem dX5_closedMany_17 : decode cX5_closedMany 17 = .ok (.invokevirtual 102, 3) := by decide +kernel
theorem dX5_closedMany_20 : decode cX5_closedMany 20 = .ok (.ifCond .ne 7, 3) := by decide +kernel
theorem dX5_closedMany_23 : decode cX5_closedMany 23 = .ok (.iconst 1, 1) := by decide +kernel
theorem dX5_closedMany_24 : decode cX5_closedMany 24 = .ok (.goto 4, 3) := by decide +kernel
theorem dX5_closedMany_27 : decode cX5_closedMany 27 = .ok (.iconst 0, 1) := by decide +kernel
theorem dX5_closedMany_28 : decode cX5_closedMany 28 = .ok (.iadd, 1) := by decide +kernel
theorem dX5_closedMany_29 : decode cX5_closedMany 29 = .ok (.istore_n 1, 1) := by decide +kernel
theorem dX5_closedMany_30 : decode cX5_closedMany 30 = .ok (.iinc 2 1, 3) := by decide +kernel
theorem dX5_closedMany_33 : decode cX5_closedMany 33 = .ok (.goto (-29), 3) := by decide +kernel
theorem dX5_closedMany_36 : decode cX5_closedMany 36 = .ok (.iload_n 1, 1) := by decide +kernel
theorem dX5_closedMany_37 : decode cX5_closedMany 37 = .ok (.ireturn, 1) := by decide +kernel
set_option maxRecDepth 20000 in
theorem ggX5_mayClash_X5_isOpen : GoodIn wsX5_mayClash wsX5_isOpen := goodIn_r _ [5, 6, 7, 8, 9, 4, 10, 11, 12, 13, 14, 15, 16, 17, 18, 19, 20, 21, 22, 23, 24, 25, 26, 27, 28, 29, 30, 31, 32, 33, 44, 45, 46, 47, 48, 49, 50, 51, 52, 53, 54, 55, 56, 57, 58, 59] (by decide +kernel) (by decide +kernel)
set_option maxRecDepth 20000 in
theorem gX5_mayClash_X5_isOpen : GoodIn wsX5_mayClash (wsV RX5 62 RX5 yX5_isOpen wsX5_isOpen) := goodIn_app (goodIn_of _ (by decide +kernel)) ggX5_mayClash_X5_isOpen
set_option maxRecDepth 20000 in
theorem ggX5_mayClash_X5_common : GoodIn wsX5_mayClash wsX5_common := goodIn_r _ [37, 15, 16, 17, 4, 18, 7, 8, 9, 10, 11, 12, 13, 14, 6, 38, 39, 40, 41, 42, 43, 23, 24, 25, 26, 19, 20, 21, 22, 44, 45, 46, 47, 48, 49, 50, 51, 52, 53, 54, 55, 56, 57, 58, 59] (by decide +kernel) (by decide +kernel)
set_option maxRecDepth 20000 in
theorem gX5_mayClash_X5_common : GoodIn wsX5_mayClash (wsV RX5 76 RX5 yX5_common wsX5_common) := goodIn_app (goodIn_of _ (by decide +kernel)) ggX5_mayClash_X5_common
theorem dX5_mayClash_0 : decode cX5_mayClash 0 = .ok (.iconst 0, 1) := by decide +kernel
theorem dX5_mayClash_1 : decode cX5_mayClash 1 = .ok (.istore_n 3, 1) := by decide +kernel
theorem dX5_mayClash_2 : decode cX5_mayClash 2 = .ok (.iconst 0, 1) := by decide +kernel
theorem dX5_mayClash_3 : decode cX5_mayClash 3 = .ok (.istore 4, 2) := by decide +kernel
theorem dX5_mayClash_5 : decode cX5_mayClash 5 = .ok (.iload 4, 2) := by decide +kernel
theorem dX5_mayClash_7 : decode cX5_mayClash 7 = .ok (.bipush 16, 2) := by decide +kernel
theorem dX5_mayClash_9 : decode cX5_mayClash 9 = .ok (.if_icmp .ge 60, 3) := by decide +kernel
theorem dX5_mayClash_12 : decode cX5_mayClash 12 = .ok (.iload_n 3, 1) := by decide +kernel
theorem dX5_mayClash_13 : decode cX5_mayClash 13 = .ok (.ifCond .ne 44, 3) := by decide +kernel
theorem dX5_mayClash_16 : decode cX5_mayClash 16 = .ok (.aload_n 0, 1) := by decide +kernel
theorem dX5_mayClash_17 : decode cX5_mayClash 17 = .ok (.iload_n 1, 1) := by decide +kernel
theorem dX5_mayClash_18 : decode cX5_mayClash 18 = .ok (.iload 4, 2) := by decide +kernel
theorem dX5_mayClash_20 : decode cX5_mayClash 20 = .ok (.iconst 4, 1) := by decide +kernel
theorem dX5_mayClash_21 : decode cX5_mayClash 21 = .ok (.idiv, 1) := by decide +kernel
theorem dX5_mayClash_22 : decode cX5_mayClash 22 = .ok (.invokevirtual 62, 3) := by decide +kernel
theorem dX5_mayClash_25 : decode cX5_mayClash 25 = .ok (.ifCond .eq 36, 3) := by decide +kernel
theorem dX5_mayClash_28 : decode cX5_mayClash 28 = .ok (.aload_n 0, 1) := by decide +kernel
theorem dX5_mayClash_29 : decode cX5_mayClash 29 = .ok (.iload_n 2, 1) := by decide +kernel
theorem dX5_mayClash_30 : decode cX5_mayClash 30 = .ok (.iload 4, 2) := by decide +kernel
theorem dX5_mayClash_32 : decode cX5_mayClash 32 = .ok (.iconst 4, 1) := by decide +kernel
theorem dX5_mayClash_33 : decode cX5_mayClash 33 = .ok (.irem, 1) := by decide +kernel
theorem dX5_mayClash_34 : decode cX5_mayClash 34 = .ok (.invokevirtual 62, 3) := by decide +kernel
theorem dX5_mayClash_37 : decode cX5_mayClash 37 = .ok (.ifCond .eq 24, 3) := by decide +kernel
theorem dX5_mayClash_40 : decode cX5_mayClash 40 = .ok (.aload_n 0, 1) := by decide +kernel
theorem dX5_mayClash_41 : decode cX5_mayClash 41 = .ok (.iload_n 1, 1) := by decide +kernel
theorem dX5_mayClash_42 : decode cX5_mayClash 42 = .ok (.iload 4, 2) := by decide +kernel
theorem dX5_mayClash_44 : decode cX5_mayClash 44 = .ok (.iconst 4, 1) := by decide +kernel
theorem dX5_mayClash_45 : decode cX5_mayClash 45 = .ok (.idiv, 1) := by decide +kernel
theorem dX5_mayClash_46 : decode cX5_mayClash 46 = .ok (.iload_n 2, 1) := by decide +kernel
theorem dX5_mayClash_47 : decode cX5_mayClash 47 = .ok (.iload 4, 2) := by decide +kernel
theorem dX5_mayClash_49 : decode cX5_mayClash 49 = .ok (.iconst 4, 1) := by decide +kernel
theorem dX5_mayClash_50 : decode cX5_mayClash 50 = .ok (.irem, 1) := by decide +kernel
theorem dX5_mayClash_51 : decode cX5_mayClash 51 = .ok (.invokevirtual 76, 3) := by decide +kernel
theorem dX5_mayClash_54 : decode cX5_mayClash 54 = .ok (.ifCond .le 7, 3) := by decide +kernel
theorem dX5_mayClash_57 : decode cX5_mayClash 57 = .ok (.iconst 1, 1) := by decide +kernel
theorem dX5_mayClash_58 : decode cX5_mayClash 58 = .ok (.goto 4, 3) := by decide +kernel
theorem dX5_mayClash_61 : decode cX5_mayClash 61 = .ok (.iconst 0, 1) := by decide +kernel
theorem dX5_mayClash_62 : decode cX5_mayClash 62 = .ok (.istore_n 3, 1) := by decide +kernel
theorem dX5_mayClash_63 : decode cX5_mayClash 63 = .ok (.iinc 4 1, 3) := by decide +kernel
theorem dX5_mayClash_66 : decode cX5_mayClash 66 = .ok (.goto (-61), 3) := by decide +kernel
theorem dX5_mayClash_69 : decode cX5_mayClash 69 = .ok (.iload_n 3, 1) := by decide +kernel
theorem dX5_mayClash_70 : decode cX5_mayClash 70 = .ok (.ireturn, 1) := by decide +kernel
set_option maxRecDepth 20000 in
theorem ggX5_clashing_X5_mayClash : GoodIn wsX5_clashing wsX5_mayClash := goodIn_r _ [6, 7, 8, 9, 5, 10, 1, 11, 12, 13, 14, 15, 16, 17, 18, 19, 20, 21, 22, 23, 24, 25, 26, 27, 28, 29, 30, 31, 32, 33, 34, 35, 36, 37, 38, 39, 40, 41, 42, 43, 44, 45, 46, 47, 48, 49, 50, 51, 52, 53, 54, 55, 56, 57, 58, 59, 60, 61, 62, 63] (by decide +kernel) (by decide +kernel)
set_option maxRecDepth 20000 in
theorem gX5_clashing_X5_mayClash : GoodIn wsX5_clashing (wsV RX5 194 RX5 yX5_mayClash wsX5_mayClash) := goodIn_app (goodIn_of _ (by decide +kernel)) ggX5_clashing_X5_mayClash
theorem dX5_clashing_0 : decode cX5_clashing 0 = .ok (.iconst 0, 1) := by decide +kernel
theorem dX5_clashing_1 : decode cX5_clashing 1 = .ok (.istore_n 1, 1) := by decide +kernel
theorem dX5_clashing_2 : decode cX5_clashing 2 = .ok (.iconst 0, 1) := by decide +kernel
theorem dX5_clashing_3 : decode cX5_clashing 3 = .ok (.istore_n 2, 1) := by decide +kernel
theorem dX5_clashing_4 : decode cX5_clashing 4 = .ok (.iload_n 2, 1) := by decide +kernel
theorem dX5_clashing_5 : decode cX5_clashing 5 = .ok (.aload_n 0, 1) := by decide +kernel
theorem dX5_clashing_6 : decode cX5_clashing 6 = .ok (.getfield 7, 3) := by decide +kernel
theorem dX5_clashing_9 : decode cX5_clashing 9 = .ok (.iconst 0, 1) := by decide +kernel
theorem dX5_clashing_10 : decode cX5_clashing 10 = .ok (.iaload, 1) := by decide +kernel
theorem dX5_clashing_11 : decode cX5_clashing 11 = .ok (.if_icmp .ge 46, 3) := by decide +kernel
theorem dX5_clashing_14 : decode cX5_clashing 14 = .ok (.iload_n 2, 1) := by decide +kernel
theorem dX5_clashing_15 : decode cX5_clashing 15 = .ok (.iconst 1, 1) := by decide +kernel
theorem dX5_clashing_16 : decode cX5_clashing 16 = .ok (.iadd, 1) := by decide +kernel
theorem dX5_clashing_17 : decode cX5_clashing 17 = .ok (.istore_n 3, 1) := by decide +kernel
theorem dX5_clashing_18 : decode cX5_clashing 18 = .ok (.iload_n 3, 1) := by decide +kernel
theorem dX5_clashing_19 : decode cX5_clashing 19 = .ok (.aload_n 0, 1) := by decide +kernel
theorem dX5_clashing_20 : decode cX5_clashing 20 = .ok (.getfield 7, 3) := by decide +kernel
theorem dX5_clashing_23 : decode cX5_clashing 23 = .ok (.iconst 0, 1) := by decide +kernel
theorem dX5_clashing_24 : decode cX5_clashing 24 = .ok (.iaload, 1) := by decide +kernel
theorem dX5_clashing_25 : decode cX5_clashing 25 = .ok (.if_icmp .ge 26, 3) := by decide +kernel
theorem dX5_clashing_28 : decode cX5_clashing 28 = .ok (.iload_n 1, 1) := by decide +kernel
theorem dX5_clashing_29 : decode cX5_clashing 29 = .ok (.aload_n 0, 1) := by decide +kernel
theorem dX5_clashing_30 : decode cX5_clashing 30 = .ok (.iload_n 2, 1) := by decide +kernel
theorem dX5_clashing_31 : decode cX5_clashing 31 = .ok (.iload_n 3, 1) := by decide +kernel
theorem dX5_clashing_32 : decode cX5_clashing 32 = .ok (.invokevirtual 194, 3) := by decide +kernel
theorem dX5_clashing_35 : decode cX5_clashing 35 = .ok (.ifCond .eq 7, 3) := by decide +kernel
theorem dX5_clashing_38 : decode cX5_clashing 38 = .ok (.iconst 1, 1) := by decide +kernel
theorem dX5_clashing_39 : decode cX5_clashing 39 = .ok (.goto 4, 3) := by decide +kernel
theorem dX5_clashing_42 : decode cX5_clashing 42 = .ok (.iconst 0, 1) := by decide +kernel
theorem dX5_clashing_43 : decode cX5_clashing 43 = .ok (.iadd, 1) := by decide +kernel
theorem dX5_clashing_44 : decode cX5_clashing 44 = .ok (.istore_n 1, 1) := by decide +kernel
theorem dX5_clashing_45 : decode cX5_clashing 45 = .ok (.iinc 3 1, 3) := by decide +kernel
theorem dX5_clashing_48 : decode cX5_clashing 48 = .ok (.goto (-30), 3) := by decide +kernel
theorem dX5_clashing_51 : decode cX5_clashing 51 = .ok (.iinc 2 1, 3) := by decide +kernel
theorem dX5_clashing_54 : decode cX5_clashing 54 = .ok (.goto (-50), 3) := by decide +kernel
theorem dX5_clashing_57 : decode cX5_clashing 57 = .ok (.iload_n 1, 1) := by decide +kernel
theorem dX5_clashing_58 : decode cX5_clashing 58 = .ok (.ireturn, 1) := by decide +kernel
set_option maxRecDepth 20000 in
theorem ggX5_crossed_X5_cornerOf : GoodIn wsX5_crossed wsX5_cornerOf := goodIn_r _ [6, 7, 8, 9, 5, 10, 1, 34, 35, 36, 37, 38, 39, 40, 41, 42, 43, 44, 45, 46, 47, 48, 49] (by decide +kernel) (by decide +kernel)
set_option maxRecDepth 20000 in
theorem gX5_crossed_X5_cornerOf : GoodIn wsX5_crossed (wsV RX5 72 RX5 yX5_cornerOf wsX5_cornerOf) := goodIn_app (goodIn_of _ (by decide +kernel)) ggX5_crossed_X5_cornerOf
set_option maxRecDepth 20000 in
theorem ggX5_crossed_X5_crosses : GoodIn wsX5_crossed wsX5_crosses := goodIn_r _ [14, 1, 7, 8, 9, 5, 10, 2, 3, 4, 6, 15, 16, 17, 18, 19, 20, 21, 22, 23, 24, 25, 26, 27, 28, 29, 30, 31, 32, 33, 34, 35, 36, 37, 38, 39, 40, 41, 42, 43, 44, 45, 46, 47, 48, 49] (by decide +kernel) (by decide +kernel)
set_option maxRecDepth 20000 in
theorem gX5_crossed_X5_crosses : GoodIn wsX5_crossed (wsV RX5 185 RX5 yX5_crosses wsX5_crosses) := goodIn_app (goodIn_of _ (by decide +kernel)) ggX5_crossed_X5_crosses
theorem dX5_crossed_0 : decode cX5_crossed 0 = .ok (.iconst 0, 1) := by decide +kernel
theorem dX5_crossed_1 : decode cX5_crossed 1 = .ok (.istore_n 1, 1) := by decide +kernel
theorem dX5_crossed_2 : decode cX5_crossed 2 = .ok (.iconst 0, 1) := by decide +kernel
theorem dX5_crossed_3 : decode cX5_crossed 3 = .ok (.istore_n 2, 1) := by decide +kernel
theorem dX5_crossed_4 : decode cX5_crossed 4 = .ok (.iload_n 2, 1) := by decide +kernel
theorem dX5_crossed_5 : decode cX5_crossed 5 = .ok (.aload_n 0, 1) := by decide +kernel
theorem dX5_crossed_6 : decode cX5_crossed 6 = .ok (.getfield 7, 3) := by decide +kernel
theorem dX5_crossed_9 : decode cX5_crossed 9 = .ok (.iconst 0, 1) := by decide +kernel
theorem dX5_crossed_10 : decode cX5_crossed 10 = .ok (.iaload, 1) := by decide +kernel
theorem dX5_crossed_11 : decode cX5_crossed 11 = .ok (.if_icmp .ge 30, 3) := by decide +kernel
theorem dX5_crossed_14 : decode cX5_crossed 14 = .ok (.iload_n 1, 1) := by decide +kernel
theorem dX5_crossed_15 : decode cX5_crossed 15 = .ok (.aload_n 0, 1) := by decide +kernel
theorem dX5_crossed_16 : decode cX5_crossed 16 = .ok (.iload_n 2, 1) := by decide +kernel
theorem dX5_crossed_17 : decode cX5_crossed 17 = .ok (.invokevirtual 72, 3) := by decide +kernel
theorem dX5_crossed_20 : decode cX5_crossed 20 = .ok (.iconst (-1), 1) := by decide +kernel
theorem dX5_crossed_21 : decode cX5_crossed 21 = .ok (.if_icmp .ne 11, 3) := by decide +kernel
theorem dX5_crossed_24 : decode cX5_crossed 24 = .ok (.aload_n 0, 1) := by decide +kernel
theorem dX5_crossed_25 : decode cX5_crossed 25 = .ok (.iload_n 2, 1) := by decide +kernel
theorem dX5_crossed_26 : decode cX5_crossed 26 = .ok (.invokevirtual 185, 3) := by decide +kernel
theorem dX5_crossed_29 : decode cX5_crossed 29 = .ok (.goto 4, 3) := by decide +kernel
theorem dX5_crossed_32 : decode cX5_crossed 32 = .ok (.iconst 0, 1) := by decide +kernel
theorem dX5_crossed_33 : decode cX5_crossed 33 = .ok (.iadd, 1) := by decide +kernel
theorem dX5_crossed_34 : decode cX5_crossed 34 = .ok (.istore_n 1, 1) := by decide +kernel
theorem dX5_crossed_35 : decode cX5_crossed 35 = .ok (.iinc 2 1, 3) := by decide +kernel
theorem dX5_crossed_38 : decode cX5_crossed 38 = .ok (.goto (-34), 3) := by decide +kernel
theorem dX5_crossed_41 : decode cX5_crossed 41 = .ok (.iload_n 1, 1) := by decide +kernel
theorem dX5_crossed_42 : decode cX5_crossed 42 = .ok (.ireturn, 1) := by decide +kernel
set_option maxRecDepth 20000 in
theorem ggX5_counts_X5_standing : GoodIn wsX5_counts wsX5_standing := goodIn_r _ [7, 1, 8, 9, 10, 6, 11, 12, 13, 14, 15, 85, 86, 87, 88, 89, 90, 91, 92, 93, 94, 95, 96, 97, 98, 99, 100] (by decide +kernel) (by decide +kernel)
set_option maxRecDepth 20000 in
theorem gX5_counts_X5_standing : GoodIn wsX5_counts (wsV RX5 150 RX5 yX5_standing wsX5_standing) := goodIn_app (goodIn_of _ (by decide +kernel)) ggX5_counts_X5_standing
set_option maxRecDepth 20000 in
theorem ggX5_counts_X5_weightOf : GoodIn wsX5_counts wsX5_weightOf := goodIn_r _ [19, 1, 8, 9, 10, 6, 11, 12, 13, 14, 15, 85, 86, 87, 88, 89, 90, 91, 92, 93, 94, 95, 96, 97, 98, 99, 100] (by decide +kernel) (by decide +kernel)
set_option maxRecDepth 20000 in
theorem gX5_counts_X5_weightOf : GoodIn wsX5_counts (wsV RX5 197 RX5 yX5_weightOf wsX5_weightOf) := goodIn_app (goodIn_of _ (by decide +kernel)) ggX5_counts_X5_weightOf
set_option maxRecDepth 20000 in
theorem ggX5_counts_X5_squares : GoodIn wsX5_counts wsX5_squares := goodIn_r _ [23, 1, 8, 9, 10, 6, 11, 12, 13, 14, 15, 85, 86, 87, 88, 89, 90, 91, 92, 93, 94, 95, 96, 97, 98, 99, 100] (by decide +kernel) (by decide +kernel)
set_option maxRecDepth 20000 in
theorem gX5_counts_X5_squares : GoodIn wsX5_counts (wsV RX5 201 RX5 yX5_squares wsX5_squares) := goodIn_app (goodIn_of _ (by decide +kernel)) ggX5_counts_X5_squares
set_option maxRecDepth 20000 in
theorem ggX5_counts_X5_closedMany : GoodIn wsX5_counts wsX5_closedMany := goodIn_r _ [27, 1, 28, 29, 30, 6, 31, 32, 33, 34, 35, 36, 37, 38, 39, 12, 13, 14, 15, 40, 41, 42, 43, 44, 45, 46, 47, 48, 49, 50, 51, 52, 53, 54, 55, 56, 57, 58, 85, 86, 87, 88, 89, 90, 91, 92, 93, 94, 95, 96, 97, 98, 99, 100] (by decide +kernel) (by decide +kernel)
set_option maxRecDepth 20000 in
theorem gX5_counts_X5_closedMany : GoodIn wsX5_counts (wsV RX5 204 RX5 yX5_closedMany wsX5_closedMany) := goodIn_app (goodIn_of _ (by decide +kernel)) ggX5_counts_X5_closedMany
set_option maxRecDepth 20000 in
theorem ggX5_counts_X5_clashing : GoodIn wsX5_counts wsX5_clashing := goodIn_r _ [62, 1, 63, 64, 65, 6, 66, 32, 33, 34, 35, 36, 37, 38, 39, 12, 13, 14, 15, 40, 41, 42, 43, 44, 45, 46, 47, 48, 49, 50, 51, 52, 53, 54, 55, 56, 57, 58, 67, 68, 69, 70, 71, 72, 73, 74, 75, 76, 85, 86, 87, 88, 89, 90, 91, 92, 93, 94, 95, 96, 97, 98, 99, 100] (by decide +kernel) (by decide +kernel)
set_option maxRecDepth 20000 in
theorem gX5_counts_X5_clashing : GoodIn wsX5_counts (wsV RX5 207 RX5 yX5_clashing wsX5_clashing) := goodIn_app (goodIn_of _ (by decide +kernel)) ggX5_counts_X5_clashing
set_option maxRecDepth 20000 in
theorem ggX5_counts_X5_crossed : GoodIn wsX5_counts wsX5_crossed := goodIn_r _ [80, 1, 8, 9, 10, 6, 11, 12, 13, 14, 15, 81, 82, 83, 84, 44, 45, 46, 47, 48, 49, 50, 51, 56, 57, 58, 40, 41, 42, 43, 36, 37, 38, 39, 85, 86, 87, 88, 89, 90, 91, 92, 93, 94, 95, 96, 97, 98, 99, 100] (by decide +kernel) (by decide +kernel)
set_option maxRecDepth 20000 in
theorem gX5_counts_X5_crossed : GoodIn wsX5_counts (wsV RX5 210 RX5 yX5_crossed wsX5_crossed) := goodIn_app (goodIn_of _ (by decide +kernel)) ggX5_counts_X5_crossed
theorem dX5_counts_0 : decode cX5_counts 0 = .ok (.iload_n 1, 1) := by decide +kernel
theorem dX5_counts_1 : decode cX5_counts 1 = .ok (.tableswitch 94 0 7 #[47, 54, 59, 59, 74, 79, 84, 89], 47) := by decide +kernel
theorem dX5_counts_48 : decode cX5_counts 48 = .ok (.aload_n 0, 1) := by decide +kernel
theorem dX5_counts_49 : decode cX5_counts 49 = .ok (.getfield 7, 3) := by decide +kernel
theorem dX5_counts_52 : decode cX5_counts 52 = .ok (.iconst 0, 1) := by decide +kernel
theorem dX5_counts_53 : decode cX5_counts 53 = .ok (.iaload, 1) := by decide +kernel
theorem dX5_counts_54 : decode cX5_counts 54 = .ok (.ireturn, 1) := by decide +kernel
theorem dX5_counts_55 : decode cX5_counts 55 = .ok (.aload_n 0, 1) := by decide +kernel
theorem dX5_counts_56 : decode cX5_counts 56 = .ok (.invokevirtual 150, 3) := by decide +kernel
theorem dX5_counts_59 : decode cX5_counts 59 = .ok (.ireturn, 1) := by decide +kernel
theorem dX5_counts_60 : decode cX5_counts 60 = .ok (.aload_n 0, 1) := by decide +kernel
theorem dX5_counts_61 : decode cX5_counts 61 = .ok (.iload_n 1, 1) := by decide +kernel
theorem dX5_counts_62 : decode cX5_counts 62 = .ok (.iconst 2, 1) := by decide +kernel
theorem dX5_counts_63 : decode cX5_counts 63 = .ok (.if_icmp .ne 7, 3) := by decide +kernel
theorem dX5_counts_66 : decode cX5_counts 66 = .ok (.iconst 1, 1) := by decide +kernel
theorem dX5_counts_67 : decode cX5_counts 67 = .ok (.goto 4, 3) := by decide +kernel
theorem dX5_counts_70 : decode cX5_counts 70 = .ok (.iconst 0, 1) := by decide +kernel
theorem dX5_counts_71 : decode cX5_counts 71 = .ok (.invokevirtual 197, 3) := by decide +kernel
theorem dX5_counts_74 : decode cX5_counts 74 = .ok (.ireturn, 1) := by decide +kernel
theorem dX5_counts_75 : decode cX5_counts 75 = .ok (.aload_n 0, 1) := by decide +kernel
theorem dX5_counts_76 : decode cX5_counts 76 = .ok (.invokevirtual 201, 3) := by decide +kernel
theorem dX5_counts_79 : decode cX5_counts 79 = .ok (.ireturn, 1) := by decide +kernel
theorem dX5_counts_80 : decode cX5_counts 80 = .ok (.aload_n 0, 1) := by decide +kernel
theorem dX5_counts_81 : decode cX5_counts 81 = .ok (.invokevirtual 204, 3) := by decide +kernel
theorem dX5_counts_84 : decode cX5_counts 84 = .ok (.ireturn, 1) := by decide +kernel
theorem dX5_counts_85 : decode cX5_counts 85 = .ok (.aload_n 0, 1) := by decide +kernel
theorem dX5_counts_86 : decode cX5_counts 86 = .ok (.invokevirtual 207, 3) := by decide +kernel
theorem dX5_counts_89 : decode cX5_counts 89 = .ok (.ireturn, 1) := by decide +kernel
theorem dX5_counts_90 : decode cX5_counts 90 = .ok (.aload_n 0, 1) := by decide +kernel
theorem dX5_counts_91 : decode cX5_counts 91 = .ok (.invokevirtual 210, 3) := by decide +kernel
theorem dX5_counts_94 : decode cX5_counts 94 = .ok (.ireturn, 1) := by decide +kernel
theorem dX5_counts_95 : decode cX5_counts 95 = .ok (.aload_n 0, 1) := by decide +kernel
theorem dX5_counts_96 : decode cX5_counts 96 = .ok (.getfield 43, 3) := by decide +kernel
theorem dX5_counts_99 : decode cX5_counts 99 = .ok (.ireturn, 1) := by decide +kernel
set_option maxRecDepth 20000 in
theorem ggX5_count_X5_in : GoodIn wsX5_count wsX5_in := goodIn_r _ [5] (by decide +kernel) (by decide +kernel)
set_option maxRecDepth 20000 in
theorem gX5_count_X5_in : GoodIn wsX5_count (va_wsS RX5 35 yX5_in wsX5_in) := goodIn_app (goodIn_of _ (by decide +kernel)) ggX5_count_X5_in
set_option maxRecDepth 20000 in
theorem ggX5_count_X5_counts : GoodIn wsX5_count wsX5_counts := goodIn_r _ [9, 10, 11, 12, 13, 14, 4, 15, 16, 17, 18, 19, 20, 21, 22, 23, 24, 25, 26, 27, 28, 29, 30, 31, 32, 33, 34, 35, 36, 37, 38, 39, 40, 41, 42, 43, 44, 45, 46, 47, 48, 49, 50, 51, 52, 53, 54, 55, 56, 57, 58, 59, 60, 61, 62, 63, 2, 3, 5, 64, 65, 66, 67, 68, 69, 70, 71, 72, 73, 74, 75, 76, 77, 78, 79, 80, 81, 82, 83, 84, 85, 86, 87, 88, 89, 94, 95, 96, 97, 98, 99, 100, 101, 102, 103, 104, 105, 106, 107, 108, 109] (by decide +kernel) (by decide +kernel)
set_option maxRecDepth 20000 in
theorem gX5_count_X5_counts : GoodIn wsX5_count (wsV RX5 213 RX5 yX5_counts wsX5_counts) := goodIn_app (goodIn_of _ (by decide +kernel)) ggX5_count_X5_counts
set_option maxRecDepth 20000 in
theorem ggX5_count_X5_fails : GoodIn wsX5_count wsX5_fails := goodIn_r _ [93, 1, 94, 95, 96, 97, 98, 99, 100, 101, 102, 103, 104, 105, 106, 107, 108, 109] (by decide +kernel) (by decide +kernel)
set_option maxRecDepth 20000 in
theorem gX5_count_X5_fails : GoodIn wsX5_count (wsV RX5 132 RX5 yX5_fails wsX5_fails) := goodIn_app (goodIn_of _ (by decide +kernel)) ggX5_count_X5_fails
theorem dX5_count_0 : decode cX5_count 0 = .ok (.aload_n 0, 1) := by decide +kernel
theorem dX5_count_1 : decode cX5_count 1 = .ok (.iconst 0, 1) := by decide +kernel
theorem dX5_count_2 : decode cX5_count 2 = .ok (.putfield 31, 3) := by decide +kernel
theorem dX5_count_5 : decode cX5_count 5 = .ok (.iload_n 1, 1) := by decide +kernel
theorem dX5_count_6 : decode cX5_count 6 = .ok (.iconst 0, 1) := by decide +kernel
theorem dX5_count_7 : decode cX5_count 7 = .ok (.bipush 8, 2) := by decide +kernel
theorem dX5_count_9 : decode cX5_count 9 = .ok (.invokestatic 35, 3) := by decide +kernel
theorem dX5_count_12 : decode cX5_count 12 = .ok (.ifCond .eq 11, 3) := by decide +kernel
theorem dX5_count_15 : decode cX5_count 15 = .ok (.aload_n 0, 1) := by decide +kernel
theorem dX5_count_16 : decode cX5_count 16 = .ok (.iload_n 1, 1) := by decide +kernel
theorem dX5_count_17 : decode cX5_count 17 = .ok (.invokevirtual 213, 3) := by decide +kernel
theorem dX5_count_20 : decode cX5_count 20 = .ok (.goto 8, 3) := by decide +kernel
theorem dX5_count_23 : decode cX5_count 23 = .ok (.aload_n 0, 1) := by decide +kernel
theorem dX5_count_24 : decode cX5_count 24 = .ok (.iconst 1, 1) := by decide +kernel
theorem dX5_count_25 : decode cX5_count 25 = .ok (.invokevirtual 132, 3) := by decide +kernel
theorem dX5_count_28 : decode cX5_count 28 = .ok (.ireturn, 1) := by decide +kernel
set_option maxRecDepth 20000 in
theorem ggX5_bestOf_X5_heaviest : GoodIn wsX5_bestOf wsX5_heaviest := goodIn_r _ [6, 7, 8, 9, 10, 11, 5, 12, 13, 14, 15, 16, 17, 18, 19, 20, 21, 22, 23, 24, 25, 26, 27, 28, 29, 30, 31, 32, 33, 34, 35, 36, 37, 38, 39, 40, 41, 42, 43, 44, 45, 46, 47, 48, 49, 50, 51, 52, 53, 54, 1, 55, 56, 57, 58, 59, 60, 61, 62, 63, 64, 65, 66, 67, 68, 69, 70, 71, 72, 73, 74, 75, 76, 77, 78, 79, 80, 81, 82, 83, 84, 85, 86, 87, 88, 89, 90, 91, 92, 93, 94, 95, 96, 97, 98, 99, 100] (by decide +kernel) (by decide +kernel)
set_option maxRecDepth 20000 in
theorem gX5_bestOf_X5_heaviest : GoodIn wsX5_bestOf (wsV RX5 141 RX5 yX5_heaviest wsX5_heaviest) := goodIn_app (goodIn_of _ (by decide +kernel)) ggX5_bestOf_X5_heaviest
theorem dX5_bestOf_0 : decode cX5_bestOf 0 = .ok (.aload_n 0, 1) := by decide +kernel
theorem dX5_bestOf_1 : decode cX5_bestOf 1 = .ok (.iconst (-1), 1) := by decide +kernel
theorem dX5_bestOf_2 : decode cX5_bestOf 2 = .ok (.invokevirtual 141, 3) := by decide +kernel
theorem dX5_bestOf_5 : decode cX5_bestOf 5 = .ok (.pop, 1) := by decide +kernel
theorem dX5_bestOf_6 : decode cX5_bestOf 6 = .ok (.aload_n 0, 1) := by decide +kernel
theorem dX5_bestOf_7 : decode cX5_bestOf 7 = .ok (.getfield 25, 3) := by decide +kernel
theorem dX5_bestOf_10 : decode cX5_bestOf 10 = .ok (.iload_n 1, 1) := by decide +kernel
theorem dX5_bestOf_11 : decode cX5_bestOf 11 = .ok (.iaload, 1) := by decide +kernel
theorem dX5_bestOf_12 : decode cX5_bestOf 12 = .ok (.iconst 4, 1) := by decide +kernel
theorem dX5_bestOf_13 : decode cX5_bestOf 13 = .ok (.if_icmp .ne 7, 3) := by decide +kernel
theorem dX5_bestOf_16 : decode cX5_bestOf 16 = .ok (.iconst (-1), 1) := by decide +kernel
theorem dX5_bestOf_17 : decode cX5_bestOf 17 = .ok (.goto 9, 3) := by decide +kernel
theorem dX5_bestOf_20 : decode cX5_bestOf 20 = .ok (.aload_n 0, 1) := by decide +kernel
theorem dX5_bestOf_21 : decode cX5_bestOf 21 = .ok (.getfield 25, 3) := by decide +kernel
theorem dX5_bestOf_24 : decode cX5_bestOf 24 = .ok (.iload_n 1, 1) := by decide +kernel
theorem dX5_bestOf_25 : decode cX5_bestOf 25 = .ok (.iaload, 1) := by decide +kernel
theorem dX5_bestOf_26 : decode cX5_bestOf 26 = .ok (.ireturn, 1) := by decide +kernel
set_option maxRecDepth 20000 in
theorem ggX5_best_X5_isPoint : GoodIn wsX5_best wsX5_isPoint := goodIn_r _ [6, 7, 8, 9, 5, 10, 98, 99, 100, 101, 102, 103, 104, 105, 106, 107, 108, 109, 110, 111, 112, 113] (by decide +kernel) (by decide +kernel)
set_option maxRecDepth 20000 in
theorem gX5_best_X5_isPoint : GoodIn wsX5_best (wsV RX5 129 RX5 yX5_isPoint wsX5_isPoint) := goodIn_app (goodIn_of _ (by decide +kernel)) ggX5_best_X5_isPoint
set_option maxRecDepth 20000 in
theorem ggX5_best_X5_bestOf : GoodIn wsX5_best wsX5_bestOf := goodIn_r _ [14, 15, 16, 17, 18, 5, 19, 7, 20, 21, 22, 23, 24, 25, 26, 27, 28, 29, 30, 31, 32, 33, 34, 35, 36, 37, 38, 39, 40, 41, 42, 43, 44, 45, 46, 47, 48, 49, 50, 51, 52, 8, 9, 10, 53, 54, 55, 56, 57, 58, 59, 60, 61, 62, 63, 64, 65, 66, 67, 68, 69, 70, 71, 72, 73, 74, 75, 76, 77, 78, 79, 80, 81, 82, 83, 84, 85, 86, 87, 88, 89, 90, 91, 92, 93, 98, 99, 100, 101, 102, 103, 104, 105, 106, 107, 108, 109, 110, 111, 112, 113] (by decide +kernel) (by decide +kernel)
set_option maxRecDepth 20000 in
theorem gX5_best_X5_bestOf : GoodIn wsX5_best (wsV RX5 216 RX5 yX5_bestOf wsX5_bestOf) := goodIn_app (goodIn_of _ (by decide +kernel)) ggX5_best_X5_bestOf
set_option maxRecDepth 20000 in
theorem ggX5_best_X5_fails : GoodIn wsX5_best wsX5_fails := goodIn_r _ [97, 1, 98, 99, 100, 101, 102, 103, 104, 105, 106, 107, 108, 109, 110, 111, 112, 113] (by decide +kernel) (by decide +kernel)
set_option maxRecDepth 20000 in
theorem gX5_best_X5_fails : GoodIn wsX5_best (wsV RX5 132 RX5 yX5_fails wsX5_fails) := goodIn_app (goodIn_of _ (by decide +kernel)) ggX5_best_X5_fails
theorem dX5_best_0 : decode cX5_best 0 = .ok (.aload_n 0, 1) := by decide +kernel
theorem dX5_best_1 : decode cX5_best 1 = .ok (.iconst 0, 1) := by decide +kernel
theorem dX5_best_2 : decode cX5_best 2 = .ok (.putfield 31, 3) := by decide +kernel
theorem dX5_best_5 : decode cX5_best 5 = .ok (.aload_n 0, 1) := by decide +kernel
theorem dX5_best_6 : decode cX5_best 6 = .ok (.iload_n 1, 1) := by decide +kernel
theorem dX5_best_7 : decode cX5_best 7 = .ok (.invokevirtual 129, 3) := by decide +kernel
theorem dX5_best_10 : decode cX5_best 10 = .ok (.ifCond .eq 11, 3) := by decide +kernel
theorem dX5_best_13 : decode cX5_best 13 = .ok (.aload_n 0, 1) := by decide +kernel
theorem dX5_best_14 : decode cX5_best 14 = .ok (.iload_n 1, 1) := by decide +kernel
theorem dX5_best_15 : decode cX5_best 15 = .ok (.invokevirtual 216, 3) := by decide +kernel
theorem dX5_best_18 : decode cX5_best 18 = .ok (.goto 8, 3) := by decide +kernel
theorem dX5_best_21 : decode cX5_best 21 = .ok (.aload_n 0, 1) := by decide +kernel
theorem dX5_best_22 : decode cX5_best 22 = .ok (.iconst 1, 1) := by decide +kernel
theorem dX5_best_23 : decode cX5_best 23 = .ok (.invokevirtual 132, 3) := by decide +kernel
theorem dX5_best_26 : decode cX5_best 26 = .ok (.ireturn, 1) := by decide +kernel
set_option maxRecDepth 20000 in
theorem ggX5_bestWeight_X5_isPoint : GoodIn wsX5_bestWeight wsX5_isPoint := goodIn_r _ [6, 7, 8, 9, 5, 10, 94, 95, 96, 97, 98, 99, 100, 101, 102, 103, 104, 105, 106, 107, 108, 109] (by decide +kernel) (by decide +kernel)
set_option maxRecDepth 20000 in
theorem gX5_bestWeight_X5_isPoint : GoodIn wsX5_bestWeight (wsV RX5 129 RX5 yX5_isPoint wsX5_isPoint) := goodIn_app (goodIn_of _ (by decide +kernel)) ggX5_bestWeight_X5_isPoint
set_option maxRecDepth 20000 in
theorem ggX5_bestWeight_X5_heaviest : GoodIn wsX5_bestWeight wsX5_heaviest := goodIn_r _ [14, 7, 15, 16, 17, 18, 5, 19, 20, 21, 22, 23, 24, 25, 26, 27, 28, 29, 30, 31, 32, 33, 34, 35, 36, 37, 38, 39, 40, 41, 42, 43, 44, 45, 46, 47, 8, 9, 10, 48, 49, 50, 51, 52, 53, 54, 55, 56, 57, 58, 59, 60, 61, 62, 63, 64, 65, 66, 67, 68, 69, 70, 71, 72, 73, 74, 75, 76, 77, 78, 79, 80, 81, 82, 83, 84, 85, 86, 87, 88, 89, 94, 95, 96, 97, 98, 99, 100, 101, 102, 103, 104, 105, 106, 107, 108, 109] (by decide +kernel) (by decide +kernel)
set_option maxRecDepth 20000 in
theorem gX5_bestWeight_X5_heaviest : GoodIn wsX5_bestWeight (wsV RX5 141 RX5 yX5_heaviest wsX5_heaviest) := goodIn_app (goodIn_of _ (by decide +kernel)) ggX5_bestWeight_X5_heaviest
set_option maxRecDepth 20000 in
theorem ggX5_bestWeight_X5_fails : GoodIn wsX5_bestWeight wsX5_fails := goodIn_r _ [93, 1, 94, 95, 96, 97, 98, 99, 100, 101, 102, 103, 104, 105, 106, 107, 108, 109] (by decide +kernel) (by decide +kernel)
set_option maxRecDepth 20000 in
theorem gX5_bestWeight_X5_fails : GoodIn wsX5_bestWeight (wsV RX5 132 RX5 yX5_fails wsX5_fails) := goodIn_app (goodIn_of _ (by decide +kernel)) ggX5_bestWeight_X5_fails
theorem dX5_bestWeight_0 : decode cX5_bestWeight 0 = .ok (.aload_n 0, 1) := by decide +kernel
theorem dX5_bestWeight_1 : decode cX5_bestWeight 1 = .ok (.iconst 0, 1) := by decide +kernel
theorem dX5_bestWeight_2 : decode cX5_bestWeight 2 = .ok (.putfield 31, 3) := by decide +kernel
theorem dX5_bestWeight_5 : decode cX5_bestWeight 5 = .ok (.iload_n 1, 1) := by decide +kernel
theorem dX5_bestWeight_6 : decode cX5_bestWeight 6 = .ok (.iconst (-1), 1) := by decide +kernel
theorem dX5_bestWeight_7 : decode cX5_bestWeight 7 = .ok (.if_icmp .eq 11, 3) := by decide +kernel
theorem dX5_bestWeight_10 : decode cX5_bestWeight 10 = .ok (.aload_n 0, 1) := by decide +kernel
theorem dX5_bestWeight_11 : decode cX5_bestWeight 11 = .ok (.iload_n 1, 1) := by decide +kernel
theorem dX5_bestWeight_12 : decode cX5_bestWeight 12 = .ok (.invokevirtual 129, 3) := by decide +kernel
theorem dX5_bestWeight_15 : decode cX5_bestWeight 15 = .ok (.ifCond .eq 11, 3) := by decide +kernel
theorem dX5_bestWeight_18 : decode cX5_bestWeight 18 = .ok (.aload_n 0, 1) := by decide +kernel
theorem dX5_bestWeight_19 : decode cX5_bestWeight 19 = .ok (.iload_n 1, 1) := by decide +kernel
theorem dX5_bestWeight_20 : decode cX5_bestWeight 20 = .ok (.invokevirtual 141, 3) := by decide +kernel
theorem dX5_bestWeight_23 : decode cX5_bestWeight 23 = .ok (.goto 8, 3) := by decide +kernel
theorem dX5_bestWeight_26 : decode cX5_bestWeight 26 = .ok (.aload_n 0, 1) := by decide +kernel
theorem dX5_bestWeight_27 : decode cX5_bestWeight 27 = .ok (.iconst 1, 1) := by decide +kernel
theorem dX5_bestWeight_28 : decode cX5_bestWeight 28 = .ok (.invokevirtual 132, 3) := by decide +kernel
theorem dX5_bestWeight_31 : decode cX5_bestWeight 31 = .ok (.ireturn, 1) := by decide +kernel
set_option maxRecDepth 20000 in
theorem ggX5_ifPushed_X5_isPoint : GoodIn wsX5_ifPushed wsX5_isPoint := goodIn_r _ [6, 7, 8, 9, 5, 10, 94, 95, 96, 97, 98, 99, 100, 101, 102, 103, 104, 105, 106, 107, 108, 109] (by decide +kernel) (by decide +kernel)
set_option maxRecDepth 20000 in
theorem gX5_ifPushed_X5_isPoint : GoodIn wsX5_ifPushed (wsV RX5 129 RX5 yX5_isPoint wsX5_isPoint) := goodIn_app (goodIn_of _ (by decide +kernel)) ggX5_ifPushed_X5_isPoint
set_option maxRecDepth 20000 in
theorem ggX5_ifPushed_X5_makesRoom : GoodIn wsX5_ifPushed wsX5_makesRoom := goodIn_r _ [14, 7, 15, 16, 17, 18, 5, 19, 20, 21, 22, 23, 24, 25, 26, 27, 28, 29, 30, 31, 32, 33, 34, 35, 36, 37, 38, 39, 40, 41, 42, 43, 44, 45, 46, 47, 48, 49, 50, 51, 8, 9, 10, 52, 53, 54, 55, 56, 57, 58, 59, 60, 61, 62, 63, 64, 65, 66, 67, 68, 69, 70, 71, 72, 73, 74, 75, 76, 77, 78, 79, 80, 81, 82, 83, 84, 85, 86, 87, 88, 89, 94, 95, 96, 97, 98, 99, 100, 101, 102, 103, 104, 105, 106, 107, 108, 109] (by decide +kernel) (by decide +kernel)
set_option maxRecDepth 20000 in
theorem gX5_ifPushed_X5_makesRoom : GoodIn wsX5_ifPushed (wsV RX5 147 RX5 yX5_makesRoom wsX5_makesRoom) := goodIn_app (goodIn_of _ (by decide +kernel)) ggX5_ifPushed_X5_makesRoom
set_option maxRecDepth 20000 in
theorem ggX5_ifPushed_X5_fails : GoodIn wsX5_ifPushed wsX5_fails := goodIn_r _ [93, 1, 94, 95, 96, 97, 98, 99, 100, 101, 102, 103, 104, 105, 106, 107, 108, 109] (by decide +kernel) (by decide +kernel)
set_option maxRecDepth 20000 in
theorem gX5_ifPushed_X5_fails : GoodIn wsX5_ifPushed (wsV RX5 132 RX5 yX5_fails wsX5_fails) := goodIn_app (goodIn_of _ (by decide +kernel)) ggX5_ifPushed_X5_fails
theorem dX5_ifPushed_0 : decode cX5_ifPushed 0 = .ok (.aload_n 0, 1) := by decide +kernel
theorem dX5_ifPushed_1 : decode cX5_ifPushed 1 = .ok (.iconst 0, 1) := by decide +kernel
theorem dX5_ifPushed_2 : decode cX5_ifPushed 2 = .ok (.putfield 31, 3) := by decide +kernel
theorem dX5_ifPushed_5 : decode cX5_ifPushed 5 = .ok (.aload_n 0, 1) := by decide +kernel
theorem dX5_ifPushed_6 : decode cX5_ifPushed 6 = .ok (.iload_n 1, 1) := by decide +kernel
theorem dX5_ifPushed_7 : decode cX5_ifPushed 7 = .ok (.invokevirtual 129, 3) := by decide +kernel
theorem dX5_ifPushed_10 : decode cX5_ifPushed 10 = .ok (.ifCond .eq 11, 3) := by decide +kernel
theorem dX5_ifPushed_13 : decode cX5_ifPushed 13 = .ok (.aload_n 0, 1) := by decide +kernel
theorem dX5_ifPushed_14 : decode cX5_ifPushed 14 = .ok (.iload_n 1, 1) := by decide +kernel
theorem dX5_ifPushed_15 : decode cX5_ifPushed 15 = .ok (.invokevirtual 147, 3) := by decide +kernel
theorem dX5_ifPushed_18 : decode cX5_ifPushed 18 = .ok (.goto 8, 3) := by decide +kernel
theorem dX5_ifPushed_21 : decode cX5_ifPushed 21 = .ok (.aload_n 0, 1) := by decide +kernel
theorem dX5_ifPushed_22 : decode cX5_ifPushed 22 = .ok (.iconst 1, 1) := by decide +kernel
theorem dX5_ifPushed_23 : decode cX5_ifPushed 23 = .ok (.invokevirtual 132, 3) := by decide +kernel
theorem dX5_ifPushed_26 : decode cX5_ifPushed 26 = .ok (.ireturn, 1) := by decide +kernel
set_option maxRecDepth 20000 in
theorem ggX5_fullPlans_X5_fulls : GoodIn wsX5_fullPlans wsX5_fulls := goodIn_r _ [6, 7, 8, 9, 10, 11, 5, 12, 13, 14, 15, 16, 17, 18, 19, 20, 21, 22, 23, 24, 25, 26, 27, 28, 29, 30, 31, 32, 33, 34, 35, 36, 37, 38, 39, 40, 41, 42, 43, 44, 45, 46, 47, 48, 49, 50, 51, 52, 53, 54, 55, 56, 57, 58, 59, 60, 61, 62, 63, 64, 65, 66, 67, 68, 69, 70, 71, 72, 73, 74, 75, 76, 77, 78, 79, 80, 81, 82, 83, 84, 85, 86, 87, 88, 89, 90, 91, 92, 93, 94, 95, 96, 97, 98, 99, 100, 101] (by decide +kernel) (by decide +kernel)
set_option maxRecDepth 20000 in
theorem gX5_fullPlans_X5_fulls : GoodIn wsX5_fullPlans (wsV RX5 219 RX5 yX5_fulls wsX5_fulls) := goodIn_app (goodIn_of _ (by decide +kernel)) ggX5_fullPlans_X5_fulls
theorem dX5_fullPlans_0 : decode cX5_fullPlans 0 = .ok (.aload_n 0, 1) := by decide +kernel
theorem dX5_fullPlans_1 : decode cX5_fullPlans 1 = .ok (.iconst 0, 1) := by decide +kernel
theorem dX5_fullPlans_2 : decode cX5_fullPlans 2 = .ok (.putfield 31, 3) := by decide +kernel
theorem dX5_fullPlans_5 : decode cX5_fullPlans 5 = .ok (.aload_n 0, 1) := by decide +kernel
theorem dX5_fullPlans_6 : decode cX5_fullPlans 6 = .ok (.invokevirtual 219, 3) := by decide +kernel
theorem dX5_fullPlans_9 : decode cX5_fullPlans 9 = .ok (.ireturn, 1) := by decide +kernel
set_option maxRecDepth 20000 in
theorem ggX5_dear_X5_of : GoodIn wsX5_dear wsX5_of := goodIn_r _ [6, 1, 85, 86, 87, 88, 89, 90, 91, 92, 93, 94, 95, 96, 97, 98, 99, 100] (by decide +kernel) (by decide +kernel)
set_option maxRecDepth 20000 in
theorem gX5_dear_X5_of : GoodIn wsX5_dear (wsV RX5 39 RX5 yX5_of wsX5_of) := goodIn_app (goodIn_of _ (by decide +kernel)) ggX5_dear_X5_of
set_option maxRecDepth 20000 in
theorem ggX5_dear_X5_heaviest : GoodIn wsX5_dear wsX5_heaviest := goodIn_r _ [10, 1, 11, 12, 13, 14, 5, 15, 16, 17, 18, 19, 20, 21, 22, 23, 2, 3, 4, 6, 24, 25, 26, 27, 28, 29, 30, 31, 32, 33, 34, 35, 36, 37, 38, 39, 40, 41, 42, 43, 44, 45, 46, 47, 48, 49, 50, 51, 52, 53, 54, 55, 56, 57, 58, 59, 60, 61, 62, 63, 64, 65, 66, 67, 68, 69, 70, 71, 72, 73, 74, 75, 76, 77, 78, 79, 80, 81, 82, 83, 84, 85, 86, 87, 88, 89, 90, 91, 92, 93, 94, 95, 96, 97, 98, 99, 100] (by decide +kernel) (by decide +kernel)
set_option maxRecDepth 20000 in
theorem gX5_dear_X5_heaviest : GoodIn wsX5_dear (wsV RX5 141 RX5 yX5_heaviest wsX5_heaviest) := goodIn_app (goodIn_of _ (by decide +kernel)) ggX5_dear_X5_heaviest
theorem dX5_dear_0 : decode cX5_dear 0 = .ok (.iconst (-1), 1) := by decide +kernel
theorem dX5_dear_1 : decode cX5_dear 1 = .ok (.istore_n 1, 1) := by decide +kernel
theorem dX5_dear_2 : decode cX5_dear 2 = .ok (.iconst 0, 1) := by decide +kernel
theorem dX5_dear_3 : decode cX5_dear 3 = .ok (.istore_n 2, 1) := by decide +kernel
theorem dX5_dear_4 : decode cX5_dear 4 = .ok (.iconst 0, 1) := by decide +kernel
theorem dX5_dear_5 : decode cX5_dear 5 = .ok (.istore_n 3, 1) := by decide +kernel
theorem dX5_dear_6 : decode cX5_dear 6 = .ok (.iload_n 3, 1) := by decide +kernel
theorem dX5_dear_7 : decode cX5_dear 7 = .ok (.aload_n 0, 1) := by decide +kernel
theorem dX5_dear_8 : decode cX5_dear 8 = .ok (.getfield 7, 3) := by decide +kernel
theorem dX5_dear_11 : decode cX5_dear 11 = .ok (.iconst 0, 1) := by decide +kernel
theorem dX5_dear_12 : decode cX5_dear 12 = .ok (.iaload, 1) := by decide +kernel
theorem dX5_dear_13 : decode cX5_dear 13 = .ok (.if_icmp .ge 48, 3) := by decide +kernel
theorem dX5_dear_16 : decode cX5_dear 16 = .ok (.aload_n 0, 1) := by decide +kernel
theorem dX5_dear_17 : decode cX5_dear 17 = .ok (.iload_n 3, 1) := by decide +kernel
theorem dX5_dear_18 : decode cX5_dear 18 = .ok (.iconst 4, 1) := by decide +kernel
theorem dX5_dear_19 : decode cX5_dear 19 = .ok (.invokevirtual 39, 3) := by decide +kernel
theorem dX5_dear_22 : decode cX5_dear 22 = .ok (.aload_n 0, 1) := by decide +kernel
theorem dX5_dear_23 : decode cX5_dear 23 = .ok (.iload_n 3, 1) := by decide +kernel
theorem dX5_dear_24 : decode cX5_dear 24 = .ok (.invokevirtual 141, 3) := by decide +kernel
theorem dX5_dear_27 : decode cX5_dear 27 = .ok (.iadd, 1) := by decide +kernel
theorem dX5_dear_28 : decode cX5_dear 28 = .ok (.istore 4, 2) := by decide +kernel
theorem dX5_dear_30 : decode cX5_dear 30 = .ok (.iload 4, 2) := by decide +kernel
theorem dX5_dear_32 : decode cX5_dear 32 = .ok (.iload_n 2, 1) := by decide +kernel
theorem dX5_dear_33 : decode cX5_dear 33 = .ok (.if_icmp .le 7, 3) := by decide +kernel
theorem dX5_dear_36 : decode cX5_dear 36 = .ok (.iload_n 3, 1) := by decide +kernel
theorem dX5_dear_37 : decode cX5_dear 37 = .ok (.goto 4, 3) := by decide +kernel
theorem dX5_dear_40 : decode cX5_dear 40 = .ok (.iload_n 1, 1) := by decide +kernel
theorem dX5_dear_41 : decode cX5_dear 41 = .ok (.istore_n 1, 1) := by decide +kernel
theorem dX5_dear_42 : decode cX5_dear 42 = .ok (.iload 4, 2) := by decide +kernel
theorem dX5_dear_44 : decode cX5_dear 44 = .ok (.iload_n 2, 1) := by decide +kernel
theorem dX5_dear_45 : decode cX5_dear 45 = .ok (.if_icmp .le 8, 3) := by decide +kernel
theorem dX5_dear_48 : decode cX5_dear 48 = .ok (.iload 4, 2) := by decide +kernel
theorem dX5_dear_50 : decode cX5_dear 50 = .ok (.goto 4, 3) := by decide +kernel
theorem dX5_dear_53 : decode cX5_dear 53 = .ok (.iload_n 2, 1) := by decide +kernel
theorem dX5_dear_54 : decode cX5_dear 54 = .ok (.istore_n 2, 1) := by decide +kernel
theorem dX5_dear_55 : decode cX5_dear 55 = .ok (.iinc 3 1, 3) := by decide +kernel
theorem dX5_dear_58 : decode cX5_dear 58 = .ok (.goto (-52), 3) := by decide +kernel
theorem dX5_dear_61 : decode cX5_dear 61 = .ok (.iload_n 1, 1) := by decide +kernel
theorem dX5_dear_62 : decode cX5_dear 62 = .ok (.ireturn, 1) := by decide +kernel
set_option maxRecDepth 20000 in
theorem ggX5_dearest_X5_dear : GoodIn wsX5_dearest wsX5_dear := goodIn_r _ [6, 7, 8, 9, 10, 5, 11, 12, 13, 14, 15, 16, 17, 18, 19, 20, 21, 22, 23, 24, 25, 26, 27, 28, 29, 30, 31, 32, 33, 34, 35, 36, 37, 38, 39, 40, 41, 42, 43, 44, 45, 46, 47, 48, 49, 50, 51, 52, 53, 54, 55, 56, 57, 58, 59, 60, 61, 62, 63, 64, 65, 66, 67, 68, 69, 70, 71, 72, 73, 74, 75, 76, 77, 78, 79, 80, 81, 82, 83, 84, 85, 86, 87, 88, 89, 90, 91, 92, 93, 94, 95, 96, 97, 98, 99, 100, 101, 102, 103, 104, 105] (by decide +kernel) (by decide +kernel)
set_option maxRecDepth 20000 in
theorem gX5_dearest_X5_dear : GoodIn wsX5_dearest (wsV RX5 222 RX5 yX5_dear wsX5_dear) := goodIn_app (goodIn_of _ (by decide +kernel)) ggX5_dearest_X5_dear
theorem dX5_dearest_0 : decode cX5_dearest 0 = .ok (.aload_n 0, 1) := by decide +kernel
theorem dX5_dearest_1 : decode cX5_dearest 1 = .ok (.iconst 0, 1) := by decide +kernel
theorem dX5_dearest_2 : decode cX5_dearest 2 = .ok (.putfield 31, 3) := by decide +kernel
theorem dX5_dearest_5 : decode cX5_dearest 5 = .ok (.aload_n 0, 1) := by decide +kernel
theorem dX5_dearest_6 : decode cX5_dearest 6 = .ok (.invokevirtual 222, 3) := by decide +kernel
theorem dX5_dearest_9 : decode cX5_dearest 9 = .ok (.ireturn, 1) := by decide +kernel
set_option maxRecDepth 20000 in
theorem ggX5_share_X5_weightOf : GoodIn wsX5_share wsX5_weightOf := goodIn_r _ [5, 6, 7, 8, 9, 4, 10, 11, 12, 13, 14, 15, 16, 17, 18, 19, 20, 21, 22, 23, 24, 25, 26, 27, 28, 29, 30] (by decide +kernel) (by decide +kernel)
set_option maxRecDepth 20000 in
theorem gX5_share_X5_weightOf : GoodIn wsX5_share (wsV RX5 197 RX5 yX5_weightOf wsX5_weightOf) := goodIn_app (goodIn_of _ (by decide +kernel)) ggX5_share_X5_weightOf
theorem dX5_share_0 : decode cX5_share 0 = .ok (.aload_n 0, 1) := by decide +kernel
theorem dX5_share_1 : decode cX5_share 1 = .ok (.iconst 1, 1) := by decide +kernel
theorem dX5_share_2 : decode cX5_share 2 = .ok (.invokevirtual 197, 3) := by decide +kernel
theorem dX5_share_5 : decode cX5_share 5 = .ok (.istore_n 1, 1) := by decide +kernel
theorem dX5_share_6 : decode cX5_share 6 = .ok (.iload_n 1, 1) := by decide +kernel
theorem dX5_share_7 : decode cX5_share 7 = .ok (.aload_n 0, 1) := by decide +kernel
theorem dX5_share_8 : decode cX5_share 8 = .ok (.iconst 0, 1) := by decide +kernel
theorem dX5_share_9 : decode cX5_share 9 = .ok (.invokevirtual 197, 3) := by decide +kernel
theorem dX5_share_12 : decode cX5_share 12 = .ok (.iadd, 1) := by decide +kernel
theorem dX5_share_13 : decode cX5_share 13 = .ok (.istore_n 2, 1) := by decide +kernel
theorem dX5_share_14 : decode cX5_share 14 = .ok (.iload_n 2, 1) := by decide +kernel
theorem dX5_share_15 : decode cX5_share 15 = .ok (.ifCond .ne 7, 3) := by decide +kernel
theorem dX5_share_18 : decode cX5_share 18 = .ok (.dconst 1, 1) := by decide +kernel
theorem dX5_share_19 : decode cX5_share 19 = .ok (.goto 8, 3) := by decide +kernel
theorem dX5_share_22 : decode cX5_share 22 = .ok (.iload_n 1, 1) := by decide +kernel
theorem dX5_share_23 : decode cX5_share 23 = .ok (.i2d, 1) := by decide +kernel
theorem dX5_share_24 : decode cX5_share 24 = .ok (.iload_n 2, 1) := by decide +kernel
theorem dX5_share_25 : decode cX5_share 25 = .ok (.i2d, 1) := by decide +kernel
theorem dX5_share_26 : decode cX5_share 26 = .ok (.ddiv, 1) := by decide +kernel
theorem dX5_share_27 : decode cX5_share 27 = .ok (.dreturn, 1) := by decide +kernel
set_option maxRecDepth 20000 in
theorem ggX5_standingShare_X5_share : GoodIn wsX5_standingShare wsX5_share := goodIn_r _ [6, 7, 8, 9, 5, 10, 11, 12, 13, 14, 15, 16, 17, 18, 19, 20, 21, 22, 23, 24, 25, 26, 27, 28, 29, 30, 31, 32, 33, 34, 35] (by decide +kernel) (by decide +kernel)
set_option maxRecDepth 20000 in
theorem gX5_standingShare_X5_share : GoodIn wsX5_standingShare (wsV RX5 225 RX5 yX5_share wsX5_share) := goodIn_app (goodIn_of _ (by decide +kernel)) ggX5_standingShare_X5_share
theorem dX5_standingShare_0 : decode cX5_standingShare 0 = .ok (.aload_n 0, 1) := by decide +kernel
theorem dX5_standingShare_1 : decode cX5_standingShare 1 = .ok (.iconst 0, 1) := by decide +kernel
theorem dX5_standingShare_2 : decode cX5_standingShare 2 = .ok (.putfield 31, 3) := by decide +kernel
theorem dX5_standingShare_5 : decode cX5_standingShare 5 = .ok (.aload_n 0, 1) := by decide +kernel
theorem dX5_standingShare_6 : decode cX5_standingShare 6 = .ok (.invokevirtual 225, 3) := by decide +kernel
theorem dX5_standingShare_9 : decode cX5_standingShare 9 = .ok (.dreturn, 1) := by decide +kernel
theorem dX5_hashes_0 : decode cX5_hashes 0 = .ok (.aload_n 0, 1) := by decide +kernel
theorem dX5_hashes_1 : decode cX5_hashes 1 = .ok (.ldc2_w 229, 3) := by decide +kernel
theorem dX5_hashes_4 : decode cX5_hashes 4 = .ok (.aload_n 0, 1) := by decide +kernel
theorem dX5_hashes_5 : decode cX5_hashes 5 = .ok (.getfield 231, 3) := by decide +kernel
theorem dX5_hashes_8 : decode cX5_hashes 8 = .ok (.lmul, 1) := by decide +kernel
theorem dX5_hashes_9 : decode cX5_hashes 9 = .ok (.lload_n 1, 1) := by decide +kernel
theorem dX5_hashes_10 : decode cX5_hashes 10 = .ok (.ladd, 1) := by decide +kernel
theorem dX5_hashes_11 : decode cX5_hashes 11 = .ok (.putfield 231, 3) := by decide +kernel
theorem dX5_hashes_14 : decode cX5_hashes 14 = .ok (.return_, 1) := by decide +kernel
set_option maxRecDepth 20000 in
theorem ggX5_digest_X5_counts : GoodIn wsX5_digest wsX5_counts := goodIn_r _ [11, 4, 12, 13, 14, 15, 10, 16, 17, 18, 19, 20, 21, 22, 23, 24, 25, 26, 27, 28, 29, 30, 31, 32, 33, 34, 35, 36, 37, 38, 39, 40, 41, 42, 43, 44, 45, 46, 47, 48, 49, 50, 51, 52, 53, 54, 55, 56, 57, 58, 59, 60, 61, 62, 63, 64, 65, 66, 67, 68, 69, 70, 71, 72, 73, 74, 75, 76, 77, 78, 79, 80, 81, 82, 83, 84, 85, 86, 87, 88, 89, 90, 91, 92, 93, 176, 177, 178, 179, 180, 181, 182, 183, 184, 185, 186, 187, 188, 189, 190, 191] (by decide +kernel) (by decide +kernel)
set_option maxRecDepth 20000 in
theorem gX5_digest_X5_counts : GoodIn wsX5_digest (wsV RX5 213 RX5 yX5_counts wsX5_counts) := goodIn_app (goodIn_of _ (by decide +kernel)) ggX5_digest_X5_counts
set_option maxRecDepth 20000 in
theorem ggX5_digest_X5_hashes : GoodIn wsX5_digest wsX5_hashes := goodIn_r _ [97, 98, 3, 176, 177, 178, 179, 180, 181, 182, 183, 184, 185, 186, 187, 188, 189, 190, 191] (by decide +kernel) (by decide +kernel)
set_option maxRecDepth 20000 in
theorem gX5_digest_X5_hashes : GoodIn wsX5_digest (wsV RX5 237 RX5 yX5_hashes wsX5_hashes) := goodIn_app (goodIn_of _ (by decide +kernel)) ggX5_digest_X5_hashes
set_option maxRecDepth 20000 in
theorem ggX5_digest_X5_tellsPoint : GoodIn wsX5_digest wsX5_tellsPoint := goodIn_r _ [102, 17, 18, 19, 10, 20, 21, 22, 23, 24, 4, 37, 38, 39, 40, 41, 42, 43, 44, 45, 46, 47, 48, 49, 50, 51, 52, 53, 54, 55, 56, 57, 58, 59, 60, 61, 62, 63, 64, 65, 66, 67, 103, 104, 105, 106, 107, 108, 109, 110, 76, 77, 78, 79, 80, 81, 82, 83, 84, 85, 90, 91, 92, 93, 176, 177, 178, 179, 180, 181, 182, 183, 184, 185, 186, 187, 188, 189, 190, 191] (by decide +kernel) (by decide +kernel)
set_option maxRecDepth 20000 in
theorem gX5_digest_X5_tellsPoint : GoodIn wsX5_digest (wsV RX5 188 RX5 yX5_tellsPoint wsX5_tellsPoint) := goodIn_app (goodIn_of _ (by decide +kernel)) ggX5_digest_X5_tellsPoint
set_option maxRecDepth 20000 in
theorem ggX5_digest_X5_bestOf : GoodIn wsX5_digest wsX5_bestOf := goodIn_r _ [114, 115, 116, 117, 118, 10, 119, 4, 120, 37, 38, 39, 40, 41, 42, 43, 44, 45, 46, 47, 48, 21, 22, 23, 24, 49, 50, 51, 52, 53, 54, 55, 56, 57, 58, 59, 60, 61, 62, 63, 64, 65, 66, 67, 121, 122, 123, 124, 125, 126, 127, 128, 129, 130, 131, 132, 133, 134, 135, 136, 137, 138, 139, 17, 18, 19, 20, 140, 141, 142, 143, 144, 145, 146, 147, 76, 77, 78, 79, 80, 81, 82, 83, 84, 85, 176, 177, 178, 179, 180, 181, 182, 183, 184, 185, 186, 187, 188, 189, 190, 191] (by decide +kernel) (by decide +kernel)
set_option maxRecDepth 20000 in
theorem gX5_digest_X5_bestOf : GoodIn wsX5_digest (wsV RX5 216 RX5 yX5_bestOf wsX5_bestOf) := goodIn_app (goodIn_of _ (by decide +kernel)) ggX5_digest_X5_bestOf
set_option maxRecDepth 20000 in
theorem ggX5_digest_X5_heaviest : GoodIn wsX5_digest wsX5_heaviest := goodIn_r _ [119, 4, 120, 37, 38, 39, 10, 40, 41, 42, 43, 44, 45, 46, 47, 48, 21, 22, 23, 24, 49, 50, 51, 52, 53, 54, 55, 56, 57, 58, 59, 60, 61, 62, 63, 64, 65, 66, 67, 121, 122, 123, 124, 125, 126, 127, 128, 129, 130, 131, 115, 132, 133, 134, 135, 136, 137, 138, 139, 17, 18, 19, 20, 140, 141, 142, 143, 144, 145, 146, 147, 76, 77, 78, 79, 80, 81, 82, 83, 84, 85, 176, 177, 178, 179, 180, 181, 182, 183, 184, 185, 186, 187, 188, 189, 190, 191] (by decide +kernel) (by decide +kernel)
set_option maxRecDepth 20000 in
theorem gX5_digest_X5_heaviest : GoodIn wsX5_digest (wsV RX5 141 RX5 yX5_heaviest wsX5_heaviest) := goodIn_app (goodIn_of _ (by decide +kernel)) ggX5_digest_X5_heaviest
set_option maxRecDepth 20000 in
theorem ggX5_digest_X5_makesRoom : GoodIn wsX5_digest wsX5_makesRoom := goodIn_r _ [151, 4, 120, 17, 18, 19, 10, 20, 21, 22, 23, 24, 37, 38, 39, 40, 41, 42, 43, 44, 45, 46, 47, 48, 49, 50, 51, 52, 53, 54, 55, 56, 57, 58, 59, 60, 61, 62, 63, 64, 65, 66, 67, 121, 122, 123, 124, 125, 126, 127, 128, 129, 130, 131, 115, 132, 133, 134, 135, 136, 137, 138, 139, 140, 141, 142, 143, 144, 145, 146, 147, 76, 77, 78, 79, 80, 81, 82, 83, 84, 85, 176, 177, 178, 179, 180, 181, 182, 183, 184, 185, 186, 187, 188, 189, 190, 191] (by decide +kernel) (by decide +kernel)
set_option maxRecDepth 20000 in
theorem gX5_digest_X5_makesRoom : GoodIn wsX5_digest (wsV RX5 147 RX5 yX5_makesRoom wsX5_makesRoom) := goodIn_app (goodIn_of _ (by decide +kernel)) ggX5_digest_X5_makesRoom
set_option maxRecDepth 20000 in
theorem ggX5_digest_X5_common : GoodIn wsX5_digest wsX5_common := goodIn_r _ [79, 49, 50, 51, 10, 52, 45, 46, 47, 48, 21, 22, 23, 24, 4, 80, 81, 82, 83, 84, 85, 57, 58, 59, 60, 53, 54, 55, 56, 176, 177, 178, 179, 180, 181, 182, 183, 184, 185, 186, 187, 188, 189, 190, 191] (by decide +kernel) (by decide +kernel)
set_option maxRecDepth 20000 in
theorem gX5_digest_X5_common : GoodIn wsX5_digest (wsV RX5 76 RX5 yX5_common wsX5_common) := goodIn_app (goodIn_of _ (by decide +kernel)) ggX5_digest_X5_common
set_option maxRecDepth 20000 in
theorem ggX5_digest_X5_fulls : GoodIn wsX5_digest wsX5_fulls := goodIn_r _ [155, 4, 120, 37, 38, 39, 10, 40, 41, 42, 43, 44, 45, 46, 47, 48, 21, 22, 23, 24, 49, 50, 51, 52, 53, 54, 55, 56, 57, 58, 59, 60, 61, 62, 63, 64, 65, 66, 67, 121, 122, 123, 124, 125, 126, 127, 128, 129, 130, 131, 115, 132, 133, 134, 135, 136, 137, 138, 139, 17, 18, 19, 20, 140, 141, 142, 143, 144, 145, 146, 147, 76, 77, 78, 79, 80, 81, 82, 83, 84, 85, 176, 177, 178, 179, 180, 181, 182, 183, 184, 185, 186, 187, 188, 189, 190, 191] (by decide +kernel) (by decide +kernel)
set_option maxRecDepth 20000 in
theorem gX5_digest_X5_fulls : GoodIn wsX5_digest (wsV RX5 219 RX5 yX5_fulls wsX5_fulls) := goodIn_app (goodIn_of _ (by decide +kernel)) ggX5_digest_X5_fulls
set_option maxRecDepth 20000 in
theorem ggX5_digest_X5_dear : GoodIn wsX5_digest wsX5_dear := goodIn_r _ [159, 4, 21, 22, 23, 10, 24, 116, 117, 118, 119, 120, 37, 38, 39, 40, 41, 42, 43, 44, 45, 46, 47, 48, 49, 50, 51, 52, 53, 54, 55, 56, 57, 58, 59, 60, 61, 62, 63, 64, 65, 66, 67, 121, 122, 123, 124, 125, 126, 127, 128, 129, 130, 131, 115, 132, 133, 134, 135, 136, 137, 138, 139, 17, 18, 19, 20, 140, 141, 142, 143, 144, 145, 146, 147, 76, 77, 78, 79, 80, 81, 82, 83, 84, 85, 176, 177, 178, 179, 180, 181, 182, 183, 184, 185, 186, 187, 188, 189, 190, 191] (by decide +kernel) (by decide +kernel)
set_option maxRecDepth 20000 in
theorem gX5_digest_X5_dear : GoodIn wsX5_digest (wsV RX5 222 RX5 yX5_dear wsX5_dear) := goodIn_app (goodIn_of _ (by decide +kernel)) ggX5_digest_X5_dear
set_option maxRecDepth 20000 in
theorem ggX5_digest_X5_share : GoodIn wsX5_digest wsX5_share := goodIn_r _ [163, 25, 26, 27, 10, 28, 4, 17, 18, 19, 20, 21, 22, 23, 24, 176, 177, 178, 179, 180, 181, 182, 183, 184, 185, 186, 187, 188, 189, 190, 191] (by decide +kernel) (by decide +kernel)
set_option maxRecDepth 20000 in
theorem gX5_digest_X5_share : GoodIn wsX5_digest (wsV RX5 225 RX5 yX5_share wsX5_share) := goodIn_app (goodIn_of _ (by decide +kernel)) ggX5_digest_X5_share
set_option maxRecDepth 20000 in
theorem ggX5_digest_Jxe99ae_doubleToLongBits_ccdee : GoodIn wsX5_digest wsJxe99ae_doubleToLongBits_ccdee := goodIn_r _ [167, 168, 169, 170, 171, 172, 173, 174, 166, 175] (by decide +kernel) (by decide +kernel)
set_option maxRecDepth 20000 in
theorem gX5_digest_Jxe99ae_doubleToLongBits_ccdee : GoodIn wsX5_digest (va_wsS RX5 241 yJxe99ae_doubleToLongBits_ccdee wsJxe99ae_doubleToLongBits_ccdee) := goodIn_app (goodIn_of _ (by decide +kernel)) ggX5_digest_Jxe99ae_doubleToLongBits_ccdee
theorem dX5_digest_0 : decode cX5_digest 0 = .ok (.aload_n 0, 1) := by decide +kernel
theorem dX5_digest_1 : decode cX5_digest 1 = .ok (.iconst 0, 1) := by decide +kernel
theorem dX5_digest_2 : decode cX5_digest 2 = .ok (.putfield 31, 3) := by decide +kernel
theorem dX5_digest_5 : decode cX5_digest 5 = .ok (.aload_n 0, 1) := by decide +kernel
theorem dX5_digest_6 : decode cX5_digest 6 = .ok (.ldc2_w 235, 3) := by decide +kernel
theorem dX5_digest_9 : decode cX5_digest 9 = .ok (.putfield 231, 3) := by decide +kernel
theorem dX5_digest_12 : decode cX5_digest 12 = .ok (.iconst 0, 1) := by decide +kernel
theorem dX5_digest_13 : decode cX5_digest 13 = .ok (.istore_n 1, 1) := by decide +kernel
theorem dX5_digest_14 : decode cX5_digest 14 = .ok (.iload_n 1, 1) := by decide +kernel
theorem dX5_digest_15 : decode cX5_digest 15 = .ok (.bipush 9, 2) := by decide +kernel
theorem dX5_digest_17 : decode cX5_digest 17 = .ok (.if_icmp .ge 19, 3) := by decide +kernel
theorem dX5_digest_20 : decode cX5_digest 20 = .ok (.aload_n 0, 1) := by decide +kernel
theorem dX5_digest_21 : decode cX5_digest 21 = .ok (.aload_n 0, 1) := by decide +kernel
theorem dX5_digest_22 : decode cX5_digest 22 = .ok (.iload_n 1, 1) := by decide +kernel
theorem dX5_digest_23 : decode cX5_digest 23 = .ok (.invokevirtual 213, 3) := by decide +kernel
theorem dX5_digest_26 : decode cX5_digest 26 = .ok (.i2l, 1) := by decide +kernel
theorem dX5_digest_27 : decode cX5_digest 27 = .ok (.invokevirtual 237, 3) := by decide +kernel
theorem dX5_digest_30 : decode cX5_digest 30 = .ok (.iinc 1 1, 3) := by decide +kernel
theorem dX5_digest_33 : decode cX5_digest 33 = .ok (.goto (-19), 3) := by decide +kernel
theorem dX5_digest_36 : decode cX5_digest 36 = .ok (.iconst 0, 1) := by decide +kernel
theorem dX5_digest_37 : decode cX5_digest 37 = .ok (.istore_n 1, 1) := by decide +kernel
theorem dX5_digest_38 : decode cX5_digest 38 = .ok (.iload_n 1, 1) := by decide +kernel
theorem dX5_digest_39 : decode cX5_digest 39 = .ok (.aload_n 0, 1) := by decide +kernel
theorem dX5_digest_40 : decode cX5_digest 40 = .ok (.getfield 7, 3) := by decide +kernel
theorem dX5_digest_43 : decode cX5_digest 43 = .ok (.iconst 0, 1) := by decide +kernel
theorem dX5_digest_44 : decode cX5_digest 44 = .ok (.iaload, 1) := by decide +kernel
theorem dX5_digest_45 : decode cX5_digest 45 = .ok (.if_icmp .ge 64, 3) := by decide +kernel
theorem dX5_digest_48 : decode cX5_digest 48 = .ok (.iconst 0, 1) := by decide +kernel
theorem dX5_digest_49 : decode cX5_digest 49 = .ok (.istore_n 2, 1) := by decide +kernel
theorem dX5_digest_50 : decode cX5_digest 50 = .ok (.iload_n 2, 1) := by decide +kernel
theorem dX5_digest_51 : decode cX5_digest 51 = .ok (.bipush 9, 2) := by decide +kernel
theorem dX5_digest_53 : decode cX5_digest 53 = .ok (.if_icmp .ge 20, 3) := by decide +kernel
theorem dX5_digest_56 : decode cX5_digest 56 = .ok (.aload_n 0, 1) := by decide +kernel
theorem dX5_digest_57 : decode cX5_digest 57 = .ok (.aload_n 0, 1) := by decide +kernel
theorem dX5_digest_58 : decode cX5_digest 58 = .ok (.iload_n 1, 1) := by decide +kernel
theorem dX5_digest_59 : decode cX5_digest 59 = .ok (.iload_n 2, 1) := by decide +kernel
theorem dX5_digest_60 : decode cX5_digest 60 = .ok (.invokevirtual 188, 3) := by decide +kernel
theorem dX5_digest_63 : decode cX5_digest 63 = .ok (.i2l, 1) := by decide +kernel
theorem dX5_digest_64 : decode cX5_digest 64 = .ok (.invokevirtual 237, 3) := by decide +kernel
theorem dX5_digest_67 : decode cX5_digest 67 = .ok (.iinc 2 1, 3) := by decide +kernel
theorem dX5_digest_70 : decode cX5_digest 70 = .ok (.goto (-20), 3) := by decide +kernel
theorem dX5_digest_73 : decode cX5_digest 73 = .ok (.aload_n 0, 1) := by decide +kernel
theorem dX5_digest_74 : decode cX5_digest 74 = .ok (.aload_n 0, 1) := by decide +kernel
theorem dX5_digest_75 : decode cX5_digest 75 = .ok (.iload_n 1, 1) := by decide +kernel
theorem dX5_digest_76 : decode cX5_digest 76 = .ok (.invokevirtual 216, 3) := by decide +kernel
theorem dX5_digest_79 : decode cX5_digest 79 = .ok (.i2l, 1) := by decide +kernel
theorem dX5_digest_80 : decode cX5_digest 80 = .ok (.invokevirtual 237, 3) := by decide +kernel
theorem dX5_digest_83 : decode cX5_digest 83 = .ok (.aload_n 0, 1) := by decide +kernel
theorem dX5_digest_84 : decode cX5_digest 84 = .ok (.aload_n 0, 1) := by decide +kernel
theorem dX5_digest_85 : decode cX5_digest 85 = .ok (.iload_n 1, 1) := by decide +kernel
theorem dX5_digest_86 : decode cX5_digest 86 = .ok (.invokevirtual 141, 3) := by decide +kernel
theorem dX5_digest_89 : decode cX5_digest 89 = .ok (.i2l, 1) := by decide +kernel
theorem dX5_digest_90 : decode cX5_digest 90 = .ok (.invokevirtual 237, 3) := by decide +kernel
theorem dX5_digest_93 : decode cX5_digest 93 = .ok (.aload_n 0, 1) := by decide +kernel
theorem dX5_digest_94 : decode cX5_digest 94 = .ok (.aload_n 0, 1) := by decide +kernel
theorem dX5_digest_95 : decode cX5_digest 95 = .ok (.iload_n 1, 1) := by decide +kernel
theorem dX5_digest_96 : decode cX5_digest 96 = .ok (.invokevirtual 147, 3) := by decide +kernel
theorem dX5_digest_99 : decode cX5_digest 99 = .ok (.i2l, 1) := by decide +kernel
theorem dX5_digest_100 : decode cX5_digest 100 = .ok (.invokevirtual 237, 3) := by decide +kernel
theorem dX5_digest_103 : decode cX5_digest 103 = .ok (.iinc 1 1, 3) := by decide +kernel
theorem dX5_digest_106 : decode cX5_digest 106 = .ok (.goto (-68), 3) := by decide +kernel
theorem dX5_digest_109 : decode cX5_digest 109 = .ok (.iconst 0, 1) := by decide +kernel
theorem dX5_digest_110 : decode cX5_digest 110 = .ok (.istore_n 1, 1) := by decide +kernel
theorem dX5_digest_111 : decode cX5_digest 111 = .ok (.iload_n 1, 1) := by decide +kernel
theorem dX5_digest_112 : decode cX5_digest 112 = .ok (.aload_n 0, 1) := by decide +kernel
theorem dX5_digest_113 : decode cX5_digest 113 = .ok (.getfield 7, 3) := by decide +kernel
theorem dX5_digest_116 : decode cX5_digest 116 = .ok (.iconst 0, 1) := by decide +kernel
theorem dX5_digest_117 : decode cX5_digest 117 = .ok (.iaload, 1) := by decide +kernel
theorem dX5_digest_118 : decode cX5_digest 118 = .ok (.if_icmp .ge 55, 3) := by decide +kernel
theorem dX5_digest_121 : decode cX5_digest 121 = .ok (.iload_n 1, 1) := by decide +kernel
theorem dX5_digest_122 : decode cX5_digest 122 = .ok (.iconst 1, 1) := by decide +kernel
theorem dX5_digest_123 : decode cX5_digest 123 = .ok (.iadd, 1) := by decide +kernel
theorem dX5_digest_124 : decode cX5_digest 124 = .ok (.istore_n 2, 1) := by decide +kernel
theorem dX5_digest_125 : decode cX5_digest 125 = .ok (.iload_n 2, 1) := by decide +kernel
theorem dX5_digest_126 : decode cX5_digest 126 = .ok (.aload_n 0, 1) := by decide +kernel
theorem dX5_digest_127 : decode cX5_digest 127 = .ok (.getfield 7, 3) := by decide +kernel
theorem dX5_digest_130 : decode cX5_digest 130 = .ok (.iconst 0, 1) := by decide +kernel
theorem dX5_digest_131 : decode cX5_digest 131 = .ok (.iaload, 1) := by decide +kernel
theorem dX5_digest_132 : decode cX5_digest 132 = .ok (.if_icmp .ge 35, 3) := by decide +kernel
theorem dX5_digest_135 : decode cX5_digest 135 = .ok (.aload_n 0, 1) := by decide +kernel
theorem dX5_digest_136 : decode cX5_digest 136 = .ok (.aload_n 0, 1) := by decide +kernel
theorem dX5_digest_137 : decode cX5_digest 137 = .ok (.iload_n 1, 1) := by decide +kernel
theorem dX5_digest_138 : decode cX5_digest 138 = .ok (.iconst 0, 1) := by decide +kernel
theorem dX5_digest_139 : decode cX5_digest 139 = .ok (.iload_n 2, 1) := by decide +kernel
theorem dX5_digest_140 : decode cX5_digest 140 = .ok (.iconst 0, 1) := by decide +kernel
theorem dX5_digest_141 : decode cX5_digest 141 = .ok (.invokevirtual 76, 3) := by decide +kernel
theorem dX5_digest_144 : decode cX5_digest 144 = .ok (.i2l, 1) := by decide +kernel
theorem dX5_digest_145 : decode cX5_digest 145 = .ok (.invokevirtual 237, 3) := by decide +kernel
theorem dX5_digest_148 : decode cX5_digest 148 = .ok (.aload_n 0, 1) := by decide +kernel
theorem dX5_digest_149 : decode cX5_digest 149 = .ok (.aload_n 0, 1) := by decide +kernel
theorem dX5_digest_150 : decode cX5_digest 150 = .ok (.iload_n 1, 1) := by decide +kernel
theorem dX5_digest_151 : decode cX5_digest 151 = .ok (.iconst 0, 1) := by decide +kernel
theorem dX5_digest_152 : decode cX5_digest 152 = .ok (.iload_n 2, 1) := by decide +kernel
theorem dX5_digest_153 : decode cX5_digest 153 = .ok (.iconst 1, 1) := by decide +kernel
theorem dX5_digest_154 : decode cX5_digest 154 = .ok (.invokevirtual 76, 3) := by decide +kernel
theorem dX5_digest_157 : decode cX5_digest 157 = .ok (.i2l, 1) := by decide +kernel
theorem dX5_digest_158 : decode cX5_digest 158 = .ok (.invokevirtual 237, 3) := by decide +kernel
theorem dX5_digest_161 : decode cX5_digest 161 = .ok (.iinc 2 1, 3) := by decide +kernel
theorem dX5_digest_164 : decode cX5_digest 164 = .ok (.goto (-39), 3) := by decide +kernel
theorem dX5_digest_167 : decode cX5_digest 167 = .ok (.iinc 1 1, 3) := by decide +kernel
theorem dX5_digest_170 : decode cX5_digest 170 = .ok (.goto (-59), 3) := by decide +kernel
theorem dX5_digest_173 : decode cX5_digest 173 = .ok (.aload_n 0, 1) := by decide +kernel
theorem dX5_digest_174 : decode cX5_digest 174 = .ok (.aload_n 0, 1) := by decide +kernel
theorem dX5_digest_175 : decode cX5_digest 175 = .ok (.iconst (-1), 1) := by decide +kernel
theorem dX5_digest_176 : decode cX5_digest 176 = .ok (.invokevirtual 141, 3) := by decide +kernel
theorem dX5_digest_179 : decode cX5_digest 179 = .ok (.i2l, 1) := by decide +kernel
theorem dX5_digest_180 : decode cX5_digest 180 = .ok (.invokevirtual 237, 3) := by decide +kernel
theorem dX5_digest_183 : decode cX5_digest 183 = .ok (.aload_n 0, 1) := by decide +kernel
theorem dX5_digest_184 : decode cX5_digest 184 = .ok (.aload_n 0, 1) := by decide +kernel
theorem dX5_digest_185 : decode cX5_digest 185 = .ok (.invokevirtual 219, 3) := by decide +kernel
theorem dX5_digest_188 : decode cX5_digest 188 = .ok (.i2l, 1) := by decide +kernel
theorem dX5_digest_189 : decode cX5_digest 189 = .ok (.invokevirtual 237, 3) := by decide +kernel
theorem dX5_digest_192 : decode cX5_digest 192 = .ok (.aload_n 0, 1) := by decide +kernel
theorem dX5_digest_193 : decode cX5_digest 193 = .ok (.aload_n 0, 1) := by decide +kernel
theorem dX5_digest_194 : decode cX5_digest 194 = .ok (.invokevirtual 222, 3) := by decide +kernel
theorem dX5_digest_197 : decode cX5_digest 197 = .ok (.i2l, 1) := by decide +kernel
theorem dX5_digest_198 : decode cX5_digest 198 = .ok (.invokevirtual 237, 3) := by decide +kernel
theorem dX5_digest_201 : decode cX5_digest 201 = .ok (.aload_n 0, 1) := by decide +kernel
theorem dX5_digest_202 : decode cX5_digest 202 = .ok (.aload_n 0, 1) := by decide +kernel
theorem dX5_digest_203 : decode cX5_digest 203 = .ok (.invokevirtual 225, 3) := by decide +kernel
theorem dX5_digest_206 : decode cX5_digest 206 = .ok (.invokestatic 241, 3) := by decide +kernel
theorem dX5_digest_209 : decode cX5_digest 209 = .ok (.invokevirtual 237, 3) := by decide +kernel
theorem dX5_digest_212 : decode cX5_digest 212 = .ok (.aload_n 0, 1) := by decide +kernel
theorem dX5_digest_213 : decode cX5_digest 213 = .ok (.aload_n 0, 1) := by decide +kernel
theorem dX5_digest_214 : decode cX5_digest 214 = .ok (.getfield 154, 3) := by decide +kernel
theorem dX5_digest_217 : decode cX5_digest 217 = .ok (.i2l, 1) := by decide +kernel
theorem dX5_digest_218 : decode cX5_digest 218 = .ok (.invokevirtual 237, 3) := by decide +kernel
theorem dX5_digest_221 : decode cX5_digest 221 = .ok (.iconst 0, 1) := by decide +kernel
theorem dX5_digest_222 : decode cX5_digest 222 = .ok (.istore_n 1, 1) := by decide +kernel
theorem dX5_digest_223 : decode cX5_digest 223 = .ok (.iload_n 1, 1) := by decide +kernel
theorem dX5_digest_224 : decode cX5_digest 224 = .ok (.aload_n 0, 1) := by decide +kernel
theorem dX5_digest_225 : decode cX5_digest 225 = .ok (.getfield 154, 3) := by decide +kernel
theorem dX5_digest_228 : decode cX5_digest 228 = .ok (.if_icmp .ge 20, 3) := by decide +kernel
theorem dX5_digest_231 : decode cX5_digest 231 = .ok (.aload_n 0, 1) := by decide +kernel
theorem dX5_digest_232 : decode cX5_digest 232 = .ok (.aload_n 0, 1) := by decide +kernel
theorem dX5_digest_233 : decode cX5_digest 233 = .ok (.getfield 16, 3) := by decide +kernel
theorem dX5_digest_236 : decode cX5_digest 236 = .ok (.iload_n 1, 1) := by decide +kernel
theorem dX5_digest_237 : decode cX5_digest 237 = .ok (.iaload, 1) := by decide +kernel
theorem dX5_digest_238 : decode cX5_digest 238 = .ok (.i2l, 1) := by decide +kernel
theorem dX5_digest_239 : decode cX5_digest 239 = .ok (.invokevirtual 237, 3) := by decide +kernel
theorem dX5_digest_242 : decode cX5_digest 242 = .ok (.iinc 1 1, 3) := by decide +kernel
theorem dX5_digest_245 : decode cX5_digest 245 = .ok (.goto (-22), 3) := by decide +kernel
theorem dX5_digest_248 : decode cX5_digest 248 = .ok (.aload_n 0, 1) := by decide +kernel
theorem dX5_digest_249 : decode cX5_digest 249 = .ok (.getfield 231, 3) := by decide +kernel
theorem dX5_digest_252 : decode cX5_digest 252 = .ok (.lreturn, 1) := by decide +kernel
theorem dJxe99ae_isNaN_b9ae7_0 : decode cJxe99ae_isNaN_b9ae7 0 = .ok (.dload_n 0, 1) := by decide +kernel
theorem dJxe99ae_isNaN_b9ae7_1 : decode cJxe99ae_isNaN_b9ae7 1 = .ok (.dload_n 0, 1) := by decide +kernel
theorem dJxe99ae_isNaN_b9ae7_2 : decode cJxe99ae_isNaN_b9ae7 2 = .ok (.dcmp .l, 1) := by decide +kernel
theorem dJxe99ae_isNaN_b9ae7_3 : decode cJxe99ae_isNaN_b9ae7 3 = .ok (.ifCond .eq 7, 3) := by decide +kernel
theorem dJxe99ae_isNaN_b9ae7_6 : decode cJxe99ae_isNaN_b9ae7 6 = .ok (.iconst 1, 1) := by decide +kernel
theorem dJxe99ae_isNaN_b9ae7_7 : decode cJxe99ae_isNaN_b9ae7 7 = .ok (.goto 4, 3) := by decide +kernel
theorem dJxe99ae_isNaN_b9ae7_10 : decode cJxe99ae_isNaN_b9ae7 10 = .ok (.iconst 0, 1) := by decide +kernel
theorem dJxe99ae_isNaN_b9ae7_11 : decode cJxe99ae_isNaN_b9ae7 11 = .ok (.ireturn, 1) := by decide +kernel
set_option maxRecDepth 20000 in
theorem ggJxe99ae_doubleToLongBits_ccdee_Jxe99ae_isNaN_b9ae7 : GoodIn wsJxe99ae_doubleToLongBits_ccdee wsJxe99ae_isNaN_b9ae7 := goodIn_r _ [9] (by decide +kernel) (by decide +kernel)
set_option maxRecDepth 20000 in
theorem gJxe99ae_doubleToLongBits_ccdee_Jxe99ae_isNaN_b9ae7 : GoodIn wsJxe99ae_doubleToLongBits_ccdee (va_wsS RJxe99ae 122 yJxe99ae_isNaN_b9ae7 wsJxe99ae_isNaN_b9ae7) := goodIn_app (goodIn_of _ (by decide +kernel)) ggJxe99ae_doubleToLongBits_ccdee_Jxe99ae_isNaN_b9ae7
theorem dJxe99ae_doubleToLongBits_ccdee_0 : decode cJxe99ae_doubleToLongBits_ccdee 0 = .ok (.dload_n 0, 1) := by decide +kernel
theorem dJxe99ae_doubleToLongBits_ccdee_1 : decode cJxe99ae_doubleToLongBits_ccdee 1 = .ok (.invokestatic 122, 3) := by decide +kernel
theorem dJxe99ae_doubleToLongBits_ccdee_4 : decode cJxe99ae_doubleToLongBits_ccdee 4 = .ok (.ifCond .ne 8, 3) := by decide +kernel
theorem dJxe99ae_doubleToLongBits_ccdee_7 : decode cJxe99ae_doubleToLongBits_ccdee 7 = .ok (.dload_n 0, 1) := by decide +kernel
theorem dJxe99ae_doubleToLongBits_ccdee_8 : decode cJxe99ae_doubleToLongBits_ccdee 8 = .ok (.invokestatic 134, 3) := by decide +kernel
theorem dJxe99ae_doubleToLongBits_ccdee_11 : decode cJxe99ae_doubleToLongBits_ccdee 11 = .ok (.lreturn, 1) := by decide +kernel
theorem dJxe99ae_doubleToLongBits_ccdee_12 : decode cJxe99ae_doubleToLongBits_ccdee 12 = .ok (.ldc2_w 137, 3) := by decide +kernel
theorem dJxe99ae_doubleToLongBits_ccdee_15 : decode cJxe99ae_doubleToLongBits_ccdee 15 = .ok (.lreturn, 1) := by decide +kernel
theorem dJ6_bitCount_0f7a4_0 : decode cJ6_bitCount_0f7a4 0 = .ok (.iload_n 0, 1) := by decide +kernel
theorem dJ6_bitCount_0f7a4_1 : decode cJ6_bitCount_0f7a4 1 = .ok (.iload_n 0, 1) := by decide +kernel
theorem dJ6_bitCount_0f7a4_2 : decode cJ6_bitCount_0f7a4 2 = .ok (.iconst 1, 1) := by decide +kernel
theorem dJ6_bitCount_0f7a4_3 : decode cJ6_bitCount_0f7a4 3 = .ok (.iushr, 1) := by decide +kernel
theorem dJ6_bitCount_0f7a4_4 : decode cJ6_bitCount_0f7a4 4 = .ok (.ldc_w 265, 3) := by decide +kernel
theorem dJ6_bitCount_0f7a4_7 : decode cJ6_bitCount_0f7a4 7 = .ok (.iand, 1) := by decide +kernel
theorem dJ6_bitCount_0f7a4_8 : decode cJ6_bitCount_0f7a4 8 = .ok (.isub, 1) := by decide +kernel
theorem dJ6_bitCount_0f7a4_9 : decode cJ6_bitCount_0f7a4 9 = .ok (.istore_n 0, 1) := by decide +kernel
theorem dJ6_bitCount_0f7a4_10 : decode cJ6_bitCount_0f7a4 10 = .ok (.iload_n 0, 1) := by decide +kernel
theorem dJ6_bitCount_0f7a4_11 : decode cJ6_bitCount_0f7a4 11 = .ok (.ldc_w 266, 3) := by decide +kernel
theorem dJ6_bitCount_0f7a4_14 : decode cJ6_bitCount_0f7a4 14 = .ok (.iand, 1) := by decide +kernel
theorem dJ6_bitCount_0f7a4_15 : decode cJ6_bitCount_0f7a4 15 = .ok (.iload_n 0, 1) := by decide +kernel
theorem dJ6_bitCount_0f7a4_16 : decode cJ6_bitCount_0f7a4 16 = .ok (.iconst 2, 1) := by decide +kernel
theorem dJ6_bitCount_0f7a4_17 : decode cJ6_bitCount_0f7a4 17 = .ok (.iushr, 1) := by decide +kernel
theorem dJ6_bitCount_0f7a4_18 : decode cJ6_bitCount_0f7a4 18 = .ok (.ldc_w 266, 3) := by decide +kernel
theorem dJ6_bitCount_0f7a4_21 : decode cJ6_bitCount_0f7a4 21 = .ok (.iand, 1) := by decide +kernel
theorem dJ6_bitCount_0f7a4_22 : decode cJ6_bitCount_0f7a4 22 = .ok (.iadd, 1) := by decide +kernel
theorem dJ6_bitCount_0f7a4_23 : decode cJ6_bitCount_0f7a4 23 = .ok (.istore_n 0, 1) := by decide +kernel
theorem dJ6_bitCount_0f7a4_24 : decode cJ6_bitCount_0f7a4 24 = .ok (.iload_n 0, 1) := by decide +kernel
theorem dJ6_bitCount_0f7a4_25 : decode cJ6_bitCount_0f7a4 25 = .ok (.iload_n 0, 1) := by decide +kernel
theorem dJ6_bitCount_0f7a4_26 : decode cJ6_bitCount_0f7a4 26 = .ok (.iconst 4, 1) := by decide +kernel
theorem dJ6_bitCount_0f7a4_27 : decode cJ6_bitCount_0f7a4 27 = .ok (.iushr, 1) := by decide +kernel
theorem dJ6_bitCount_0f7a4_28 : decode cJ6_bitCount_0f7a4 28 = .ok (.iadd, 1) := by decide +kernel
theorem dJ6_bitCount_0f7a4_29 : decode cJ6_bitCount_0f7a4 29 = .ok (.ldc_w 267, 3) := by decide +kernel
theorem dJ6_bitCount_0f7a4_32 : decode cJ6_bitCount_0f7a4 32 = .ok (.iand, 1) := by decide +kernel
theorem dJ6_bitCount_0f7a4_33 : decode cJ6_bitCount_0f7a4 33 = .ok (.istore_n 0, 1) := by decide +kernel
theorem dJ6_bitCount_0f7a4_34 : decode cJ6_bitCount_0f7a4 34 = .ok (.iload_n 0, 1) := by decide +kernel
theorem dJ6_bitCount_0f7a4_35 : decode cJ6_bitCount_0f7a4 35 = .ok (.iload_n 0, 1) := by decide +kernel
theorem dJ6_bitCount_0f7a4_36 : decode cJ6_bitCount_0f7a4 36 = .ok (.bipush 8, 2) := by decide +kernel
theorem dJ6_bitCount_0f7a4_38 : decode cJ6_bitCount_0f7a4 38 = .ok (.iushr, 1) := by decide +kernel
theorem dJ6_bitCount_0f7a4_39 : decode cJ6_bitCount_0f7a4 39 = .ok (.iadd, 1) := by decide +kernel
theorem dJ6_bitCount_0f7a4_40 : decode cJ6_bitCount_0f7a4 40 = .ok (.istore_n 0, 1) := by decide +kernel
theorem dJ6_bitCount_0f7a4_41 : decode cJ6_bitCount_0f7a4 41 = .ok (.iload_n 0, 1) := by decide +kernel
theorem dJ6_bitCount_0f7a4_42 : decode cJ6_bitCount_0f7a4 42 = .ok (.iload_n 0, 1) := by decide +kernel
theorem dJ6_bitCount_0f7a4_43 : decode cJ6_bitCount_0f7a4 43 = .ok (.bipush 16, 2) := by decide +kernel
theorem dJ6_bitCount_0f7a4_45 : decode cJ6_bitCount_0f7a4 45 = .ok (.iushr, 1) := by decide +kernel
theorem dJ6_bitCount_0f7a4_46 : decode cJ6_bitCount_0f7a4 46 = .ok (.iadd, 1) := by decide +kernel
theorem dJ6_bitCount_0f7a4_47 : decode cJ6_bitCount_0f7a4 47 = .ok (.istore_n 0, 1) := by decide +kernel
theorem dJ6_bitCount_0f7a4_48 : decode cJ6_bitCount_0f7a4 48 = .ok (.iload_n 0, 1) := by decide +kernel
theorem dJ6_bitCount_0f7a4_49 : decode cJ6_bitCount_0f7a4 49 = .ok (.bipush 63, 2) := by decide +kernel
theorem dJ6_bitCount_0f7a4_51 : decode cJ6_bitCount_0f7a4 51 = .ok (.iand, 1) := by decide +kernel
theorem dJ6_bitCount_0f7a4_52 : decode cJ6_bitCount_0f7a4 52 = .ok (.ireturn, 1) := by decide +kernel
theorem dJ9_max_7cf53_0 : decode cJ9_max_7cf53 0 = .ok (.iload_n 0, 1) := by decide +kernel
theorem dJ9_max_7cf53_1 : decode cJ9_max_7cf53 1 = .ok (.iload_n 1, 1) := by decide +kernel
theorem dJ9_max_7cf53_2 : decode cJ9_max_7cf53 2 = .ok (.if_icmp .lt 7, 3) := by decide +kernel
theorem dJ9_max_7cf53_5 : decode cJ9_max_7cf53 5 = .ok (.iload_n 0, 1) := by decide +kernel
theorem dJ9_max_7cf53_6 : decode cJ9_max_7cf53 6 = .ok (.goto 4, 3) := by decide +kernel
theorem dJ9_max_7cf53_9 : decode cJ9_max_7cf53 9 = .ok (.iload_n 1, 1) := by decide +kernel
theorem dJ9_max_7cf53_10 : decode cJ9_max_7cf53 10 = .ok (.ireturn, 1) := by decide +kernel
theorem dJ9_min_7cf53_0 : decode cJ9_min_7cf53 0 = .ok (.iload_n 0, 1) := by decide +kernel
theorem dJ9_min_7cf53_1 : decode cJ9_min_7cf53 1 = .ok (.iload_n 1, 1) := by decide +kernel
theorem dJ9_min_7cf53_2 : decode cJ9_min_7cf53 2 = .ok (.if_icmp .gt 7, 3) := by decide +kernel
theorem dJ9_min_7cf53_5 : decode cJ9_min_7cf53 5 = .ok (.iload_n 0, 1) := by decide +kernel
theorem dJ9_min_7cf53_6 : decode cJ9_min_7cf53 6 = .ok (.goto 4, 3) := by decide +kernel
theorem dJ9_min_7cf53_9 : decode cJ9_min_7cf53 9 = .ok (.iload_n 1, 1) := by decide +kernel
theorem dJ9_min_7cf53_10 : decode cJ9_min_7cf53 10 = .ok (.ireturn, 1) := by decide +kernel
