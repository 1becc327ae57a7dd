theorem dX5_init_0 : decode cX5_init 0 = .ok (.aload_n 0, 1) := by decide +kernel
theorem dX5_init_1 : decode cX5_init 1 = .ok (.invokespecial 1, 3) := by decide +kernel
theorem dX5_init_4 : decode cX5_init 4 = .ok (.aload_n 0, 1) := by decide +kernel
theorem dX5_init_5 : decode cX5_init 5 = .ok (.bipush 49, 2) := by decide +kernel
theorem dX5_init_7 : decode cX5_init 7 = .ok (.newarray .int, 2) := by decide +kernel
theorem dX5_init_9 : decode cX5_init 9 = .ok (.putfield 7, 3) := by decide +kernel
theorem dX5_init_12 : decode cX5_init 12 = .ok (.aload_n 0, 1) := by decide +kernel
theorem dX5_init_13 : decode cX5_init 13 = .ok (.sipush 294, 3) := by decide +kernel
theorem dX5_init_16 : decode cX5_init 16 = .ok (.newarray .int, 2) := by decide +kernel
theorem dX5_init_18 : decode cX5_init 18 = .ok (.putfield 13, 3) := by decide +kernel
theorem dX5_init_21 : decode cX5_init 21 = .ok (.aload_n 0, 1) := by decide +kernel
theorem dX5_init_22 : decode cX5_init 22 = .ok (.bipush 60, 2) := by decide +kernel
theorem dX5_init_24 : decode cX5_init 24 = .ok (.newarray .int, 2) := by decide +kernel
theorem dX5_init_26 : decode cX5_init 26 = .ok (.putfield 16, 3) := by decide +kernel
theorem dX5_init_29 : decode cX5_init 29 = .ok (.aload_n 0, 1) := by decide +kernel
theorem dX5_init_30 : decode cX5_init 30 = .ok (.bipush 8, 2) := by decide +kernel
theorem dX5_init_32 : decode cX5_init 32 = .ok (.newarray .int, 2) := by decide +kernel
theorem dX5_init_34 : decode cX5_init 34 = .ok (.putfield 19, 3) := by decide +kernel
theorem dX5_init_37 : decode cX5_init 37 = .ok (.aload_n 0, 1) := by decide +kernel
theorem dX5_init_38 : decode cX5_init 38 = .ok (.bipush 8, 2) := by decide +kernel
theorem dX5_init_40 : decode cX5_init 40 = .ok (.newarray .int, 2) := by decide +kernel
theorem dX5_init_42 : decode cX5_init 42 = .ok (.putfield 22, 3) := by decide +kernel
theorem dX5_init_45 : decode cX5_init 45 = .ok (.aload_n 0, 1) := by decide +kernel
theorem dX5_init_46 : decode cX5_init 46 = .ok (.bipush 8, 2) := by decide +kernel
theorem dX5_init_48 : decode cX5_init 48 = .ok (.newarray .int, 2) := by decide +kernel
theorem dX5_init_50 : decode cX5_init 50 = .ok (.putfield 25, 3) := by decide +kernel
theorem dX5_init_53 : decode cX5_init 53 = .ok (.aload_n 0, 1) := by decide +kernel
theorem dX5_init_54 : decode cX5_init 54 = .ok (.bipush 80, 2) := by decide +kernel
theorem dX5_init_56 : decode cX5_init 56 = .ok (.newarray .int, 2) := by decide +kernel
theorem dX5_init_58 : decode cX5_init 58 = .ok (.putfield 28, 3) := by decide +kernel
theorem dX5_init_61 : decode cX5_init 61 = .ok (.aload_n 0, 1) := by decide +kernel
theorem dX5_init_62 : decode cX5_init 62 = .ok (.iconst 0, 1) := by decide +kernel
theorem dX5_init_63 : decode cX5_init 63 = .ok (.putfield 31, 3) := by decide +kernel
theorem dX5_init_66 : decode cX5_init 66 = .ok (.return_, 1) := by decide +kernel
theorem dX5_thrown_0 : decode cX5_thrown 0 = .ok (.aload_n 0, 1) := by decide +kernel
theorem dX5_thrown_1 : decode cX5_thrown 1 = .ok (.getfield 31, 3) := by decide +kernel
theorem dX5_thrown_4 : decode cX5_thrown 4 = .ok (.ireturn, 1) := by decide +kernel
theorem dX5_in_0 : decode cX5_in 0 = .ok (.iload_n 0, 1) := by decide +kernel
theorem dX5_in_1 : decode cX5_in 1 = .ok (.iload_n 1, 1) := by decide +kernel
theorem dX5_in_2 : decode cX5_in 2 = .ok (.if_icmp .lt 12, 3) := by decide +kernel
theorem dX5_in_5 : decode cX5_in 5 = .ok (.iload_n 0, 1) := by decide +kernel
theorem dX5_in_6 : decode cX5_in 6 = .ok (.iload_n 2, 1) := by decide +kernel
theorem dX5_in_7 : decode cX5_in 7 = .ok (.if_icmp .gt 7, 3) := by decide +kernel
theorem dX5_in_10 : decode cX5_in 10 = .ok (.iconst 1, 1) := by decide +kernel
theorem dX5_in_11 : decode cX5_in 11 = .ok (.goto 4, 3) := by decide +kernel
theorem dX5_in_14 : decode cX5_in 14 = .ok (.iconst 0, 1) := by decide +kernel
theorem dX5_in_15 : decode cX5_in 15 = .ok (.ireturn, 1) := by decide +kernel
theorem dX5_fails_0 : decode cX5_fails 0 = .ok (.aload_n 0, 1) := by decide +kernel
theorem dX5_fails_1 : decode cX5_fails 1 = .ok (.iload_n 1, 1) := by decide +kernel
theorem dX5_fails_2 : decode cX5_fails 2 = .ok (.putfield 31, 3) := by decide +kernel
theorem dX5_fails_5 : decode cX5_fails 5 = .ok (.iconst 0, 1) := by decide +kernel
theorem dX5_fails_6 : decode cX5_fails 6 = .ok (.ireturn, 1) := by decide +kernel
set_option maxRecDepth 20000 in
theorem ggX5_isPoint_X5_in : GoodIn wsX5_isPoint wsX5_in := goodIn_r _ [5] (by decide +kernel) (by decide +kernel)
set_option maxRecDepth 20000 in
theorem gX5_isPoint_X5_in : GoodIn wsX5_isPoint (va_wsS RX5 35 yX5_in wsX5_in) := goodIn_app (goodIn_of _ (by decide +kernel)) ggX5_isPoint_X5_in
theorem dX5_isPoint_0 : decode cX5_isPoint 0 = .ok (.iload_n 1, 1) := by decide +kernel
theorem dX5_isPoint_1 : decode cX5_isPoint 1 = .ok (.iconst 0, 1) := by decide +kernel
theorem dX5_isPoint_2 : decode cX5_isPoint 2 = .ok (.aload_n 0, 1) := by decide +kernel
theorem dX5_isPoint_3 : decode cX5_isPoint 3 = .ok (.getfield 7, 3) := by decide +kernel
theorem dX5_isPoint_6 : decode cX5_isPoint 6 = .ok (.iconst 0, 1) := by decide +kernel
theorem dX5_isPoint_7 : decode cX5_isPoint 7 = .ok (.iaload, 1) := by decide +kernel
theorem dX5_isPoint_8 : decode cX5_isPoint 8 = .ok (.iconst 1, 1) := by decide +kernel
theorem dX5_isPoint_9 : decode cX5_isPoint 9 = .ok (.isub, 1) := by decide +kernel
theorem dX5_isPoint_10 : decode cX5_isPoint 10 = .ok (.invokestatic 35, 3) := by decide +kernel
theorem dX5_isPoint_13 : decode cX5_isPoint 13 = .ok (.ireturn, 1) := by decide +kernel
theorem dX5_of_0 : decode cX5_of 0 = .ok (.aload_n 0, 1) := by decide +kernel
theorem dX5_of_1 : decode cX5_of 1 = .ok (.getfield 7, 3) := by decide +kernel
theorem dX5_of_4 : decode cX5_of 4 = .ok (.iconst 1, 1) := by decide +kernel
theorem dX5_of_5 : decode cX5_of 5 = .ok (.bipush 6, 2) := by decide +kernel
theorem dX5_of_7 : decode cX5_of 7 = .ok (.iload_n 1, 1) := by decide +kernel
theorem dX5_of_8 : decode cX5_of 8 = .ok (.imul, 1) := by decide +kernel
theorem dX5_of_9 : decode cX5_of 9 = .ok (.iadd, 1) := by decide +kernel
theorem dX5_of_10 : decode cX5_of 10 = .ok (.iload_n 2, 1) := by decide +kernel
theorem dX5_of_11 : decode cX5_of 11 = .ok (.iadd, 1) := by decide +kernel
theorem dX5_of_12 : decode cX5_of 12 = .ok (.iaload, 1) := by decide +kernel
theorem dX5_of_13 : decode cX5_of 13 = .ok (.ireturn, 1) := by decide +kernel
theorem dX5_stands_0 : decode cX5_stands 0 = .ok (.aload_n 0, 1) := by decide +kernel
theorem dX5_stands_1 : decode cX5_stands 1 = .ok (.getfield 7, 3) := by decide +kernel
theorem dX5_stands_4 : decode cX5_stands 4 = .ok (.iconst 1, 1) := by decide +kernel
theorem dX5_stands_5 : decode cX5_stands 5 = .ok (.bipush 6, 2) := by decide +kernel
theorem dX5_stands_7 : decode cX5_stands 7 = .ok (.iload_n 1, 1) := by decide +kernel
theorem dX5_stands_8 : decode cX5_stands 8 = .ok (.imul, 1) := by decide +kernel
theorem dX5_stands_9 : decode cX5_stands 9 = .ok (.iadd, 1) := by decide +kernel
theorem dX5_stands_10 : decode cX5_stands 10 = .ok (.iconst 5, 1) := by decide +kernel
theorem dX5_stands_11 : decode cX5_stands 11 = .ok (.iadd, 1) := by decide +kernel
theorem dX5_stands_12 : decode cX5_stands 12 = .ok (.iload_n 2, 1) := by decide +kernel
theorem dX5_stands_13 : decode cX5_stands 13 = .ok (.iconst 1, 1) := by decide +kernel
theorem dX5_stands_14 : decode cX5_stands 14 = .ok (.iadd, 1) := by decide +kernel
theorem dX5_stands_15 : decode cX5_stands 15 = .ok (.iastore, 1) := by decide +kernel
theorem dX5_stands_16 : decode cX5_stands 16 = .ok (.return_, 1) := by decide +kernel
set_option maxRecDepth 20000 in
theorem ggX5_cornerOf_X5_of : GoodIn wsX5_cornerOf wsX5_of := goodIn_r _ [5, 6, 7, 8, 9, 10, 11, 12, 13, 14, 15, 16, 17, 18, 19, 20, 21, 22] (by decide +kernel) (by decide +kernel)
set_option maxRecDepth 20000 in
theorem gX5_cornerOf_X5_of : GoodIn wsX5_cornerOf (wsV RX5 39 RX5 yX5_of wsX5_of) := goodIn_app (goodIn_of _ (by decide +kernel)) ggX5_cornerOf_X5_of
theorem dX5_cornerOf_0 : decode cX5_cornerOf 0 = .ok (.aload_n 0, 1) := by decide +kernel
theorem dX5_cornerOf_1 : decode cX5_cornerOf 1 = .ok (.iload_n 1, 1) := by decide +kernel
theorem dX5_cornerOf_2 : decode cX5_cornerOf 2 = .ok (.iconst 5, 1) := by decide +kernel
theorem dX5_cornerOf_3 : decode cX5_cornerOf 3 = .ok (.invokevirtual 39, 3) := by decide +kernel
theorem dX5_cornerOf_6 : decode cX5_cornerOf 6 = .ok (.iconst 1, 1) := by decide +kernel
theorem dX5_cornerOf_7 : decode cX5_cornerOf 7 = .ok (.isub, 1) := by decide +kernel
theorem dX5_cornerOf_8 : decode cX5_cornerOf 8 = .ok (.ireturn, 1) := by decide +kernel
theorem dX5_saves_0 : decode cX5_saves 0 = .ok (.aload_n 0, 1) := by decide +kernel
theorem dX5_saves_1 : decode cX5_saves 1 = .ok (.getfield 43, 3) := by decide +kernel
theorem dX5_saves_4 : decode cX5_saves 4 = .ok (.bipush 6, 2) := by decide +kernel
theorem dX5_saves_6 : decode cX5_saves 6 = .ok (.if_icmp .ne 43, 3) := by decide +kernel
theorem dX5_saves_9 : decode cX5_saves 9 = .ok (.iconst 0, 1) := by decide +kernel
theorem dX5_saves_10 : decode cX5_saves 10 = .ok (.istore_n 1, 1) := by decide +kernel
theorem dX5_saves_11 : decode cX5_saves 11 = .ok (.iload_n 1, 1) := by decide +kernel
theorem dX5_saves_12 : decode cX5_saves 12 = .ok (.sipush 245, 3) := by decide +kernel
theorem dX5_saves_15 : decode cX5_saves 15 = .ok (.if_icmp .ge 24, 3) := by decide +kernel
theorem dX5_saves_18 : decode cX5_saves 18 = .ok (.aload_n 0, 1) := by decide +kernel
theorem dX5_saves_19 : decode cX5_saves 19 = .ok (.getfield 13, 3) := by decide +kernel
theorem dX5_saves_22 : decode cX5_saves 22 = .ok (.iload_n 1, 1) := by decide +kernel
theorem dX5_saves_23 : decode cX5_saves 23 = .ok (.aload_n 0, 1) := by decide +kernel
theorem dX5_saves_24 : decode cX5_saves 24 = .ok (.getfield 13, 3) := by decide +kernel
theorem dX5_saves_27 : decode cX5_saves 27 = .ok (.iload_n 1, 1) := by decide +kernel
theorem dX5_saves_28 : decode cX5_saves 28 = .ok (.bipush 49, 2) := by decide +kernel
theorem dX5_saves_30 : decode cX5_saves 30 = .ok (.iadd, 1) := by decide +kernel
theorem dX5_saves_31 : decode cX5_saves 31 = .ok (.iaload, 1) := by decide +kernel
theorem dX5_saves_32 : decode cX5_saves 32 = .ok (.iastore, 1) := by decide +kernel
theorem dX5_saves_33 : decode cX5_saves 33 = .ok (.iinc 1 1, 3) := by decide +kernel
theorem dX5_saves_36 : decode cX5_saves 36 = .ok (.goto (-25), 3) := by decide +kernel
theorem dX5_saves_39 : decode cX5_saves 39 = .ok (.aload_n 0, 1) := by decide +kernel
theorem dX5_saves_40 : decode cX5_saves 40 = .ok (.dup, 1) := by decide +kernel
theorem dX5_saves_41 : decode cX5_saves 41 = .ok (.getfield 43, 3) := by decide +kernel
theorem dX5_saves_44 : decode cX5_saves 44 = .ok (.iconst 1, 1) := by decide +kernel
theorem dX5_saves_45 : decode cX5_saves 45 = .ok (.isub, 1) := by decide +kernel
theorem dX5_saves_46 : decode cX5_saves 46 = .ok (.putfield 43, 3) := by decide +kernel
theorem dX5_saves_49 : decode cX5_saves 49 = .ok (.iconst 0, 1) := by decide +kernel
theorem dX5_saves_50 : decode cX5_saves 50 = .ok (.istore_n 1, 1) := by decide +kernel
theorem dX5_saves_51 : decode cX5_saves 51 = .ok (.iload_n 1, 1) := by decide +kernel
theorem dX5_saves_52 : decode cX5_saves 52 = .ok (.bipush 49, 2) := by decide +kernel
theorem dX5_saves_54 : decode cX5_saves 54 = .ok (.if_icmp .ge 29, 3) := by decide +kernel
theorem dX5_saves_57 : decode cX5_saves 57 = .ok (.aload_n 0, 1) := by decide +kernel
theorem dX5_saves_58 : decode cX5_saves 58 = .ok (.getfield 13, 3) := by decide +kernel
theorem dX5_saves_61 : decode cX5_saves 61 = .ok (.bipush 49, 2) := by decide +kernel
theorem dX5_saves_63 : decode cX5_saves 63 = .ok (.aload_n 0, 1) := by decide +kernel
theorem dX5_saves_64 : decode cX5_saves 64 = .ok (.getfield 43, 3) := by decide +kernel
theorem dX5_saves_67 : decode cX5_saves 67 = .ok (.imul, 1) := by decide +kernel
theorem dX5_saves_68 : decode cX5_saves 68 = .ok (.iload_n 1, 1) := by decide +kernel
theorem dX5_saves_69 : decode cX5_saves 69 = .ok (.iadd, 1) := by decide +kernel
theorem dX5_saves_70 : decode cX5_saves 70 = .ok (.aload_n 0, 1) := by decide +kernel
theorem dX5_saves_71 : decode cX5_saves 71 = .ok (.getfield 7, 3) := by decide +kernel
theorem dX5_saves_74 : decode cX5_saves 74 = .ok (.iload_n 1, 1) := by decide +kernel
theorem dX5_saves_75 : decode cX5_saves 75 = .ok (.iaload, 1) := by decide +kernel
theorem dX5_saves_76 : decode cX5_saves 76 = .ok (.iastore, 1) := by decide +kernel
theorem dX5_saves_77 : decode cX5_saves 77 = .ok (.iinc 1 1, 3) := by decide +kernel
theorem dX5_saves_80 : decode cX5_saves 80 = .ok (.goto (-29), 3) := by decide +kernel
theorem dX5_saves_83 : decode cX5_saves 83 = .ok (.aload_n 0, 1) := by decide +kernel
theorem dX5_saves_84 : decode cX5_saves 84 = .ok (.dup, 1) := by decide +kernel
theorem dX5_saves_85 : decode cX5_saves 85 = .ok (.getfield 43, 3) := by decide +kernel
theorem dX5_saves_88 : decode cX5_saves 88 = .ok (.iconst 1, 1) := by decide +kernel
theorem dX5_saves_89 : decode cX5_saves 89 = .ok (.iadd, 1) := by decide +kernel
theorem dX5_saves_90 : decode cX5_saves 90 = .ok (.putfield 43, 3) := by decide +kernel
theorem dX5_saves_93 : decode cX5_saves 93 = .ok (.return_, 1) := by decide +kernel
set_option maxRecDepth 20000 in
theorem ggX5_left_X5_of : GoodIn wsX5_left wsX5_of := goodIn_r _ [5, 6, 7, 8, 9, 10, 11, 12, 13, 14, 15, 16, 17, 18, 19, 20, 21, 22] (by decide +kernel) (by decide +kernel)
set_option maxRecDepth 20000 in
theorem gX5_left_X5_of : GoodIn wsX5_left (wsV RX5 39 RX5 yX5_of wsX5_of) := goodIn_app (goodIn_of _ (by decide +kernel)) ggX5_left_X5_of
theorem dX5_left_0 : decode cX5_left 0 = .ok (.iload_n 2, 1) := by decide +kernel
theorem dX5_left_1 : decode cX5_left 1 = .ok (.ifCond .eq 8, 3) := by decide +kernel
theorem dX5_left_4 : decode cX5_left 4 = .ok (.iload_n 2, 1) := by decide +kernel
theorem dX5_left_5 : decode cX5_left 5 = .ok (.iconst 3, 1) := by decide +kernel
theorem dX5_left_6 : decode cX5_left 6 = .ok (.if_icmp .ne 14, 3) := by decide +kernel
theorem dX5_left_9 : decode cX5_left 9 = .ok (.aload_n 0, 1) := by decide +kernel
theorem dX5_left_10 : decode cX5_left 10 = .ok (.iload_n 1, 1) := by decide +kernel
theorem dX5_left_11 : decode cX5_left 11 = .ok (.iconst 0, 1) := by decide +kernel
theorem dX5_left_12 : decode cX5_left 12 = .ok (.invokevirtual 39, 3) := by decide +kernel
theorem dX5_left_15 : decode cX5_left 15 = .ok (.iconst 1, 1) := by decide +kernel
theorem dX5_left_16 : decode cX5_left 16 = .ok (.iadd, 1) := by decide +kernel
theorem dX5_left_17 : decode cX5_left 17 = .ok (.goto 16, 3) := by decide +kernel
theorem dX5_left_20 : decode cX5_left 20 = .ok (.aload_n 0, 1) := by decide +kernel
theorem dX5_left_21 : decode cX5_left 21 = .ok (.iload_n 1, 1) := by decide +kernel
theorem dX5_left_22 : decode cX5_left 22 = .ok (.iconst 0, 1) := by decide +kernel
theorem dX5_left_23 : decode cX5_left 23 = .ok (.invokevirtual 39, 3) := by decide +kernel
theorem dX5_left_26 : decode cX5_left 26 = .ok (.aload_n 0, 1) := by decide +kernel
theorem dX5_left_27 : decode cX5_left 27 = .ok (.iload_n 1, 1) := by decide +kernel
theorem dX5_left_28 : decode cX5_left 28 = .ok (.iconst 2, 1) := by decide +kernel
theorem dX5_left_29 : decode cX5_left 29 = .ok (.invokevirtual 39, 3) := by decide +kernel
theorem dX5_left_32 : decode cX5_left 32 = .ok (.isub, 1) := by decide +kernel
theorem dX5_left_33 : decode cX5_left 33 = .ok (.ireturn, 1) := by decide +kernel
set_option maxRecDepth 20000 in
theorem ggX5_right_X5_left : GoodIn wsX5_right wsX5_left := goodIn_r _ [5, 6, 7, 8, 4, 9, 10, 11, 12, 13, 14, 15, 16, 17, 18, 19, 20, 21, 22, 23, 24, 25, 26] (by decide +kernel) (by decide +kernel)
set_option maxRecDepth 20000 in
theorem gX5_right_X5_left : GoodIn wsX5_right (wsV RX5 46 RX5 yX5_left wsX5_left) := goodIn_app (goodIn_of _ (by decide +kernel)) ggX5_right_X5_left
set_option maxRecDepth 20000 in
theorem ggX5_right_X5_of : GoodIn wsX5_right wsX5_of := goodIn_r _ [9, 10, 11, 12, 13, 14, 15, 16, 17, 18, 19, 20, 21, 22, 23, 24, 25, 26] (by decide +kernel) (by decide +kernel)
set_option maxRecDepth 20000 in
theorem gX5_right_X5_of : GoodIn wsX5_right (wsV RX5 39 RX5 yX5_of wsX5_of) := goodIn_app (goodIn_of _ (by decide +kernel)) ggX5_right_X5_of
theorem dX5_right_0 : decode cX5_right 0 = .ok (.aload_n 0, 1) := by decide +kernel
theorem dX5_right_1 : decode cX5_right 1 = .ok (.iload_n 1, 1) := by decide +kernel
theorem dX5_right_2 : decode cX5_right 2 = .ok (.iload_n 2, 1) := by decide +kernel
theorem dX5_right_3 : decode cX5_right 3 = .ok (.invokevirtual 46, 3) := by decide +kernel
theorem dX5_right_6 : decode cX5_right 6 = .ok (.aload_n 0, 1) := by decide +kernel
theorem dX5_right_7 : decode cX5_right 7 = .ok (.iload_n 1, 1) := by decide +kernel
theorem dX5_right_8 : decode cX5_right 8 = .ok (.iconst 2, 1) := by decide +kernel
theorem dX5_right_9 : decode cX5_right 9 = .ok (.invokevirtual 39, 3) := by decide +kernel
theorem dX5_right_12 : decode cX5_right 12 = .ok (.iadd, 1) := by decide +kernel
theorem dX5_right_13 : decode cX5_right 13 = .ok (.iconst 1, 1) := by decide +kernel
theorem dX5_right_14 : decode cX5_right 14 = .ok (.isub, 1) := by decide +kernel
theorem dX5_right_15 : decode cX5_right 15 = .ok (.ireturn, 1) := by decide +kernel
set_option maxRecDepth 20000 in
theorem ggX5_low_X5_of : GoodIn wsX5_low wsX5_of := goodIn_r _ [5, 6, 7, 8, 9, 10, 11, 12, 13, 14, 15, 16, 17, 18, 19, 20, 21, 22] (by decide +kernel) (by decide +kernel)
set_option maxRecDepth 20000 in
theorem gX5_low_X5_of : GoodIn wsX5_low (wsV RX5 39 RX5 yX5_of wsX5_of) := goodIn_app (goodIn_of _ (by decide +kernel)) ggX5_low_X5_of
theorem dX5_low_0 : decode cX5_low 0 = .ok (.iload_n 2, 1) := by decide +kernel
theorem dX5_low_1 : decode cX5_low 1 = .ok (.iconst 2, 1) := by decide +kernel
theorem dX5_low_2 : decode cX5_low 2 = .ok (.if_icmp .ge 14, 3) := by decide +kernel
theorem dX5_low_5 : decode cX5_low 5 = .ok (.aload_n 0, 1) := by decide +kernel
theorem dX5_low_6 : decode cX5_low 6 = .ok (.iload_n 1, 1) := by decide +kernel
theorem dX5_low_7 : decode cX5_low 7 = .ok (.iconst 1, 1) := by decide +kernel
theorem dX5_low_8 : decode cX5_low 8 = .ok (.invokevirtual 39, 3) := by decide +kernel
theorem dX5_low_11 : decode cX5_low 11 = .ok (.iconst 1, 1) := by decide +kernel
theorem dX5_low_12 : decode cX5_low 12 = .ok (.iadd, 1) := by decide +kernel
theorem dX5_low_13 : decode cX5_low 13 = .ok (.goto 16, 3) := by decide +kernel
theorem dX5_low_16 : decode cX5_low 16 = .ok (.aload_n 0, 1) := by decide +kernel
theorem dX5_low_17 : decode cX5_low 17 = .ok (.iload_n 1, 1) := by decide +kernel
theorem dX5_low_18 : decode cX5_low 18 = .ok (.iconst 1, 1) := by decide +kernel
theorem dX5_low_19 : decode cX5_low 19 = .ok (.invokevirtual 39, 3) := by decide +kernel
theorem dX5_low_22 : decode cX5_low 22 = .ok (.aload_n 0, 1) := by decide +kernel
theorem dX5_low_23 : decode cX5_low 23 = .ok (.iload_n 1, 1) := by decide +kernel
theorem dX5_low_24 : decode cX5_low 24 = .ok (.iconst 3, 1) := by decide +kernel
theorem dX5_low_25 : decode cX5_low 25 = .ok (.invokevirtual 39, 3) := by decide +kernel
theorem dX5_low_28 : decode cX5_low 28 = .ok (.isub, 1) := by decide +kernel
theorem dX5_low_29 : decode cX5_low 29 = .ok (.ireturn, 1) := by decide +kernel
set_option maxRecDepth 20000 in
theorem ggX5_high_X5_low : GoodIn wsX5_high wsX5_low := goodIn_r _ [5, 6, 7, 8, 4, 9, 10, 11, 12, 13, 14, 15, 16, 17, 18, 19, 20, 21, 22, 23, 24, 25, 26] (by decide +kernel) (by decide +kernel)
set_option maxRecDepth 20000 in
theorem gX5_high_X5_low : GoodIn wsX5_high (wsV RX5 49 RX5 yX5_low wsX5_low) := goodIn_app (goodIn_of _ (by decide +kernel)) ggX5_high_X5_low
set_option maxRecDepth 20000 in
theorem ggX5_high_X5_of : GoodIn wsX5_high wsX5_of := goodIn_r _ [9, 10, 11, 12, 13, 14, 15, 16, 17, 18, 19, 20, 21, 22, 23, 24, 25, 26] (by decide +kernel) (by decide +kernel)
set_option maxRecDepth 20000 in
theorem gX5_high_X5_of : GoodIn wsX5_high (wsV RX5 39 RX5 yX5_of wsX5_of) := goodIn_app (goodIn_of _ (by decide +kernel)) ggX5_high_X5_of
theorem dX5_high_0 : decode cX5_high 0 = .ok (.aload_n 0, 1) := by decide +kernel
theorem dX5_high_1 : decode cX5_high 1 = .ok (.iload_n 1, 1) := by decide +kernel
theorem dX5_high_2 : decode cX5_high 2 = .ok (.iload_n 2, 1) := by decide +kernel
theorem dX5_high_3 : decode cX5_high 3 = .ok (.invokevirtual 49, 3) := by decide +kernel
theorem dX5_high_6 : decode cX5_high 6 = .ok (.aload_n 0, 1) := by decide +kernel
theorem dX5_high_7 : decode cX5_high 7 = .ok (.iload_n 1, 1) := by decide +kernel
theorem dX5_high_8 : decode cX5_high 8 = .ok (.iconst 3, 1) := by decide +kernel
theorem dX5_high_9 : decode cX5_high 9 = .ok (.invokevirtual 39, 3) := by decide +kernel
theorem dX5_high_12 : decode cX5_high 12 = .ok (.iadd, 1) := by decide +kernel
theorem dX5_high_13 : decode cX5_high 13 = .ok (.iconst 1, 1) := by decide +kernel
theorem dX5_high_14 : decode cX5_high 14 = .ok (.isub, 1) := by decide +kernel
theorem dX5_high_15 : decode cX5_high 15 = .ok (.ireturn, 1) := by decide +kernel
set_option maxRecDepth 20000 in
theorem ggX5_has_X5_left : GoodIn wsX5_has wsX5_left := goodIn_r _ [5, 6, 7, 8, 4, 9, 10, 26, 27, 28, 29, 30, 31, 32, 33, 34, 35, 36, 37, 38, 39, 40, 41] (by decide +kernel) (by decide +kernel)
set_option maxRecDepth 20000 in
theorem gX5_has_X5_left : GoodIn wsX5_has (wsV RX5 46 RX5 yX5_left wsX5_left) := goodIn_app (goodIn_of _ (by decide +kernel)) ggX5_has_X5_left
set_option maxRecDepth 20000 in
theorem ggX5_has_X5_right : GoodIn wsX5_has wsX5_right := goodIn_r _ [14, 1, 2, 3, 4, 5, 6, 7, 8, 9, 10, 26, 27, 28, 29, 30, 31, 32, 33, 34, 35, 36, 37, 38, 39, 40, 41] (by decide +kernel) (by decide +kernel)
set_option maxRecDepth 20000 in
theorem gX5_has_X5_right : GoodIn wsX5_has (wsV RX5 52 RX5 yX5_right wsX5_right) := goodIn_app (goodIn_of _ (by decide +kernel)) ggX5_has_X5_right
set_option maxRecDepth 20000 in
theorem ggX5_has_X5_in : GoodIn wsX5_has wsX5_in := goodIn_r _ [17] (by decide +kernel) (by decide +kernel)
set_option maxRecDepth 20000 in
theorem gX5_has_X5_in : GoodIn wsX5_has (va_wsS RX5 35 yX5_in wsX5_in) := goodIn_app (goodIn_of _ (by decide +kernel)) ggX5_has_X5_in
set_option maxRecDepth 20000 in
theorem ggX5_has_X5_low : GoodIn wsX5_has wsX5_low := goodIn_r _ [21, 6, 7, 8, 4, 9, 10, 26, 27, 28, 29, 30, 31, 32, 33, 34, 35, 36, 37, 38, 39, 40, 41] (by decide +kernel) (by decide +kernel)
set_option maxRecDepth 20000 in
theorem gX5_has_X5_low : GoodIn wsX5_has (wsV RX5 49 RX5 yX5_low wsX5_low) := goodIn_app (goodIn_of _ (by decide +kernel)) ggX5_has_X5_low
set_option maxRecDepth 20000 in
theorem ggX5_has_X5_high : GoodIn wsX5_has wsX5_high := goodIn_r _ [25, 18, 19, 20, 4, 21, 6, 7, 8, 9, 10, 26, 27, 28, 29, 30, 31, 32, 33, 34, 35, 36, 37, 38, 39, 40, 41] (by decide +kernel) (by decide +kernel)
set_option maxRecDepth 20000 in
theorem gX5_has_X5_high : GoodIn wsX5_has (wsV RX5 55 RX5 yX5_high wsX5_high) := goodIn_app (goodIn_of _ (by decide +kernel)) ggX5_has_X5_high
theorem dX5_has_0 : decode cX5_has 0 = .ok (.iload_n 3, 1) := by decide +kernel
theorem dX5_has_1 : decode cX5_has 1 = .ok (.aload_n 0, 1) := by decide +kernel
theorem dX5_has_2 : decode cX5_has 2 = .ok (.iload_n 1, 1) := by decide +kernel
theorem dX5_has_3 : decode cX5_has 3 = .ok (.iload_n 2, 1) := by decide +kernel
theorem dX5_has_4 : decode cX5_has 4 = .ok (.invokevirtual 46, 3) := by decide +kernel
theorem dX5_has_7 : decode cX5_has 7 = .ok (.aload_n 0, 1) := by decide +kernel
theorem dX5_has_8 : decode cX5_has 8 = .ok (.iload_n 1, 1) := by decide +kernel
theorem dX5_has_9 : decode cX5_has 9 = .ok (.iload_n 2, 1) := by decide +kernel
theorem dX5_has_10 : decode cX5_has 10 = .ok (.invokevirtual 52, 3) := by decide +kernel
theorem dX5_has_13 : decode cX5_has 13 = .ok (.invokestatic 35, 3) := by decide +kernel
theorem dX5_has_16 : decode cX5_has 16 = .ok (.ifCond .eq 27, 3) := by decide +kernel
theorem dX5_has_19 : decode cX5_has 19 = .ok (.iload 4, 2) := by decide +kernel
theorem dX5_has_21 : decode cX5_has 21 = .ok (.aload_n 0, 1) := by decide +kernel
theorem dX5_has_22 : decode cX5_has 22 = .ok (.iload_n 1, 1) := by decide +kernel
theorem dX5_has_23 : decode cX5_has 23 = .ok (.iload_n 2, 1) := by decide +kernel
theorem dX5_has_24 : decode cX5_has 24 = .ok (.invokevirtual 49, 3) := by decide +kernel
theorem dX5_has_27 : decode cX5_has 27 = .ok (.aload_n 0, 1) := by decide +kernel
theorem dX5_has_28 : decode cX5_has 28 = .ok (.iload_n 1, 1) := by decide +kernel
theorem dX5_has_29 : decode cX5_has 29 = .ok (.iload_n 2, 1) := by decide +kernel
theorem dX5_has_30 : decode cX5_has 30 = .ok (.invokevirtual 55, 3) := by decide +kernel
theorem dX5_has_33 : decode cX5_has 33 = .ok (.invokestatic 35, 3) := by decide +kernel
theorem dX5_has_36 : decode cX5_has 36 = .ok (.ifCond .eq 7, 3) := by decide +kernel
theorem dX5_has_39 : decode cX5_has 39 = .ok (.iconst 1, 1) := by decide +kernel
theorem dX5_has_40 : decode cX5_has 40 = .ok (.goto 4, 3) := by decide +kernel
theorem dX5_has_43 : decode cX5_has 43 = .ok (.iconst 0, 1) := by decide +kernel
theorem dX5_has_44 : decode cX5_has 44 = .ok (.ireturn, 1) := by decide +kernel
set_option maxRecDepth 20000 in
theorem ggX5_isOpen_X5_left : GoodIn wsX5_isOpen wsX5_left := goodIn_r _ [6, 7, 8, 9, 5, 10, 1, 30, 31, 32, 33, 34, 35, 36, 37, 38, 39, 40, 41, 42, 43, 44, 45] (by decide +kernel) (by decide +kernel)
set_option maxRecDepth 20000 in
theorem gX5_isOpen_X5_left : GoodIn wsX5_isOpen (wsV RX5 46 RX5 yX5_left wsX5_left) := goodIn_app (goodIn_of _ (by decide +kernel)) ggX5_isOpen_X5_left
set_option maxRecDepth 20000 in
theorem ggX5_isOpen_X5_right : GoodIn wsX5_isOpen wsX5_right := goodIn_r _ [14, 2, 3, 4, 5, 6, 7, 8, 9, 10, 1, 30, 31, 32, 33, 34, 35, 36, 37, 38, 39, 40, 41, 42, 43, 44, 45] (by decide +kernel) (by decide +kernel)
set_option maxRecDepth 20000 in
theorem gX5_isOpen_X5_right : GoodIn wsX5_isOpen (wsV RX5 52 RX5 yX5_right wsX5_right) := goodIn_app (goodIn_of _ (by decide +kernel)) ggX5_isOpen_X5_right
set_option maxRecDepth 20000 in
theorem ggX5_isOpen_X5_low : GoodIn wsX5_isOpen wsX5_low := goodIn_r _ [18, 7, 8, 9, 5, 10, 1, 30, 31, 32, 33, 34, 35, 36, 37, 38, 39, 40, 41, 42, 43, 44, 45] (by decide +kernel) (by decide +kernel)
set_option maxRecDepth 20000 in
theorem gX5_isOpen_X5_low : GoodIn wsX5_isOpen (wsV RX5 49 RX5 yX5_low wsX5_low) := goodIn_app (goodIn_of _ (by decide +kernel)) ggX5_isOpen_X5_low
set_option maxRecDepth 20000 in
theorem ggX5_isOpen_X5_high : GoodIn wsX5_isOpen wsX5_high := goodIn_r _ [22, 15, 16, 17, 5, 18, 7, 8, 9, 10, 1, 30, 31, 32, 33, 34, 35, 36, 37, 38, 39, 40, 41, 42, 43, 44, 45] (by decide +kernel) (by decide +kernel)
set_option maxRecDepth 20000 in
theorem gX5_isOpen_X5_high : GoodIn wsX5_isOpen (wsV RX5 55 RX5 yX5_high wsX5_high) := goodIn_app (goodIn_of _ (by decide +kernel)) ggX5_isOpen_X5_high
set_option maxRecDepth 20000 in
theorem ggX5_isOpen_X5_of : GoodIn wsX5_isOpen wsX5_of := goodIn_r _ [10, 1, 30, 31, 32, 33, 34, 35, 36, 37, 38, 39, 40, 41, 42, 43, 44, 45] (by decide +kernel) (by decide +kernel)
set_option maxRecDepth 20000 in
theorem gX5_isOpen_X5_of : GoodIn wsX5_isOpen (wsV RX5 39 RX5 yX5_of wsX5_of) := goodIn_app (goodIn_of _ (by decide +kernel)) ggX5_isOpen_X5_of
set_option maxRecDepth 20000 in
theorem ggX5_isOpen_X5_has : GoodIn wsX5_isOpen wsX5_has := goodIn_r _ [26, 2, 3, 4, 5, 6, 7, 8, 9, 10, 1, 11, 12, 13, 14, 27, 28, 29, 15, 16, 17, 18, 19, 20, 21, 22, 30, 31, 32, 33, 34, 35, 36, 37, 38, 39, 40, 41, 42, 43, 44, 45] (by decide +kernel) (by decide +kernel)
set_option maxRecDepth 20000 in
theorem gX5_isOpen_X5_has : GoodIn wsX5_isOpen (wsV RX5 58 RX5 yX5_has wsX5_has) := goodIn_app (goodIn_of _ (by decide +kernel)) ggX5_isOpen_X5_has
theorem dX5_isOpen_0 : decode cX5_isOpen 0 = .ok (.aload_n 0, 1) := by decide +kernel
theorem dX5_isOpen_1 : decode cX5_isOpen 1 = .ok (.iload_n 1, 1) := by decide +kernel
theorem dX5_isOpen_2 : decode cX5_isOpen 2 = .ok (.iload_n 2, 1) := by decide +kernel
theorem dX5_isOpen_3 : decode cX5_isOpen 3 = .ok (.invokevirtual 46, 3) := by decide +kernel
theorem dX5_isOpen_6 : decode cX5_isOpen 6 = .ok (.ifCond .lt 38, 3) := by decide +kernel
theorem dX5_isOpen_9 : decode cX5_isOpen 9 = .ok (.aload_n 0, 1) := by decide +kernel
theorem dX5_isOpen_10 : decode cX5_isOpen 10 = .ok (.iload_n 1, 1) := by decide +kernel
theorem dX5_isOpen_11 : decode cX5_isOpen 11 = .ok (.iload_n 2, 1) := by decide +kernel
theorem dX5_isOpen_12 : decode cX5_isOpen 12 = .ok (.invokevirtual 52, 3) := by decide +kernel
theorem dX5_isOpen_15 : decode cX5_isOpen 15 = .ok (.bipush 60, 2) := by decide +kernel
theorem dX5_isOpen_17 : decode cX5_isOpen 17 = .ok (.if_icmp .ge 27, 3) := by decide +kernel
theorem dX5_isOpen_20 : decode cX5_isOpen 20 = .ok (.aload_n 0, 1) := by decide +kernel
theorem dX5_isOpen_21 : decode cX5_isOpen 21 = .ok (.iload_n 1, 1) := by decide +kernel
theorem dX5_isOpen_22 : decode cX5_isOpen 22 = .ok (.iload_n 2, 1) := by decide +kernel
theorem dX5_isOpen_23 : decode cX5_isOpen 23 = .ok (.invokevirtual 49, 3) := by decide +kernel
theorem dX5_isOpen_26 : decode cX5_isOpen 26 = .ok (.ifCond .lt 18, 3) := by decide +kernel
theorem dX5_isOpen_29 : decode cX5_isOpen 29 = .ok (.aload_n 0, 1) := by decide +kernel
theorem dX5_isOpen_30 : decode cX5_isOpen 30 = .ok (.iload_n 1, 1) := by decide +kernel
theorem dX5_isOpen_31 : decode cX5_isOpen 31 = .ok (.iload_n 2, 1) := by decide +kernel
theorem dX5_isOpen_32 : decode cX5_isOpen 32 = .ok (.invokevirtual 55, 3) := by decide +kernel
theorem dX5_isOpen_35 : decode cX5_isOpen 35 = .ok (.bipush 40, 2) := by decide +kernel
theorem dX5_isOpen_37 : decode cX5_isOpen 37 = .ok (.if_icmp .ge 7, 3) := by decide +kernel
theorem dX5_isOpen_40 : decode cX5_isOpen 40 = .ok (.iconst 1, 1) := by decide +kernel
theorem dX5_isOpen_41 : decode cX5_isOpen 41 = .ok (.goto 4, 3) := by decide +kernel
theorem dX5_isOpen_44 : decode cX5_isOpen 44 = .ok (.iconst 0, 1) := by decide +kernel
theorem dX5_isOpen_45 : decode cX5_isOpen 45 = .ok (.istore_n 3, 1) := by decide +kernel
theorem dX5_isOpen_46 : decode cX5_isOpen 46 = .ok (.iconst 0, 1) := by decide +kernel
theorem dX5_isOpen_47 : decode cX5_isOpen 47 = .ok (.istore 4, 2) := by decide +kernel
theorem dX5_isOpen_49 : decode cX5_isOpen 49 = .ok (.iload 4, 2) := by decide +kernel
theorem dX5_isOpen_51 : decode cX5_isOpen 51 = .ok (.aload_n 0, 1) := by decide +kernel
theorem dX5_isOpen_52 : decode cX5_isOpen 52 = .ok (.getfield 7, 3) := by decide +kernel
theorem dX5_isOpen_55 : decode cX5_isOpen 55 = .ok (.iconst 0, 1) := by decide +kernel
theorem dX5_isOpen_56 : decode cX5_isOpen 56 = .ok (.iaload, 1) := by decide +kernel
theorem dX5_isOpen_57 : decode cX5_isOpen 57 = .ok (.if_icmp .ge 42, 3) := by decide +kernel
theorem dX5_isOpen_60 : decode cX5_isOpen 60 = .ok (.iload_n 3, 1) := by decide +kernel
theorem dX5_isOpen_61 : decode cX5_isOpen 61 = .ok (.ifCond .eq 30, 3) := by decide +kernel
theorem dX5_isOpen_64 : decode cX5_isOpen 64 = .ok (.aload_n 0, 1) := by decide +kernel
theorem dX5_isOpen_65 : decode cX5_isOpen 65 = .ok (.iload_n 1, 1) := by decide +kernel
theorem dX5_isOpen_66 : decode cX5_isOpen 66 = .ok (.iload_n 2, 1) := by decide +kernel
theorem dX5_isOpen_67 : decode cX5_isOpen 67 = .ok (.aload_n 0, 1) := by decide +kernel
theorem dX5_isOpen_68 : decode cX5_isOpen 68 = .ok (.iload 4, 2) := by decide +kernel
theorem dX5_isOpen_70 : decode cX5_isOpen 70 = .ok (.iconst 0, 1) := by decide +kernel
theorem dX5_isOpen_71 : decode cX5_isOpen 71 = .ok (.invokevirtual 39, 3) := by decide +kernel
theorem dX5_isOpen_74 : decode cX5_isOpen 74 = .ok (.aload_n 0, 1) := by decide +kernel
theorem dX5_isOpen_75 : decode cX5_isOpen 75 = .ok (.iload 4, 2) := by decide +kernel
theorem dX5_isOpen_77 : decode cX5_isOpen 77 = .ok (.iconst 1, 1) := by decide +kernel
theorem dX5_isOpen_78 : decode cX5_isOpen 78 = .ok (.invokevirtual 39, 3) := by decide +kernel
theorem dX5_isOpen_81 : decode cX5_isOpen 81 = .ok (.invokevirtual 58, 3) := by decide +kernel
theorem dX5_isOpen_84 : decode cX5_isOpen 84 = .ok (.ifCond .ne 7, 3) := by decide +kernel
theorem dX5_isOpen_87 : decode cX5_isOpen 87 = .ok (.iconst 1, 1) := by decide +kernel
theorem dX5_isOpen_88 : decode cX5_isOpen 88 = .ok (.goto 4, 3) := by decide +kernel
theorem dX5_isOpen_91 : decode cX5_isOpen 91 = .ok (.iconst 0, 1) := by decide +kernel
theorem dX5_isOpen_92 : decode cX5_isOpen 92 = .ok (.istore_n 3, 1) := by decide +kernel
theorem dX5_isOpen_93 : decode cX5_isOpen 93 = .ok (.iinc 4 1, 3) := by decide +kernel
theorem dX5_isOpen_96 : decode cX5_isOpen 96 = .ok (.goto (-47), 3) := by decide +kernel
theorem dX5_isOpen_99 : decode cX5_isOpen 99 = .ok (.iload_n 3, 1) := by decide +kernel
theorem dX5_isOpen_100 : decode cX5_isOpen 100 = .ok (.ireturn, 1) := by decide +kernel
set_option maxRecDepth 20000 in
theorem ggX5_openOf_X5_isOpen : GoodIn wsX5_openOf wsX5_isOpen := goodIn_r _ [5, 6, 7, 8, 9, 4, 10, 11, 12, 13, 14, 15, 16, 17, 18, 19, 20, 21, 22, 23, 24, 25, 26, 27, 28, 29, 30, 31, 32, 33, 34, 35, 36, 37, 38, 39, 40, 41, 42, 43, 44, 45, 46, 47, 48, 49] (by decide +kernel) (by decide +kernel)
set_option maxRecDepth 20000 in
theorem gX5_openOf_X5_isOpen : GoodIn wsX5_openOf (wsV RX5 62 RX5 yX5_isOpen wsX5_isOpen) := goodIn_app (goodIn_of _ (by decide +kernel)) ggX5_openOf_X5_isOpen
theorem dX5_openOf_0 : decode cX5_openOf 0 = .ok (.iconst 0, 1) := by decide +kernel
theorem dX5_openOf_1 : decode cX5_openOf 1 = .ok (.istore_n 2, 1) := by decide +kernel
theorem dX5_openOf_2 : decode cX5_openOf 2 = .ok (.iconst 0, 1) := by decide +kernel
theorem dX5_openOf_3 : decode cX5_openOf 3 = .ok (.istore_n 3, 1) := by decide +kernel
theorem dX5_openOf_4 : decode cX5_openOf 4 = .ok (.iload_n 3, 1) := by decide +kernel
theorem dX5_openOf_5 : decode cX5_openOf 5 = .ok (.iconst 4, 1) := by decide +kernel
theorem dX5_openOf_6 : decode cX5_openOf 6 = .ok (.if_icmp .ge 28, 3) := by decide +kernel
theorem dX5_openOf_9 : decode cX5_openOf 9 = .ok (.iload_n 2, 1) := by decide +kernel
theorem dX5_openOf_10 : decode cX5_openOf 10 = .ok (.aload_n 0, 1) := by decide +kernel
theorem dX5_openOf_11 : decode cX5_openOf 11 = .ok (.iload_n 1, 1) := by decide +kernel
theorem dX5_openOf_12 : decode cX5_openOf 12 = .ok (.iload_n 3, 1) := by decide +kernel
theorem dX5_openOf_13 : decode cX5_openOf 13 = .ok (.invokevirtual 62, 3) := by decide +kernel
theorem dX5_openOf_16 : decode cX5_openOf 16 = .ok (.ifCond .eq 9, 3) := by decide +kernel
theorem dX5_openOf_19 : decode cX5_openOf 19 = .ok (.iconst 1, 1) := by decide +kernel
theorem dX5_openOf_20 : decode cX5_openOf 20 = .ok (.iload_n 3, 1) := by decide +kernel
theorem dX5_openOf_21 : decode cX5_openOf 21 = .ok (.ishl, 1) := by decide +kernel
theorem dX5_openOf_22 : decode cX5_openOf 22 = .ok (.goto 4, 3) := by decide +kernel
theorem dX5_openOf_25 : decode cX5_openOf 25 = .ok (.iconst 0, 1) := by decide +kernel
theorem dX5_openOf_26 : decode cX5_openOf 26 = .ok (.ior, 1) := by decide +kernel
theorem dX5_openOf_27 : decode cX5_openOf 27 = .ok (.istore_n 2, 1) := by decide +kernel
theorem dX5_openOf_28 : decode cX5_openOf 28 = .ok (.iinc 3 1, 3) := by decide +kernel
theorem dX5_openOf_31 : decode cX5_openOf 31 = .ok (.goto (-27), 3) := by decide +kernel
theorem dX5_openOf_34 : decode cX5_openOf 34 = .ok (.iload_n 2, 1) := by decide +kernel
theorem dX5_openOf_35 : decode cX5_openOf 35 = .ok (.ireturn, 1) := by decide +kernel
theorem dX5_lesser_0 : decode cX5_lesser 0 = .ok (.iload_n 0, 1) := by decide +kernel
theorem dX5_lesser_1 : decode cX5_lesser 1 = .ok (.iload_n 1, 1) := by decide +kernel
theorem dX5_lesser_2 : decode cX5_lesser 2 = .ok (.if_icmp .ge 7, 3) := by decide +kernel
theorem dX5_lesser_5 : decode cX5_lesser 5 = .ok (.iload_n 0, 1) := by decide +kernel
theorem dX5_lesser_6 : decode cX5_lesser 6 = .ok (.goto 4, 3) := by decide +kernel
theorem dX5_lesser_9 : decode cX5_lesser 9 = .ok (.iload_n 1, 1) := by decide +kernel
theorem dX5_lesser_10 : decode cX5_lesser 10 = .ok (.ireturn, 1) := by decide +kernel
theorem dX5_greater_0 : decode cX5_greater 0 = .ok (.iload_n 0, 1) := by decide +kernel
theorem dX5_greater_1 : decode cX5_greater 1 = .ok (.iload_n 1, 1) := by decide +kernel
theorem dX5_greater_2 : decode cX5_greater 2 = .ok (.if_icmp .le 7, 3) := by decide +kernel
theorem dX5_greater_5 : decode cX5_greater 5 = .ok (.iload_n 0, 1) := by decide +kernel
theorem dX5_greater_6 : decode cX5_greater 6 = .ok (.goto 4, 3) := by decide +kernel
theorem dX5_greater_9 : decode cX5_greater 9 = .ok (.iload_n 1, 1) := by decide +kernel
theorem dX5_greater_10 : decode cX5_greater 10 = .ok (.ireturn, 1) := by decide +kernel
set_option maxRecDepth 20000 in
theorem ggX5_common_X5_right : GoodIn wsX5_common wsX5_right := goodIn_r _ [5, 6, 7, 8, 4, 9, 10, 11, 12, 13, 14, 29, 30, 31, 32, 33, 34, 35, 36, 37, 38, 39, 40, 41, 42, 43, 44] (by decide +kernel) (by decide +kernel)
set_option maxRecDepth 20000 in
theorem gX5_common_X5_right : GoodIn wsX5_common (wsV RX5 52 RX5 yX5_right wsX5_right) := goodIn_app (goodIn_of _ (by decide +kernel)) ggX5_common_X5_right
set_option maxRecDepth 20000 in
theorem ggX5_common_X5_lesser : GoodIn wsX5_common wsX5_lesser := goodIn_r _ [17] (by decide +kernel) (by decide +kernel)
set_option maxRecDepth 20000 in
theorem gX5_common_X5_lesser : GoodIn wsX5_common (va_wsS RX5 66 yX5_lesser wsX5_lesser) := goodIn_app (goodIn_of _ (by decide +kernel)) ggX5_common_X5_lesser
set_option maxRecDepth 20000 in
theorem ggX5_common_X5_left : GoodIn wsX5_common wsX5_left := goodIn_r _ [9, 10, 11, 12, 4, 13, 14, 29, 30, 31, 32, 33, 34, 35, 36, 37, 38, 39, 40, 41, 42, 43, 44] (by decide +kernel) (by decide +kernel)
set_option maxRecDepth 20000 in
theorem gX5_common_X5_left : GoodIn wsX5_common (wsV RX5 46 RX5 yX5_left wsX5_left) := goodIn_app (goodIn_of _ (by decide +kernel)) ggX5_common_X5_left
set_option maxRecDepth 20000 in
theorem ggX5_common_X5_greater : GoodIn wsX5_common wsX5_greater := goodIn_r _ [20] (by decide +kernel) (by decide +kernel)
set_option maxRecDepth 20000 in
theorem gX5_common_X5_greater : GoodIn wsX5_common (va_wsS RX5 69 yX5_greater wsX5_greater) := goodIn_app (goodIn_of _ (by decide +kernel)) ggX5_common_X5_greater
set_option maxRecDepth 20000 in
theorem ggX5_common_X5_high : GoodIn wsX5_common wsX5_high := goodIn_r _ [24, 25, 26, 27, 4, 28, 10, 11, 12, 13, 14, 29, 30, 31, 32, 33, 34, 35, 36, 37, 38, 39, 40, 41, 42, 43, 44] (by decide +kernel) (by decide +kernel)
set_option maxRecDepth 20000 in
theorem gX5_common_X5_high : GoodIn wsX5_common (wsV RX5 55 RX5 yX5_high wsX5_high) := goodIn_app (goodIn_of _ (by decide +kernel)) ggX5_common_X5_high
set_option maxRecDepth 20000 in
theorem ggX5_common_X5_low : GoodIn wsX5_common wsX5_low := goodIn_r _ [28, 10, 11, 12, 4, 13, 14, 29, 30, 31, 32, 33, 34, 35, 36, 37, 38, 39, 40, 41, 42, 43, 44] (by decide +kernel) (by decide +kernel)
set_option maxRecDepth 20000 in
theorem gX5_common_X5_low : GoodIn wsX5_common (wsV RX5 49 RX5 yX5_low wsX5_low) := goodIn_app (goodIn_of _ (by decide +kernel)) ggX5_common_X5_low
theorem dX5_common_0 : decode cX5_common 0 = .ok (.aload_n 0, 1) := by decide +kernel
theorem dX5_common_1 : decode cX5_common 1 = .ok (.iload_n 1, 1) := by decide +kernel
theorem dX5_common_2 : decode cX5_common 2 = .ok (.iload_n 2, 1) := by decide +kernel
theorem dX5_common_3 : decode cX5_common 3 = .ok (.invokevirtual 52, 3) := by decide +kernel
theorem dX5_common_6 : decode cX5_common 6 = .ok (.aload_n 0, 1) := by decide +kernel
theorem dX5_common_7 : decode cX5_common 7 = .ok (.iload_n 3, 1) := by decide +kernel
theorem dX5_common_8 : decode cX5_common 8 = .ok (.iload 4, 2) := by decide +kernel
theorem dX5_common_10 : decode cX5_common 10 = .ok (.invokevirtual 52, 3) := by decide +kernel
theorem dX5_common_13 : decode cX5_common 13 = .ok (.invokestatic 66, 3) := by decide +kernel
theorem dX5_common_16 : decode cX5_common 16 = .ok (.aload_n 0, 1) := by decide +kernel
theorem dX5_common_17 : decode cX5_common 17 = .ok (.iload_n 1, 1) := by decide +kernel
theorem dX5_common_18 : decode cX5_common 18 = .ok (.iload_n 2, 1) := by decide +kernel
theorem dX5_common_19 : decode cX5_common 19 = .ok (.invokevirtual 46, 3) := by decide +kernel
theorem dX5_common_22 : decode cX5_common 22 = .ok (.aload_n 0, 1) := by decide +kernel
theorem dX5_common_23 : decode cX5_common 23 = .ok (.iload_n 3, 1) := by decide +kernel
theorem dX5_common_24 : decode cX5_common 24 = .ok (.iload 4, 2) := by decide +kernel
theorem dX5_common_26 : decode cX5_common 26 = .ok (.invokevirtual 46, 3) := by decide +kernel
theorem dX5_common_29 : decode cX5_common 29 = .ok (.invokestatic 69, 3) := by decide +kernel
theorem dX5_common_32 : decode cX5_common 32 = .ok (.isub, 1) := by decide +kernel
theorem dX5_common_33 : decode cX5_common 33 = .ok (.iconst 1, 1) := by decide +kernel
theorem dX5_common_34 : decode cX5_common 34 = .ok (.iadd, 1) := by decide +kernel
theorem dX5_common_35 : decode cX5_common 35 = .ok (.istore 5, 2) := by decide +kernel
theorem dX5_common_37 : decode cX5_common 37 = .ok (.aload_n 0, 1) := by decide +kernel
theorem dX5_common_38 : decode cX5_common 38 = .ok (.iload_n 1, 1) := by decide +kernel
theorem dX5_common_39 : decode cX5_common 39 = .ok (.iload_n 2, 1) := by decide +kernel
theorem dX5_common_40 : decode cX5_common 40 = .ok (.invokevirtual 55, 3) := by decide +kernel
theorem dX5_common_43 : decode cX5_common 43 = .ok (.aload_n 0, 1) := by decide +kernel
theorem dX5_common_44 : decode cX5_common 44 = .ok (.iload_n 3, 1) := by decide +kernel
theorem dX5_common_45 : decode cX5_common 45 = .ok (.iload 4, 2) := by decide +kernel
theorem dX5_common_47 : decode cX5_common 47 = .ok (.invokevirtual 55, 3) := by decide +kernel
theorem dX5_common_50 : decode cX5_common 50 = .ok (.invokestatic 66, 3) := by decide +kernel
theorem dX5_common_53 : decode cX5_common 53 = .ok (.aload_n 0, 1) := by decide +kernel
theorem dX5_common_54 : decode cX5_common 54 = .ok (.iload_n 1, 1) := by decide +kernel
theorem dX5_common_55 : decode cX5_common 55 = .ok (.iload_n 2, 1) := by decide +kernel
theorem dX5_common_56 : decode cX5_common 56 = .ok (.invokevirtual 49, 3) := by decide +kernel
theorem dX5_common_59 : decode cX5_common 59 = .ok (.aload_n 0, 1) := by decide +kernel
theorem dX5_common_60 : decode cX5_common 60 = .ok (.iload_n 3, 1) := by decide +kernel
theorem dX5_common_61 : decode cX5_common 61 = .ok (.iload 4, 2) := by decide +kernel
theorem dX5_common_63 : decode cX5_common 63 = .ok (.invokevirtual 49, 3) := by decide +kernel
theorem dX5_common_66 : decode cX5_common 66 = .ok (.invokestatic 69, 3) := by decide +kernel
theorem dX5_common_69 : decode cX5_common 69 = .ok (.isub, 1) := by decide +kernel
theorem dX5_common_70 : decode cX5_common 70 = .ok (.iconst 1, 1) := by decide +kernel
theorem dX5_common_71 : decode cX5_common 71 = .ok (.iadd, 1) := by decide +kernel
theorem dX5_common_72 : decode cX5_common 72 = .ok (.istore 6, 2) := by decide +kernel
theorem dX5_common_74 : decode cX5_common 74 = .ok (.iload 5, 2) := by decide +kernel
theorem dX5_common_76 : decode cX5_common 76 = .ok (.ifCond .le 16, 3) := by decide +kernel
theorem dX5_common_79 : decode cX5_common 79 = .ok (.iload 6, 2) := by decide +kernel
theorem dX5_common_81 : decode cX5_common 81 = .ok (.ifCond .le 11, 3) := by decide +kernel
theorem dX5_common_84 : decode cX5_common 84 = .ok (.iload 5, 2) := by decide +kernel
theorem dX5_common_86 : decode cX5_common 86 = .ok (.iload 6, 2) := by decide +kernel
theorem dX5_common_88 : decode cX5_common 88 = .ok (.imul, 1) := by decide +kernel
theorem dX5_common_89 : decode cX5_common 89 = .ok (.goto 4, 3) := by decide +kernel
theorem dX5_common_92 : decode cX5_common 92 = .ok (.iconst 0, 1) := by decide +kernel
theorem dX5_common_93 : decode cX5_common 93 = .ok (.ireturn, 1) := by decide +kernel
set_option maxRecDepth 20000 in
theorem ggX5_canStand_X5_isOpen : GoodIn wsX5_canStand wsX5_isOpen := goodIn_r _ [6, 1, 7, 8, 9, 5, 10, 11, 12, 13, 14, 15, 16, 17, 18, 19, 20, 21, 22, 23, 24, 25, 26, 27, 28, 29, 30, 31, 32, 33, 48, 49, 50, 51, 52, 53, 54, 55, 56, 57, 58, 59, 60, 61, 62, 63] (by decide +kernel) (by decide +kernel)
set_option maxRecDepth 20000 in
theorem gX5_canStand_X5_isOpen : GoodIn wsX5_canStand (wsV RX5 62 RX5 yX5_isOpen wsX5_isOpen) := goodIn_app (goodIn_of _ (by decide +kernel)) ggX5_canStand_X5_isOpen
set_option maxRecDepth 20000 in
theorem ggX5_canStand_X5_cornerOf : GoodIn wsX5_canStand wsX5_cornerOf := goodIn_r _ [37, 11, 12, 13, 5, 14, 1, 48, 49, 50, 51, 52, 53, 54, 55, 56, 57, 58, 59, 60, 61, 62, 63] (by decide +kernel) (by decide +kernel)
set_option maxRecDepth 20000 in
theorem gX5_canStand_X5_cornerOf : GoodIn wsX5_canStand (wsV RX5 72 RX5 yX5_cornerOf wsX5_cornerOf) := goodIn_app (goodIn_of _ (by decide +kernel)) ggX5_canStand_X5_cornerOf
set_option maxRecDepth 20000 in
theorem ggX5_canStand_X5_common : GoodIn wsX5_canStand wsX5_common := goodIn_r _ [41, 15, 16, 17, 5, 18, 7, 8, 9, 10, 11, 12, 13, 14, 1, 42, 43, 44, 45, 46, 47, 23, 24, 25, 26, 19, 20, 21, 22, 48, 49, 50, 51, 52, 53, 54, 55, 56, 57, 58, 59, 60, 61, 62, 63] (by decide +kernel) (by decide +kernel)
set_option maxRecDepth 20000 in
theorem gX5_canStand_X5_common : GoodIn wsX5_canStand (wsV RX5 76 RX5 yX5_common wsX5_common) := goodIn_app (goodIn_of _ (by decide +kernel)) ggX5_canStand_X5_common
theorem dX5_canStand_0 : decode cX5_canStand 0 = .ok (.aload_n 0, 1) := by decide +kernel
theorem dX5_canStand_1 : decode cX5_canStand 1 = .ok (.iload_n 1, 1) := by decide +kernel
theorem dX5_canStand_2 : decode cX5_canStand 2 = .ok (.iload_n 2, 1) := by decide +kernel
theorem dX5_canStand_3 : decode cX5_canStand 3 = .ok (.invokevirtual 62, 3) := by decide +kernel
theorem dX5_canStand_6 : decode cX5_canStand 6 = .ok (.istore_n 3, 1) := by decide +kernel
theorem dX5_canStand_7 : decode cX5_canStand 7 = .ok (.iconst 0, 1) := by decide +kernel
theorem dX5_canStand_8 : decode cX5_canStand 8 = .ok (.istore 4, 2) := by decide +kernel
theorem dX5_canStand_10 : decode cX5_canStand 10 = .ok (.iload 4, 2) := by decide +kernel
theorem dX5_canStand_12 : decode cX5_canStand 12 = .ok (.aload_n 0, 1) := by decide +kernel
theorem dX5_canStand_13 : decode cX5_canStand 13 = .ok (.getfield 7, 3) := by decide +kernel
theorem dX5_canStand_16 : decode cX5_canStand 16 = .ok (.iconst 0, 1) := by decide +kernel
theorem dX5_canStand_17 : decode cX5_canStand 17 = .ok (.iaload, 1) := by decide +kernel
theorem dX5_canStand_18 : decode cX5_canStand 18 = .ok (.if_icmp .ge 52, 3) := by decide +kernel
theorem dX5_canStand_21 : decode cX5_canStand 21 = .ok (.iload_n 3, 1) := by decide +kernel
theorem dX5_canStand_22 : decode cX5_canStand 22 = .ok (.ifCond .eq 40, 3) := by decide +kernel
theorem dX5_canStand_25 : decode cX5_canStand 25 = .ok (.iload 4, 2) := by decide +kernel
theorem dX5_canStand_27 : decode cX5_canStand 27 = .ok (.iload_n 1, 1) := by decide +kernel
theorem dX5_canStand_28 : decode cX5_canStand 28 = .ok (.if_icmp .eq 30, 3) := by decide +kernel
theorem dX5_canStand_31 : decode cX5_canStand 31 = .ok (.aload_n 0, 1) := by decide +kernel
theorem dX5_canStand_32 : decode cX5_canStand 32 = .ok (.iload 4, 2) := by decide +kernel
theorem dX5_canStand_34 : decode cX5_canStand 34 = .ok (.invokevirtual 72, 3) := by decide +kernel
theorem dX5_canStand_37 : decode cX5_canStand 37 = .ok (.iconst (-1), 1) := by decide +kernel
theorem dX5_canStand_38 : decode cX5_canStand 38 = .ok (.if_icmp .eq 20, 3) := by decide +kernel
theorem dX5_canStand_41 : decode cX5_canStand 41 = .ok (.aload_n 0, 1) := by decide +kernel
theorem dX5_canStand_42 : decode cX5_canStand 42 = .ok (.iload_n 1, 1) := by decide +kernel
theorem dX5_canStand_43 : decode cX5_canStand 43 = .ok (.iload_n 2, 1) := by decide +kernel
theorem dX5_canStand_44 : decode cX5_canStand 44 = .ok (.iload 4, 2) := by decide +kernel
theorem dX5_canStand_46 : decode cX5_canStand 46 = .ok (.aload_n 0, 1) := by decide +kernel
theorem dX5_canStand_47 : decode cX5_canStand 47 = .ok (.iload 4, 2) := by decide +kernel
theorem dX5_canStand_49 : decode cX5_canStand 49 = .ok (.invokevirtual 72, 3) := by decide +kernel
theorem dX5_canStand_52 : decode cX5_canStand 52 = .ok (.invokevirtual 76, 3) := by decide +kernel
theorem dX5_canStand_55 : decode cX5_canStand 55 = .ok (.ifCond .ne 7, 3) := by decide +kernel
theorem dX5_canStand_58 : decode cX5_canStand 58 = .ok (.iconst 1, 1) := by decide +kernel
theorem dX5_canStand_59 : decode cX5_canStand 59 = .ok (.goto 4, 3) := by decide +kernel
theorem dX5_canStand_62 : decode cX5_canStand 62 = .ok (.iconst 0, 1) := by decide +kernel
theorem dX5_canStand_63 : decode cX5_canStand 63 = .ok (.istore_n 3, 1) := by decide +kernel
theorem dX5_canStand_64 : decode cX5_canStand 64 = .ok (.iinc 4 1, 3) := by decide +kernel
theorem dX5_canStand_67 : decode cX5_canStand 67 = .ok (.goto (-57), 3) := by decide +kernel
theorem dX5_canStand_70 : decode cX5_canStand 70 = .ok (.iload_n 3, 1) := by decide +kernel
theorem dX5_canStand_71 : decode cX5_canStand 71 = .ok (.ireturn, 1) := by decide +kernel
theorem dX5_ones_0 : decode cX5_ones 0 = .ok (.iload_n 0, 1) := by decide +kernel
theorem dX5_ones_1 : decode cX5_ones 1 = .ok (.iconst 1, 1) := by decide +kernel
theorem dX5_ones_2 : decode cX5_ones 2 = .ok (.iand, 1) := by decide +kernel
theorem dX5_ones_3 : decode cX5_ones 3 = .ok (.iload_n 0, 1) := by decide +kernel
theorem dX5_ones_4 : decode cX5_ones 4 = .ok (.iconst 1, 1) := by decide +kernel
theorem dX5_ones_5 : decode cX5_ones 5 = .ok (.ishr, 1) := by decide +kernel
theorem dX5_ones_6 : decode cX5_ones 6 = .ok (.iconst 1, 1) := by decide +kernel
theorem dX5_ones_7 : decode cX5_ones 7 = .ok (.iand, 1) := by decide +kernel
theorem dX5_ones_8 : decode cX5_ones 8 = .ok (.iadd, 1) := by decide +kernel
theorem dX5_ones_9 : decode cX5_ones 9 = .ok (.iload_n 0, 1) := by decide +kernel
theorem dX5_ones_10 : decode cX5_ones 10 = .ok (.iconst 2, 1) := by decide +kernel
theorem dX5_ones_11 : decode cX5_ones 11 = .ok (.ishr, 1) := by decide +kernel
theorem dX5_ones_12 : decode cX5_ones 12 = .ok (.iconst 1, 1) := by decide +kernel
theorem dX5_ones_13 : decode cX5_ones 13 = .ok (.iand, 1) := by decide +kernel
theorem dX5_ones_14 : decode cX5_ones 14 = .ok (.iadd, 1) := by decide +kernel
theorem dX5_ones_15 : decode cX5_ones 15 = .ok (.iload_n 0, 1) := by decide +kernel
theorem dX5_ones_16 : decode cX5_ones 16 = .ok (.iconst 3, 1) := by decide +kernel
theorem dX5_ones_17 : decode cX5_ones 17 = .ok (.ishr, 1) := by decide +kernel
theorem dX5_ones_18 : decode cX5_ones 18 = .ok (.iconst 1, 1) := by decide +kernel
theorem dX5_ones_19 : decode cX5_ones 19 = .ok (.iand, 1) := by decide +kernel
theorem dX5_ones_20 : decode cX5_ones 20 = .ok (.iadd, 1) := by decide +kernel
theorem dX5_ones_21 : decode cX5_ones 21 = .ok (.ireturn, 1) := by decide +kernel
set_option maxRecDepth 20000 in
theorem ggX5_fits_X5_common : GoodIn wsX5_fits wsX5_common := goodIn_r _ [7, 8, 9, 10, 6, 11, 12, 13, 14, 15, 16, 17, 18, 19, 20, 21, 22, 23, 24, 25, 26, 27, 28, 29, 30, 31, 32, 33, 34, 35, 36, 37, 38, 39, 40, 41, 42, 43, 44, 45, 46, 47, 48, 49, 50] (by decide +kernel) (by decide +kernel)
set_option maxRecDepth 20000 in
theorem gX5_fits_X5_common : GoodIn wsX5_fits (wsV RX5 76 RX5 yX5_common wsX5_common) := goodIn_app (goodIn_of _ (by decide +kernel)) ggX5_fits_X5_common
theorem dX5_fits_0 : decode cX5_fits 0 = .ok (.aload_n 0, 1) := by decide +kernel
theorem dX5_fits_1 : decode cX5_fits 1 = .ok (.getfield 19, 3) := by decide +kernel
theorem dX5_fits_4 : decode cX5_fits 4 = .ok (.iload_n 1, 1) := by decide +kernel
theorem dX5_fits_5 : decode cX5_fits 5 = .ok (.iaload, 1) := by decide +kernel
theorem dX5_fits_6 : decode cX5_fits 6 = .ok (.istore_n 2, 1) := by decide +kernel
theorem dX5_fits_7 : decode cX5_fits 7 = .ok (.aload_n 0, 1) := by decide +kernel
theorem dX5_fits_8 : decode cX5_fits 8 = .ok (.getfield 22, 3) := by decide +kernel
theorem dX5_fits_11 : decode cX5_fits 11 = .ok (.iload_n 1, 1) := by decide +kernel
theorem dX5_fits_12 : decode cX5_fits 12 = .ok (.iaload, 1) := by decide +kernel
theorem dX5_fits_13 : decode cX5_fits 13 = .ok (.iload_n 2, 1) := by decide +kernel
theorem dX5_fits_14 : decode cX5_fits 14 = .ok (.ishr, 1) := by decide +kernel
theorem dX5_fits_15 : decode cX5_fits 15 = .ok (.iconst 1, 1) := by decide +kernel
theorem dX5_fits_16 : decode cX5_fits 16 = .ok (.iand, 1) := by decide +kernel
theorem dX5_fits_17 : decode cX5_fits 17 = .ok (.iconst 1, 1) := by decide +kernel
theorem dX5_fits_18 : decode cX5_fits 18 = .ok (.if_icmp .ne 7, 3) := by decide +kernel
theorem dX5_fits_21 : decode cX5_fits 21 = .ok (.iconst 1, 1) := by decide +kernel
theorem dX5_fits_22 : decode cX5_fits 22 = .ok (.goto 4, 3) := by decide +kernel
theorem dX5_fits_25 : decode cX5_fits 25 = .ok (.iconst 0, 1) := by decide +kernel
theorem dX5_fits_26 : decode cX5_fits 26 = .ok (.istore_n 3, 1) := by decide +kernel
theorem dX5_fits_27 : decode cX5_fits 27 = .ok (.iconst 0, 1) := by decide +kernel
theorem dX5_fits_28 : decode cX5_fits 28 = .ok (.istore 4, 2) := by decide +kernel
theorem dX5_fits_30 : decode cX5_fits 30 = .ok (.iload 4, 2) := by decide +kernel
theorem dX5_fits_32 : decode cX5_fits 32 = .ok (.iload_n 1, 1) := by decide +kernel
theorem dX5_fits_33 : decode cX5_fits 33 = .ok (.if_icmp .ge 53, 3) := by decide +kernel
theorem dX5_fits_36 : decode cX5_fits 36 = .ok (.iload_n 2, 1) := by decide +kernel
theorem dX5_fits_37 : decode cX5_fits 37 = .ok (.iconst 4, 1) := by decide +kernel
theorem dX5_fits_38 : decode cX5_fits 38 = .ok (.if_icmp .eq 48, 3) := by decide +kernel
theorem dX5_fits_41 : decode cX5_fits 41 = .ok (.iload_n 3, 1) := by decide +kernel
theorem dX5_fits_42 : decode cX5_fits 42 = .ok (.ifCond .eq 36, 3) := by decide +kernel
theorem dX5_fits_45 : decode cX5_fits 45 = .ok (.aload_n 0, 1) := by decide +kernel
theorem dX5_fits_46 : decode cX5_fits 46 = .ok (.getfield 19, 3) := by decide +kernel
theorem dX5_fits_49 : decode cX5_fits 49 = .ok (.iload 4, 2) := by decide +kernel
theorem dX5_fits_51 : decode cX5_fits 51 = .ok (.iaload, 1) := by decide +kernel
theorem dX5_fits_52 : decode cX5_fits 52 = .ok (.iconst 4, 1) := by decide +kernel
theorem dX5_fits_53 : decode cX5_fits 53 = .ok (.if_icmp .eq 21, 3) := by decide +kernel
theorem dX5_fits_56 : decode cX5_fits 56 = .ok (.aload_n 0, 1) := by decide +kernel
theorem dX5_fits_57 : decode cX5_fits 57 = .ok (.iload_n 1, 1) := by decide +kernel
theorem dX5_fits_58 : decode cX5_fits 58 = .ok (.iload_n 2, 1) := by decide +kernel
theorem dX5_fits_59 : decode cX5_fits 59 = .ok (.iload 4, 2) := by decide +kernel
theorem dX5_fits_61 : decode cX5_fits 61 = .ok (.aload_n 0, 1) := by decide +kernel
theorem dX5_fits_62 : decode cX5_fits 62 = .ok (.getfield 19, 3) := by decide +kernel
theorem dX5_fits_65 : decode cX5_fits 65 = .ok (.iload 4, 2) := by decide +kernel
theorem dX5_fits_67 : decode cX5_fits 67 = .ok (.iaload, 1) := by decide +kernel
theorem dX5_fits_68 : decode cX5_fits 68 = .ok (.invokevirtual 76, 3) := by decide +kernel
theorem dX5_fits_71 : decode cX5_fits 71 = .ok (.ifCond .ne 7, 3) := by decide +kernel
theorem dX5_fits_74 : decode cX5_fits 74 = .ok (.iconst 1, 1) := by decide +kernel
theorem dX5_fits_75 : decode cX5_fits 75 = .ok (.goto 4, 3) := by decide +kernel
theorem dX5_fits_78 : decode cX5_fits 78 = .ok (.iconst 0, 1) := by decide +kernel
theorem dX5_fits_79 : decode cX5_fits 79 = .ok (.istore_n 3, 1) := by decide +kernel
theorem dX5_fits_80 : decode cX5_fits 80 = .ok (.iinc 4 1, 3) := by decide +kernel
theorem dX5_fits_83 : decode cX5_fits 83 = .ok (.goto (-53), 3) := by decide +kernel
theorem dX5_fits_86 : decode cX5_fits 86 = .ok (.iload_n 3, 1) := by decide +kernel
theorem dX5_fits_87 : decode cX5_fits 87 = .ok (.ireturn, 1) := by decide +kernel
set_option maxRecDepth 20000 in
theorem ggX5_worth_X5_cornerOf : GoodIn wsX5_worth wsX5_cornerOf := goodIn_r _ [7, 8, 9, 10, 6, 11, 12, 13, 14, 15, 16, 17, 18, 19, 20, 21, 22, 23, 24, 25, 26, 27, 28] (by decide +kernel) (by decide +kernel)
set_option maxRecDepth 20000 in
theorem gX5_worth_X5_cornerOf : GoodIn wsX5_worth (wsV RX5 72 RX5 yX5_cornerOf wsX5_cornerOf) := goodIn_app (goodIn_of _ (by decide +kernel)) ggX5_worth_X5_cornerOf
set_option maxRecDepth 20000 in
theorem ggX5_worth_X5_of : GoodIn wsX5_worth wsX5_of := goodIn_r _ [11, 12, 13, 14, 15, 16, 17, 18, 19, 20, 21, 22, 23, 24, 25, 26, 27, 28] (by decide +kernel) (by decide +kernel)
set_option maxRecDepth 20000 in
theorem gX5_worth_X5_of : GoodIn wsX5_worth (wsV RX5 39 RX5 yX5_of wsX5_of) := goodIn_app (goodIn_of _ (by decide +kernel)) ggX5_worth_X5_of
theorem dX5_worth_0 : decode cX5_worth 0 = .ok (.iconst 0, 1) := by decide +kernel
theorem dX5_worth_1 : decode cX5_worth 1 = .ok (.istore_n 2, 1) := by decide +kernel
theorem dX5_worth_2 : decode cX5_worth 2 = .ok (.iconst 0, 1) := by decide +kernel
theorem dX5_worth_3 : decode cX5_worth 3 = .ok (.istore_n 3, 1) := by decide +kernel
theorem dX5_worth_4 : decode cX5_worth 4 = .ok (.iload_n 3, 1) := by decide +kernel
theorem dX5_worth_5 : decode cX5_worth 5 = .ok (.iload_n 1, 1) := by decide +kernel
theorem dX5_worth_6 : decode cX5_worth 6 = .ok (.if_icmp .ge 82, 3) := by decide +kernel
theorem dX5_worth_9 : decode cX5_worth 9 = .ok (.aload_n 0, 1) := by decide +kernel
theorem dX5_worth_10 : decode cX5_worth 10 = .ok (.iload_n 3, 1) := by decide +kernel
theorem dX5_worth_11 : decode cX5_worth 11 = .ok (.invokevirtual 72, 3) := by decide +kernel
theorem dX5_worth_14 : decode cX5_worth 14 = .ok (.iconst (-1), 1) := by decide +kernel
theorem dX5_worth_15 : decode cX5_worth 15 = .ok (.if_icmp .eq 21, 3) := by decide +kernel
theorem dX5_worth_18 : decode cX5_worth 18 = .ok (.aload_n 0, 1) := by decide +kernel
theorem dX5_worth_19 : decode cX5_worth 19 = .ok (.getfield 19, 3) := by decide +kernel
theorem dX5_worth_22 : decode cX5_worth 22 = .ok (.iload_n 3, 1) := by decide +kernel
theorem dX5_worth_23 : decode cX5_worth 23 = .ok (.iaload, 1) := by decide +kernel
theorem dX5_worth_24 : decode cX5_worth 24 = .ok (.aload_n 0, 1) := by decide +kernel
theorem dX5_worth_25 : decode cX5_worth 25 = .ok (.iload_n 3, 1) := by decide +kernel
theorem dX5_worth_26 : decode cX5_worth 26 = .ok (.invokevirtual 72, 3) := by decide +kernel
theorem dX5_worth_29 : decode cX5_worth 29 = .ok (.if_icmp .eq 7, 3) := by decide +kernel
theorem dX5_worth_32 : decode cX5_worth 32 = .ok (.iconst 1, 1) := by decide +kernel
theorem dX5_worth_33 : decode cX5_worth 33 = .ok (.goto 4, 3) := by decide +kernel
theorem dX5_worth_36 : decode cX5_worth 36 = .ok (.iconst 0, 1) := by decide +kernel
theorem dX5_worth_37 : decode cX5_worth 37 = .ok (.istore 4, 2) := by decide +kernel
theorem dX5_worth_39 : decode cX5_worth 39 = .ok (.iload_n 2, 1) := by decide +kernel
theorem dX5_worth_40 : decode cX5_worth 40 = .ok (.aload_n 0, 1) := by decide +kernel
theorem dX5_worth_41 : decode cX5_worth 41 = .ok (.getfield 80, 3) := by decide +kernel
theorem dX5_worth_44 : decode cX5_worth 44 = .ok (.ifCond .ne 26, 3) := by decide +kernel
theorem dX5_worth_47 : decode cX5_worth 47 = .ok (.aload_n 0, 1) := by decide +kernel
theorem dX5_worth_48 : decode cX5_worth 48 = .ok (.getfield 19, 3) := by decide +kernel
theorem dX5_worth_51 : decode cX5_worth 51 = .ok (.iload_n 3, 1) := by decide +kernel
theorem dX5_worth_52 : decode cX5_worth 52 = .ok (.iaload, 1) := by decide +kernel
theorem dX5_worth_53 : decode cX5_worth 53 = .ok (.iconst 4, 1) := by decide +kernel
theorem dX5_worth_54 : decode cX5_worth 54 = .ok (.if_icmp .ne 7, 3) := by decide +kernel
theorem dX5_worth_57 : decode cX5_worth 57 = .ok (.iconst 0, 1) := by decide +kernel
theorem dX5_worth_58 : decode cX5_worth 58 = .ok (.goto 22, 3) := by decide +kernel
theorem dX5_worth_61 : decode cX5_worth 61 = .ok (.aload_n 0, 1) := by decide +kernel
theorem dX5_worth_62 : decode cX5_worth 62 = .ok (.iload_n 3, 1) := by decide +kernel
theorem dX5_worth_63 : decode cX5_worth 63 = .ok (.iconst 4, 1) := by decide +kernel
theorem dX5_worth_64 : decode cX5_worth 64 = .ok (.invokevirtual 39, 3) := by decide +kernel
theorem dX5_worth_67 : decode cX5_worth 67 = .ok (.goto 13, 3) := by decide +kernel
theorem dX5_worth_70 : decode cX5_worth 70 = .ok (.iload 4, 2) := by decide +kernel
theorem dX5_worth_72 : decode cX5_worth 72 = .ok (.ifCond .eq 7, 3) := by decide +kernel
theorem dX5_worth_75 : decode cX5_worth 75 = .ok (.iconst 1, 1) := by decide +kernel
theorem dX5_worth_76 : decode cX5_worth 76 = .ok (.goto 4, 3) := by decide +kernel
theorem dX5_worth_79 : decode cX5_worth 79 = .ok (.iconst 0, 1) := by decide +kernel
theorem dX5_worth_80 : decode cX5_worth 80 = .ok (.iadd, 1) := by decide +kernel
theorem dX5_worth_81 : decode cX5_worth 81 = .ok (.istore_n 2, 1) := by decide +kernel
theorem dX5_worth_82 : decode cX5_worth 82 = .ok (.iinc 3 1, 3) := by decide +kernel
theorem dX5_worth_85 : decode cX5_worth 85 = .ok (.goto (-81), 3) := by decide +kernel
theorem dX5_worth_88 : decode cX5_worth 88 = .ok (.iload_n 2, 1) := by decide +kernel
theorem dX5_worth_89 : decode cX5_worth 89 = .ok (.ireturn, 1) := by decide +kernel
set_option maxRecDepth 20000 in
theorem ggX5_weightFrom_X5_of : GoodIn wsX5_weightFrom wsX5_of := goodIn_r _ [6, 1, 7, 8, 9, 10, 11, 12, 13, 14, 15, 16, 17, 18, 19, 20, 21, 22] (by decide +kernel) (by decide +kernel)
set_option maxRecDepth 20000 in
theorem gX5_weightFrom_X5_of : GoodIn wsX5_weightFrom (wsV RX5 39 RX5 yX5_of wsX5_of) := goodIn_app (goodIn_of _ (by decide +kernel)) ggX5_weightFrom_X5_of
theorem dX5_weightFrom_0 : decode cX5_weightFrom 0 = .ok (.iconst 0, 1) := by decide +kernel
theorem dX5_weightFrom_1 : decode cX5_weightFrom 1 = .ok (.istore_n 2, 1) := by decide +kernel
theorem dX5_weightFrom_2 : decode cX5_weightFrom 2 = .ok (.iload_n 1, 1) := by decide +kernel
theorem dX5_weightFrom_3 : decode cX5_weightFrom 3 = .ok (.istore_n 3, 1) := by decide +kernel
theorem dX5_weightFrom_4 : decode cX5_weightFrom 4 = .ok (.iload_n 3, 1) := by decide +kernel
theorem dX5_weightFrom_5 : decode cX5_weightFrom 5 = .ok (.aload_n 0, 1) := by decide +kernel
theorem dX5_weightFrom_6 : decode cX5_weightFrom 6 = .ok (.getfield 7, 3) := by decide +kernel
theorem dX5_weightFrom_9 : decode cX5_weightFrom 9 = .ok (.iconst 0, 1) := by decide +kernel
theorem dX5_weightFrom_10 : decode cX5_weightFrom 10 = .ok (.iaload, 1) := by decide +kernel
theorem dX5_weightFrom_11 : decode cX5_weightFrom 11 = .ok (.if_icmp .ge 18, 3) := by decide +kernel
theorem dX5_weightFrom_14 : decode cX5_weightFrom 14 = .ok (.iload_n 2, 1) := by decide +kernel
theorem dX5_weightFrom_15 : decode cX5_weightFrom 15 = .ok (.aload_n 0, 1) := by decide +kernel
theorem dX5_weightFrom_16 : decode cX5_weightFrom 16 = .ok (.iload_n 3, 1) := by decide +kernel
theorem dX5_weightFrom_17 : decode cX5_weightFrom 17 = .ok (.iconst 4, 1) := by decide +kernel
theorem dX5_weightFrom_18 : decode cX5_weightFrom 18 = .ok (.invokevirtual 39, 3) := by decide +kernel
theorem dX5_weightFrom_21 : decode cX5_weightFrom 21 = .ok (.iadd, 1) := by decide +kernel
theorem dX5_weightFrom_22 : decode cX5_weightFrom 22 = .ok (.istore_n 2, 1) := by decide +kernel
theorem dX5_weightFrom_23 : decode cX5_weightFrom 23 = .ok (.iinc 3 1, 3) := by decide +kernel
theorem dX5_weightFrom_26 : decode cX5_weightFrom 26 = .ok (.goto (-22), 3) := by decide +kernel
theorem dX5_weightFrom_29 : decode cX5_weightFrom 29 = .ok (.iload_n 2, 1) := by decide +kernel
theorem dX5_weightFrom_30 : decode cX5_weightFrom 30 = .ok (.ireturn, 1) := by decide +kernel
set_option maxRecDepth 20000 in
theorem ggX5_canBe_X5_worth : GoodIn wsX5_canBe wsX5_worth := goodIn_r _ [7, 8, 1, 9, 10, 11, 6, 12, 13, 14, 15, 16, 17, 22, 23, 24, 25, 26, 27, 28, 29, 30, 31, 32, 33, 34, 35, 36, 37] (by decide +kernel) (by decide +kernel)
set_option maxRecDepth 20000 in
theorem gX5_canBe_X5_worth : GoodIn wsX5_canBe (wsV RX5 86 RX5 yX5_worth wsX5_worth) := goodIn_app (goodIn_of _ (by decide +kernel)) ggX5_canBe_X5_worth
set_option maxRecDepth 20000 in
theorem ggX5_canBe_X5_weightFrom : GoodIn wsX5_canBe wsX5_weightFrom := goodIn_r _ [21, 17, 13, 14, 15, 6, 16, 22, 23, 24, 25, 26, 27, 28, 29, 30, 31, 32, 33, 34, 35, 36, 37] (by decide +kernel) (by decide +kernel)
set_option maxRecDepth 20000 in
theorem gX5_canBe_X5_weightFrom : GoodIn wsX5_canBe (wsV RX5 89 RX5 yX5_weightFrom wsX5_weightFrom) := goodIn_app (goodIn_of _ (by decide +kernel)) ggX5_canBe_X5_weightFrom
theorem dX5_canBe_0 : decode cX5_canBe 0 = .ok (.aload_n 0, 1) := by decide +kernel
theorem dX5_canBe_1 : decode cX5_canBe 1 = .ok (.getfield 80, 3) := by decide +kernel
theorem dX5_canBe_4 : decode cX5_canBe 4 = .ok (.iconst 2, 1) := by decide +kernel
theorem dX5_canBe_5 : decode cX5_canBe 5 = .ok (.if_icmp .eq 11, 3) := by decide +kernel
theorem dX5_canBe_8 : decode cX5_canBe 8 = .ok (.aload_n 0, 1) := by decide +kernel
theorem dX5_canBe_9 : decode cX5_canBe 9 = .ok (.getfield 83, 3) := by decide +kernel
theorem dX5_canBe_12 : decode cX5_canBe 12 = .ok (.iconst (-1), 1) := by decide +kernel
theorem dX5_canBe_13 : decode cX5_canBe 13 = .ok (.if_icmp .ne 5, 3) := by decide +kernel
theorem dX5_canBe_16 : decode cX5_canBe 16 = .ok (.iconst 1, 1) := by decide +kernel
theorem dX5_canBe_17 : decode cX5_canBe 17 = .ok (.ireturn, 1) := by decide +kernel
theorem dX5_canBe_18 : decode cX5_canBe 18 = .ok (.aload_n 0, 1) := by decide +kernel
theorem dX5_canBe_19 : decode cX5_canBe 19 = .ok (.getfield 80, 3) := by decide +kernel
theorem dX5_canBe_22 : decode cX5_canBe 22 = .ok (.ifCond .ne 29, 3) := by decide +kernel
theorem dX5_canBe_25 : decode cX5_canBe 25 = .ok (.aload_n 0, 1) := by decide +kernel
theorem dX5_canBe_26 : decode cX5_canBe 26 = .ok (.iload_n 1, 1) := by decide +kernel
theorem dX5_canBe_27 : decode cX5_canBe 27 = .ok (.invokevirtual 86, 3) := by decide +kernel
theorem dX5_canBe_30 : decode cX5_canBe 30 = .ok (.aload_n 0, 1) := by decide +kernel
theorem dX5_canBe_31 : decode cX5_canBe 31 = .ok (.iload_n 1, 1) := by decide +kernel
theorem dX5_canBe_32 : decode cX5_canBe 32 = .ok (.invokevirtual 89, 3) := by decide +kernel
theorem dX5_canBe_35 : decode cX5_canBe 35 = .ok (.iadd, 1) := by decide +kernel
theorem dX5_canBe_36 : decode cX5_canBe 36 = .ok (.aload_n 0, 1) := by decide +kernel
theorem dX5_canBe_37 : decode cX5_canBe 37 = .ok (.getfield 83, 3) := by decide +kernel
theorem dX5_canBe_40 : decode cX5_canBe 40 = .ok (.if_icmp .le 7, 3) := by decide +kernel
theorem dX5_canBe_43 : decode cX5_canBe 43 = .ok (.iconst 1, 1) := by decide +kernel
theorem dX5_canBe_44 : decode cX5_canBe 44 = .ok (.goto 24, 3) := by decide +kernel
theorem dX5_canBe_47 : decode cX5_canBe 47 = .ok (.iconst 0, 1) := by decide +kernel
theorem dX5_canBe_48 : decode cX5_canBe 48 = .ok (.goto 20, 3) := by decide +kernel
theorem dX5_canBe_51 : decode cX5_canBe 51 = .ok (.aload_n 0, 1) := by decide +kernel
theorem dX5_canBe_52 : decode cX5_canBe 52 = .ok (.iload_n 1, 1) := by decide +kernel
theorem dX5_canBe_53 : decode cX5_canBe 53 = .ok (.invokevirtual 86, 3) := by decide +kernel
theorem dX5_canBe_56 : decode cX5_canBe 56 = .ok (.aload_n 0, 1) := by decide +kernel
theorem dX5_canBe_57 : decode cX5_canBe 57 = .ok (.getfield 83, 3) := by decide +kernel
theorem dX5_canBe_60 : decode cX5_canBe 60 = .ok (.if_icmp .ge 7, 3) := by decide +kernel
theorem dX5_canBe_63 : decode cX5_canBe 63 = .ok (.iconst 1, 1) := by decide +kernel
theorem dX5_canBe_64 : decode cX5_canBe 64 = .ok (.goto 4, 3) := by decide +kernel
theorem dX5_canBe_67 : decode cX5_canBe 67 = .ok (.iconst 0, 1) := by decide +kernel
theorem dX5_canBe_68 : decode cX5_canBe 68 = .ok (.ireturn, 1) := by decide +kernel
set_option maxRecDepth 20000 in
theorem ggX5_looksAt_X5_canBe : GoodIn wsX5_looksAt wsX5_canBe := goodIn_r _ [10, 1, 2, 11, 12, 13, 9, 14, 5, 15, 16, 17, 18, 19, 20, 21, 22, 3, 23, 24, 25, 26, 27, 28, 29, 30, 31, 32, 33, 34, 35, 36, 37, 38, 39, 40, 41, 42] (by decide +kernel) (by decide +kernel)
set_option maxRecDepth 20000 in
theorem gX5_looksAt_X5_canBe : GoodIn wsX5_looksAt (wsV RX5 92 RX5 yX5_canBe wsX5_canBe) := goodIn_app (goodIn_of _ (by decide +kernel)) ggX5_looksAt_X5_canBe
set_option maxRecDepth 20000 in
theorem ggX5_looksAt_X5_worth : GoodIn wsX5_looksAt wsX5_worth := goodIn_r _ [14, 5, 1, 15, 16, 17, 9, 18, 19, 20, 21, 22, 3, 27, 28, 29, 30, 31, 32, 33, 34, 35, 36, 37, 38, 39, 40, 41, 42] (by decide +kernel) (by decide +kernel)
set_option maxRecDepth 20000 in
theorem gX5_looksAt_X5_worth : GoodIn wsX5_looksAt (wsV RX5 86 RX5 yX5_worth wsX5_worth) := goodIn_app (goodIn_of _ (by decide +kernel)) ggX5_looksAt_X5_worth
theorem dX5_looksAt_0 : decode cX5_looksAt 0 = .ok (.aload_n 0, 1) := by decide +kernel
theorem dX5_looksAt_1 : decode cX5_looksAt 1 = .ok (.getfield 80, 3) := by decide +kernel
theorem dX5_looksAt_4 : decode cX5_looksAt 4 = .ok (.iconst 2, 1) := by decide +kernel
theorem dX5_looksAt_5 : decode cX5_looksAt 5 = .ok (.if_icmp .ne 16, 3) := by decide +kernel
theorem dX5_looksAt_8 : decode cX5_looksAt 8 = .ok (.aload_n 0, 1) := by decide +kernel
theorem dX5_looksAt_9 : decode cX5_looksAt 9 = .ok (.dup, 1) := by decide +kernel
theorem dX5_looksAt_10 : decode cX5_looksAt 10 = .ok (.getfield 83, 3) := by decide +kernel
theorem dX5_looksAt_13 : decode cX5_looksAt 13 = .ok (.iconst 1, 1) := by decide +kernel
theorem dX5_looksAt_14 : decode cX5_looksAt 14 = .ok (.iadd, 1) := by decide +kernel
theorem dX5_looksAt_15 : decode cX5_looksAt 15 = .ok (.putfield 83, 3) := by decide +kernel
theorem dX5_looksAt_18 : decode cX5_looksAt 18 = .ok (.goto 60, 3) := by decide +kernel
theorem dX5_looksAt_21 : decode cX5_looksAt 21 = .ok (.aload_n 0, 1) := by decide +kernel
theorem dX5_looksAt_22 : decode cX5_looksAt 22 = .ok (.aload_n 0, 1) := by decide +kernel
theorem dX5_looksAt_23 : decode cX5_looksAt 23 = .ok (.getfield 7, 3) := by decide +kernel
theorem dX5_looksAt_26 : decode cX5_looksAt 26 = .ok (.iconst 0, 1) := by decide +kernel
theorem dX5_looksAt_27 : decode cX5_looksAt 27 = .ok (.iaload, 1) := by decide +kernel
theorem dX5_looksAt_28 : decode cX5_looksAt 28 = .ok (.invokevirtual 92, 3) := by decide +kernel
theorem dX5_looksAt_31 : decode cX5_looksAt 31 = .ok (.ifCond .eq 47, 3) := by decide +kernel
theorem dX5_looksAt_34 : decode cX5_looksAt 34 = .ok (.aload_n 0, 1) := by decide +kernel
theorem dX5_looksAt_35 : decode cX5_looksAt 35 = .ok (.aload_n 0, 1) := by decide +kernel
theorem dX5_looksAt_36 : decode cX5_looksAt 36 = .ok (.aload_n 0, 1) := by decide +kernel
theorem dX5_looksAt_37 : decode cX5_looksAt 37 = .ok (.getfield 7, 3) := by decide +kernel
theorem dX5_looksAt_40 : decode cX5_looksAt 40 = .ok (.iconst 0, 1) := by decide +kernel
theorem dX5_looksAt_41 : decode cX5_looksAt 41 = .ok (.iaload, 1) := by decide +kernel
theorem dX5_looksAt_42 : decode cX5_looksAt 42 = .ok (.invokevirtual 86, 3) := by decide +kernel
theorem dX5_looksAt_45 : decode cX5_looksAt 45 = .ok (.putfield 83, 3) := by decide +kernel
theorem dX5_looksAt_48 : decode cX5_looksAt 48 = .ok (.iconst 0, 1) := by decide +kernel
theorem dX5_looksAt_49 : decode cX5_looksAt 49 = .ok (.istore_n 1, 1) := by decide +kernel
theorem dX5_looksAt_50 : decode cX5_looksAt 50 = .ok (.iload_n 1, 1) := by decide +kernel
theorem dX5_looksAt_51 : decode cX5_looksAt 51 = .ok (.aload_n 0, 1) := by decide +kernel
theorem dX5_looksAt_52 : decode cX5_looksAt 52 = .ok (.getfield 7, 3) := by decide +kernel
theorem dX5_looksAt_55 : decode cX5_looksAt 55 = .ok (.iconst 0, 1) := by decide +kernel
theorem dX5_looksAt_56 : decode cX5_looksAt 56 = .ok (.iaload, 1) := by decide +kernel
theorem dX5_looksAt_57 : decode cX5_looksAt 57 = .ok (.if_icmp .ge 21, 3) := by decide +kernel
theorem dX5_looksAt_60 : decode cX5_looksAt 60 = .ok (.aload_n 0, 1) := by decide +kernel
theorem dX5_looksAt_61 : decode cX5_looksAt 61 = .ok (.getfield 25, 3) := by decide +kernel
theorem dX5_looksAt_64 : decode cX5_looksAt 64 = .ok (.iload_n 1, 1) := by decide +kernel
theorem dX5_looksAt_65 : decode cX5_looksAt 65 = .ok (.aload_n 0, 1) := by decide +kernel
theorem dX5_looksAt_66 : decode cX5_looksAt 66 = .ok (.getfield 19, 3) := by decide +kernel
theorem dX5_looksAt_69 : decode cX5_looksAt 69 = .ok (.iload_n 1, 1) := by decide +kernel
theorem dX5_looksAt_70 : decode cX5_looksAt 70 = .ok (.iaload, 1) := by decide +kernel
theorem dX5_looksAt_71 : decode cX5_looksAt 71 = .ok (.iastore, 1) := by decide +kernel
theorem dX5_looksAt_72 : decode cX5_looksAt 72 = .ok (.iinc 1 1, 3) := by decide +kernel
theorem dX5_looksAt_75 : decode cX5_looksAt 75 = .ok (.goto (-25), 3) := by decide +kernel
theorem dX5_looksAt_78 : decode cX5_looksAt 78 = .ok (.return_, 1) := by decide +kernel
set_option maxRecDepth 20000 in
theorem ggX5_searches_X5_looksAt : GoodIn wsX5_searches wsX5_looksAt := goodIn_r _ [9, 1, 2, 4, 10, 3, 11, 12, 13, 8, 14, 15, 16, 17, 18, 19, 20, 21, 22, 23, 24, 25, 26, 27, 28, 29, 30, 62, 63, 64, 65, 66, 67, 68, 69, 70, 71, 72, 73, 74, 75, 76, 77] (by decide +kernel) (by decide +kernel)
set_option maxRecDepth 20000 in
theorem gX5_searches_X5_looksAt : GoodIn wsX5_searches (wsV RX5 96 RX5 yX5_looksAt wsX5_looksAt) := goodIn_app (goodIn_of _ (by decide +kernel)) ggX5_searches_X5_looksAt
set_option maxRecDepth 20000 in
theorem ggX5_searches_X5_fits : GoodIn wsX5_searches wsX5_fits := goodIn_r _ [34, 3, 35, 36, 37, 38, 8, 39, 40, 41, 42, 43, 44, 45, 46, 47, 23, 24, 25, 26, 4, 48, 49, 50, 51, 52, 53, 54, 55, 56, 57, 58, 59, 60, 61, 62, 63, 64, 65, 66, 67, 68, 69, 70, 71, 72, 73, 74, 75, 76, 77] (by decide +kernel) (by decide +kernel)
set_option maxRecDepth 20000 in
theorem gX5_searches_X5_fits : GoodIn wsX5_searches (wsV RX5 99 RX5 yX5_fits wsX5_fits) := goodIn_app (goodIn_of _ (by decide +kernel)) ggX5_searches_X5_fits
set_option maxRecDepth 20000 in
theorem ggX5_searches_X5_canBe : GoodIn wsX5_searches wsX5_canBe := goodIn_r _ [14, 1, 2, 15, 16, 17, 8, 18, 3, 19, 20, 21, 22, 23, 24, 25, 26, 4, 27, 28, 29, 30, 62, 63, 64, 65, 66, 67, 68, 69, 70, 71, 72, 73, 74, 75, 76, 77] (by decide +kernel) (by decide +kernel)
set_option maxRecDepth 20000 in
theorem gX5_searches_X5_canBe : GoodIn wsX5_searches (wsV RX5 92 RX5 yX5_canBe wsX5_canBe) := goodIn_app (goodIn_of _ (by decide +kernel)) ggX5_searches_X5_canBe
theorem dX5_searches_0 : decode cX5_searches 0 = .ok (.aload_n 0, 1) := by decide +kernel
theorem dX5_searches_1 : decode cX5_searches 1 = .ok (.iload_n 1, 1) := by decide +kernel
theorem dX5_searches_2 : decode cX5_searches 2 = .ok (.putfield 80, 3) := by decide +kernel
theorem dX5_searches_5 : decode cX5_searches 5 = .ok (.aload_n 0, 1) := by decide +kernel
theorem dX5_searches_6 : decode cX5_searches 6 = .ok (.iload_n 1, 1) := by decide +kernel
theorem dX5_searches_7 : decode cX5_searches 7 = .ok (.iconst 2, 1) := by decide +kernel
theorem dX5_searches_8 : decode cX5_searches 8 = .ok (.if_icmp .ne 7, 3) := by decide +kernel
theorem dX5_searches_11 : decode cX5_searches 11 = .ok (.iconst 0, 1) := by decide +kernel
theorem dX5_searches_12 : decode cX5_searches 12 = .ok (.goto 4, 3) := by decide +kernel
theorem dX5_searches_15 : decode cX5_searches 15 = .ok (.iconst (-1), 1) := by decide +kernel
theorem dX5_searches_16 : decode cX5_searches 16 = .ok (.putfield 83, 3) := by decide +kernel
theorem dX5_searches_19 : decode cX5_searches 19 = .ok (.iconst 0, 1) := by decide +kernel
theorem dX5_searches_20 : decode cX5_searches 20 = .ok (.istore_n 2, 1) := by decide +kernel
theorem dX5_searches_21 : decode cX5_searches 21 = .ok (.aload_n 0, 1) := by decide +kernel
theorem dX5_searches_22 : decode cX5_searches 22 = .ok (.getfield 19, 3) := by decide +kernel
theorem dX5_searches_25 : decode cX5_searches 25 = .ok (.iconst 0, 1) := by decide +kernel
theorem dX5_searches_26 : decode cX5_searches 26 = .ok (.iconst (-1), 1) := by decide +kernel
theorem dX5_searches_27 : decode cX5_searches 27 = .ok (.iastore, 1) := by decide +kernel
theorem dX5_searches_28 : decode cX5_searches 28 = .ok (.aload_n 0, 1) := by decide +kernel
theorem dX5_searches_29 : decode cX5_searches 29 = .ok (.getfield 7, 3) := by decide +kernel
theorem dX5_searches_32 : decode cX5_searches 32 = .ok (.iconst 0, 1) := by decide +kernel
theorem dX5_searches_33 : decode cX5_searches 33 = .ok (.iaload, 1) := by decide +kernel
theorem dX5_searches_34 : decode cX5_searches 34 = .ok (.ifCond .ne 12, 3) := by decide +kernel
theorem dX5_searches_37 : decode cX5_searches 37 = .ok (.aload_n 0, 1) := by decide +kernel
theorem dX5_searches_38 : decode cX5_searches 38 = .ok (.invokevirtual 96, 3) := by decide +kernel
theorem dX5_searches_41 : decode cX5_searches 41 = .ok (.aload_n 0, 1) := by decide +kernel
theorem dX5_searches_42 : decode cX5_searches 42 = .ok (.getfield 83, 3) := by decide +kernel
theorem dX5_searches_45 : decode cX5_searches 45 = .ok (.ireturn, 1) := by decide +kernel
theorem dX5_searches_46 : decode cX5_searches 46 = .ok (.iload_n 2, 1) := by decide +kernel
theorem dX5_searches_47 : decode cX5_searches 47 = .ok (.ifCond .lt 79, 3) := by decide +kernel
theorem dX5_searches_50 : decode cX5_searches 50 = .ok (.aload_n 0, 1) := by decide +kernel
theorem dX5_searches_51 : decode cX5_searches 51 = .ok (.getfield 19, 3) := by decide +kernel
theorem dX5_searches_54 : decode cX5_searches 54 = .ok (.iload_n 2, 1) := by decide +kernel
theorem dX5_searches_55 : decode cX5_searches 55 = .ok (.dup2, 1) := by decide +kernel
theorem dX5_searches_56 : decode cX5_searches 56 = .ok (.iaload, 1) := by decide +kernel
theorem dX5_searches_57 : decode cX5_searches 57 = .ok (.iconst 1, 1) := by decide +kernel
theorem dX5_searches_58 : decode cX5_searches 58 = .ok (.iadd, 1) := by decide +kernel
theorem dX5_searches_59 : decode cX5_searches 59 = .ok (.iastore, 1) := by decide +kernel
theorem dX5_searches_60 : decode cX5_searches 60 = .ok (.aload_n 0, 1) := by decide +kernel
theorem dX5_searches_61 : decode cX5_searches 61 = .ok (.getfield 19, 3) := by decide +kernel
theorem dX5_searches_64 : decode cX5_searches 64 = .ok (.iload_n 2, 1) := by decide +kernel
theorem dX5_searches_65 : decode cX5_searches 65 = .ok (.iaload, 1) := by decide +kernel
theorem dX5_searches_66 : decode cX5_searches 66 = .ok (.iconst 4, 1) := by decide +kernel
theorem dX5_searches_67 : decode cX5_searches 67 = .ok (.if_icmp .le 9, 3) := by decide +kernel
theorem dX5_searches_70 : decode cX5_searches 70 = .ok (.iinc 2 (-1), 3) := by decide +kernel
theorem dX5_searches_73 : decode cX5_searches 73 = .ok (.goto (-27), 3) := by decide +kernel
theorem dX5_searches_76 : decode cX5_searches 76 = .ok (.aload_n 0, 1) := by decide +kernel
theorem dX5_searches_77 : decode cX5_searches 77 = .ok (.iload_n 2, 1) := by decide +kernel
theorem dX5_searches_78 : decode cX5_searches 78 = .ok (.invokevirtual 99, 3) := by decide +kernel
theorem dX5_searches_81 : decode cX5_searches 81 = .ok (.ifCond .eq (-35), 3) := by decide +kernel
theorem dX5_searches_84 : decode cX5_searches 84 = .ok (.aload_n 0, 1) := by decide +kernel
theorem dX5_searches_85 : decode cX5_searches 85 = .ok (.iload_n 2, 1) := by decide +kernel
theorem dX5_searches_86 : decode cX5_searches 86 = .ok (.iconst 1, 1) := by decide +kernel
theorem dX5_searches_87 : decode cX5_searches 87 = .ok (.iadd, 1) := by decide +kernel
theorem dX5_searches_88 : decode cX5_searches 88 = .ok (.invokevirtual 92, 3) := by decide +kernel
theorem dX5_searches_91 : decode cX5_searches 91 = .ok (.ifCond .eq (-45), 3) := by decide +kernel
theorem dX5_searches_94 : decode cX5_searches 94 = .ok (.iload_n 2, 1) := by decide +kernel
theorem dX5_searches_95 : decode cX5_searches 95 = .ok (.aload_n 0, 1) := by decide +kernel
theorem dX5_searches_96 : decode cX5_searches 96 = .ok (.getfield 7, 3) := by decide +kernel
theorem dX5_searches_99 : decode cX5_searches 99 = .ok (.iconst 0, 1) := by decide +kernel
theorem dX5_searches_100 : decode cX5_searches 100 = .ok (.iaload, 1) := by decide +kernel
theorem dX5_searches_101 : decode cX5_searches 101 = .ok (.iconst 1, 1) := by decide +kernel
theorem dX5_searches_102 : decode cX5_searches 102 = .ok (.isub, 1) := by decide +kernel
theorem dX5_searches_103 : decode cX5_searches 103 = .ok (.if_icmp .ne 10, 3) := by decide +kernel
theorem dX5_searches_106 : decode cX5_searches 106 = .ok (.aload_n 0, 1) := by decide +kernel
theorem dX5_searches_107 : decode cX5_searches 107 = .ok (.invokevirtual 96, 3) := by decide +kernel
theorem dX5_searches_110 : decode cX5_searches 110 = .ok (.goto (-64), 3) := by decide +kernel
theorem dX5_searches_113 : decode cX5_searches 113 = .ok (.iinc 2 1, 3) := by decide +kernel
theorem dX5_searches_116 : decode cX5_searches 116 = .ok (.aload_n 0, 1) := by decide +kernel
theorem dX5_searches_117 : decode cX5_searches 117 = .ok (.getfield 19, 3) := by decide +kernel
theorem dX5_searches_120 : decode cX5_searches 120 = .ok (.iload_n 2, 1) := by decide +kernel
theorem dX5_searches_121 : decode cX5_searches 121 = .ok (.iconst (-1), 1) := by decide +kernel
theorem dX5_searches_122 : decode cX5_searches 122 = .ok (.iastore, 1) := by decide +kernel
theorem dX5_searches_123 : decode cX5_searches 123 = .ok (.goto (-77), 3) := by decide +kernel
theorem dX5_searches_126 : decode cX5_searches 126 = .ok (.aload_n 0, 1) := by decide +kernel
theorem dX5_searches_127 : decode cX5_searches 127 = .ok (.getfield 83, 3) := by decide +kernel
theorem dX5_searches_130 : decode cX5_searches 130 = .ok (.ireturn, 1) := by decide +kernel
set_option maxRecDepth 20000 in
theorem ggX5_heaviest_X5_openOf : GoodIn wsX5_heaviest wsX5_openOf := goodIn_r _ [7, 8, 9, 10, 6, 11, 1, 12, 13, 14, 15, 16, 17, 18, 19, 20, 21, 22, 23, 24, 25, 26, 27, 28, 29, 30, 31, 32, 33, 34, 35, 36, 37, 38, 81, 82, 83, 84, 85, 86, 87, 88, 89, 90, 91, 92, 93, 94, 95, 96] (by decide +kernel) (by decide +kernel)
set_option maxRecDepth 20000 in
theorem gX5_heaviest_X5_openOf : GoodIn wsX5_heaviest (wsV RX5 102 RX5 yX5_openOf wsX5_openOf) := goodIn_app (goodIn_of _ (by decide +kernel)) ggX5_heaviest_X5_openOf
set_option maxRecDepth 20000 in
theorem ggX5_heaviest_X5_searches : GoodIn wsX5_heaviest wsX5_searches := goodIn_r _ [42, 43, 44, 45, 1, 46, 47, 48, 6, 49, 50, 51, 52, 53, 54, 55, 56, 57, 58, 59, 60, 61, 62, 16, 17, 18, 19, 63, 64, 65, 66, 67, 68, 69, 70, 2, 71, 72, 73, 74, 20, 21, 22, 23, 12, 13, 14, 15, 75, 76, 77, 78, 79, 80, 28, 29, 30, 31, 24, 25, 26, 27, 81, 82, 83, 84, 85, 86, 87, 88, 89, 90, 91, 92, 93, 94, 95, 96] (by decide +kernel) (by decide +kernel)
set_option maxRecDepth 20000 in
theorem gX5_heaviest_X5_searches : GoodIn wsX5_heaviest (wsV RX5 105 RX5 yX5_searches wsX5_searches) := goodIn_app (goodIn_of _ (by decide +kernel)) ggX5_heaviest_X5_searches
theorem dX5_heaviest_0 : decode cX5_heaviest 0 = .ok (.iconst 0, 1) := by decide +kernel
theorem dX5_heaviest_1 : decode cX5_heaviest 1 = .ok (.istore_n 2, 1) := by decide +kernel
theorem dX5_heaviest_2 : decode cX5_heaviest 2 = .ok (.iload_n 2, 1) := by decide +kernel
theorem dX5_heaviest_3 : decode cX5_heaviest 3 = .ok (.aload_n 0, 1) := by decide +kernel
theorem dX5_heaviest_4 : decode cX5_heaviest 4 = .ok (.getfield 7, 3) := by decide +kernel
theorem dX5_heaviest_7 : decode cX5_heaviest 7 = .ok (.iconst 0, 1) := by decide +kernel
theorem dX5_heaviest_8 : decode cX5_heaviest 8 = .ok (.iaload, 1) := by decide +kernel
theorem dX5_heaviest_9 : decode cX5_heaviest 9 = .ok (.if_icmp .ge 33, 3) := by decide +kernel
theorem dX5_heaviest_12 : decode cX5_heaviest 12 = .ok (.aload_n 0, 1) := by decide +kernel
theorem dX5_heaviest_13 : decode cX5_heaviest 13 = .ok (.getfield 22, 3) := by decide +kernel
theorem dX5_heaviest_16 : decode cX5_heaviest 16 = .ok (.iload_n 2, 1) := by decide +kernel
theorem dX5_heaviest_17 : decode cX5_heaviest 17 = .ok (.iload_n 2, 1) := by decide +kernel
theorem dX5_heaviest_18 : decode cX5_heaviest 18 = .ok (.iload_n 1, 1) := by decide +kernel
theorem dX5_heaviest_19 : decode cX5_heaviest 19 = .ok (.if_icmp .ne 8, 3) := by decide +kernel
theorem dX5_heaviest_22 : decode cX5_heaviest 22 = .ok (.bipush 16, 2) := by decide +kernel
theorem dX5_heaviest_24 : decode cX5_heaviest 24 = .ok (.goto 11, 3) := by decide +kernel
theorem dX5_heaviest_27 : decode cX5_heaviest 27 = .ok (.aload_n 0, 1) := by decide +kernel
theorem dX5_heaviest_28 : decode cX5_heaviest 28 = .ok (.iload_n 2, 1) := by decide +kernel
theorem dX5_heaviest_29 : decode cX5_heaviest 29 = .ok (.invokevirtual 102, 3) := by decide +kernel
theorem dX5_heaviest_32 : decode cX5_heaviest 32 = .ok (.bipush 16, 2) := by decide +kernel
theorem dX5_heaviest_34 : decode cX5_heaviest 34 = .ok (.ior, 1) := by decide +kernel
theorem dX5_heaviest_35 : decode cX5_heaviest 35 = .ok (.iastore, 1) := by decide +kernel
theorem dX5_heaviest_36 : decode cX5_heaviest 36 = .ok (.iinc 2 1, 3) := by decide +kernel
theorem dX5_heaviest_39 : decode cX5_heaviest 39 = .ok (.goto (-37), 3) := by decide +kernel
theorem dX5_heaviest_42 : decode cX5_heaviest 42 = .ok (.aload_n 0, 1) := by decide +kernel
theorem dX5_heaviest_43 : decode cX5_heaviest 43 = .ok (.iconst 0, 1) := by decide +kernel
theorem dX5_heaviest_44 : decode cX5_heaviest 44 = .ok (.invokevirtual 105, 3) := by decide +kernel
theorem dX5_heaviest_47 : decode cX5_heaviest 47 = .ok (.ireturn, 1) := by decide +kernel
set_option maxRecDepth 20000 in
theorem ggX5_makesRoom_X5_cornerOf : GoodIn wsX5_makesRoom wsX5_cornerOf := goodIn_r _ [7, 8, 9, 10, 6, 11, 1, 81, 82, 83, 84, 85, 86, 87, 88, 89, 90, 91, 92, 93, 94, 95, 96] (by decide +kernel) (by decide +kernel)
set_option maxRecDepth 20000 in
theorem gX5_makesRoom_X5_cornerOf : GoodIn wsX5_makesRoom (wsV RX5 72 RX5 yX5_cornerOf wsX5_cornerOf) := goodIn_app (goodIn_of _ (by decide +kernel)) ggX5_makesRoom_X5_cornerOf
set_option maxRecDepth 20000 in
theorem ggX5_makesRoom_X5_openOf : GoodIn wsX5_makesRoom wsX5_openOf := goodIn_r _ [15, 16, 17, 18, 6, 19, 1, 20, 21, 22, 23, 8, 9, 10, 11, 24, 25, 26, 27, 28, 29, 30, 31, 32, 33, 34, 35, 36, 37, 38, 39, 40, 41, 42, 81, 82, 83, 84, 85, 86, 87, 88, 89, 90, 91, 92, 93, 94, 95, 96] (by decide +kernel) (by decide +kernel)
set_option maxRecDepth 20000 in
theorem gX5_makesRoom_X5_openOf : GoodIn wsX5_makesRoom (wsV RX5 102 RX5 yX5_openOf wsX5_openOf) := goodIn_app (goodIn_of _ (by decide +kernel)) ggX5_makesRoom_X5_openOf
set_option maxRecDepth 20000 in
theorem ggX5_makesRoom_X5_searches : GoodIn wsX5_makesRoom wsX5_searches := goodIn_r _ [46, 47, 48, 49, 1, 50, 51, 52, 6, 53, 54, 55, 56, 57, 58, 59, 60, 61, 62, 3, 4, 5, 7, 8, 9, 10, 11, 63, 64, 65, 66, 67, 68, 69, 70, 2, 71, 72, 73, 74, 24, 25, 26, 27, 20, 21, 22, 23, 75, 76, 77, 78, 79, 80, 32, 33, 34, 35, 28, 29, 30, 31, 81, 82, 83, 84, 85, 86, 87, 88, 89, 90, 91, 92, 93, 94, 95, 96] (by decide +kernel) (by decide +kernel)
set_option maxRecDepth 20000 in
theorem gX5_makesRoom_X5_searches : GoodIn wsX5_makesRoom (wsV RX5 105 RX5 yX5_searches wsX5_searches) := goodIn_app (goodIn_of _ (by decide +kernel)) ggX5_makesRoom_X5_searches
theorem dX5_makesRoom_0 : decode cX5_makesRoom 0 = .ok (.aload_n 0, 1) := by decide +kernel
theorem dX5_makesRoom_1 : decode cX5_makesRoom 1 = .ok (.iload_n 1, 1) := by decide +kernel
theorem dX5_makesRoom_2 : decode cX5_makesRoom 2 = .ok (.invokevirtual 72, 3) := by decide +kernel
theorem dX5_makesRoom_5 : decode cX5_makesRoom 5 = .ok (.iconst (-1), 1) := by decide +kernel
theorem dX5_makesRoom_6 : decode cX5_makesRoom 6 = .ok (.if_icmp .eq 5, 3) := by decide +kernel
theorem dX5_makesRoom_9 : decode cX5_makesRoom 9 = .ok (.iconst (-1), 1) := by decide +kernel
theorem dX5_makesRoom_10 : decode cX5_makesRoom 10 = .ok (.ireturn, 1) := by decide +kernel
theorem dX5_makesRoom_11 : decode cX5_makesRoom 11 = .ok (.iconst 0, 1) := by decide +kernel
theorem dX5_makesRoom_12 : decode cX5_makesRoom 12 = .ok (.istore_n 2, 1) := by decide +kernel
theorem dX5_makesRoom_13 : decode cX5_makesRoom 13 = .ok (.iload_n 2, 1) := by decide +kernel
theorem dX5_makesRoom_14 : decode cX5_makesRoom 14 = .ok (.aload_n 0, 1) := by decide +kernel
theorem dX5_makesRoom_15 : decode cX5_makesRoom 15 = .ok (.getfield 7, 3) := by decide +kernel
theorem dX5_makesRoom_18 : decode cX5_makesRoom 18 = .ok (.iconst 0, 1) := by decide +kernel
theorem dX5_makesRoom_19 : decode cX5_makesRoom 19 = .ok (.iaload, 1) := by decide +kernel
theorem dX5_makesRoom_20 : decode cX5_makesRoom 20 = .ok (.if_icmp .ge 39, 3) := by decide +kernel
theorem dX5_makesRoom_23 : decode cX5_makesRoom 23 = .ok (.aload_n 0, 1) := by decide +kernel
theorem dX5_makesRoom_24 : decode cX5_makesRoom 24 = .ok (.getfield 22, 3) := by decide +kernel
theorem dX5_makesRoom_27 : decode cX5_makesRoom 27 = .ok (.iload_n 2, 1) := by decide +kernel
theorem dX5_makesRoom_28 : decode cX5_makesRoom 28 = .ok (.iload_n 2, 1) := by decide +kernel
theorem dX5_makesRoom_29 : decode cX5_makesRoom 29 = .ok (.iload_n 1, 1) := by decide +kernel
theorem dX5_makesRoom_30 : decode cX5_makesRoom 30 = .ok (.if_icmp .eq 12, 3) := by decide +kernel
theorem dX5_makesRoom_33 : decode cX5_makesRoom 33 = .ok (.aload_n 0, 1) := by decide +kernel
theorem dX5_makesRoom_34 : decode cX5_makesRoom 34 = .ok (.iload_n 2, 1) := by decide +kernel
theorem dX5_makesRoom_35 : decode cX5_makesRoom 35 = .ok (.invokevirtual 72, 3) := by decide +kernel
theorem dX5_makesRoom_38 : decode cX5_makesRoom 38 = .ok (.iconst (-1), 1) := by decide +kernel
theorem dX5_makesRoom_39 : decode cX5_makesRoom 39 = .ok (.if_icmp .eq 11, 3) := by decide +kernel
theorem dX5_makesRoom_42 : decode cX5_makesRoom 42 = .ok (.aload_n 0, 1) := by decide +kernel
theorem dX5_makesRoom_43 : decode cX5_makesRoom 43 = .ok (.iload_n 2, 1) := by decide +kernel
theorem dX5_makesRoom_44 : decode cX5_makesRoom 44 = .ok (.invokevirtual 102, 3) := by decide +kernel
theorem dX5_makesRoom_47 : decode cX5_makesRoom 47 = .ok (.goto 5, 3) := by decide +kernel
theorem dX5_makesRoom_50 : decode cX5_makesRoom 50 = .ok (.bipush 16, 2) := by decide +kernel
theorem dX5_makesRoom_52 : decode cX5_makesRoom 52 = .ok (.iastore, 1) := by decide +kernel
theorem dX5_makesRoom_53 : decode cX5_makesRoom 53 = .ok (.iinc 2 1, 3) := by decide +kernel
theorem dX5_makesRoom_56 : decode cX5_makesRoom 56 = .ok (.goto (-43), 3) := by decide +kernel
theorem dX5_makesRoom_59 : decode cX5_makesRoom 59 = .ok (.aload_n 0, 1) := by decide +kernel
theorem dX5_makesRoom_60 : decode cX5_makesRoom 60 = .ok (.iconst 1, 1) := by decide +kernel
theorem dX5_makesRoom_61 : decode cX5_makesRoom 61 = .ok (.invokevirtual 105, 3) := by decide +kernel
theorem dX5_makesRoom_64 : decode cX5_makesRoom 64 = .ok (.ireturn, 1) := by decide +kernel
set_option maxRecDepth 20000 in
theorem ggX5_fulls_X5_openOf : GoodIn wsX5_fulls wsX5_openOf := goodIn_r _ [7, 8, 9, 10, 6, 11, 1, 12, 13, 14, 15, 16, 17, 18, 19, 20, 21, 22, 23, 24, 25, 26, 27, 28, 29, 30, 31, 32, 33, 34, 35, 36, 37, 38, 81, 82, 83, 84, 85, 86, 87, 88, 89, 90, 91, 92, 93, 94, 95, 96] (by decide +kernel) (by decide +kernel)
set_option maxRecDepth 20000 in
theorem gX5_fulls_X5_openOf : GoodIn wsX5_fulls (wsV RX5 102 RX5 yX5_openOf wsX5_openOf) := goodIn_app (goodIn_of _ (by decide +kernel)) ggX5_fulls_X5_openOf
set_option maxRecDepth 20000 in
theorem ggX5_fulls_X5_searches : GoodIn wsX5_fulls wsX5_searches := goodIn_r _ [42, 43, 44, 45, 1, 46, 47, 48, 6, 49, 50, 51, 52, 53, 54, 55, 56, 57, 58, 59, 60, 61, 62, 16, 17, 18, 19, 63, 64, 65, 66, 67, 68, 69, 70, 2, 71, 72, 73, 74, 20, 21, 22, 23, 12, 13, 14, 15, 75, 76, 77, 78, 79, 80, 28, 29, 30, 31, 24, 25, 26, 27, 81, 82, 83, 84, 85, 86, 87, 88, 89, 90, 91, 92, 93, 94, 95, 96] (by decide +kernel) (by decide +kernel)
set_option maxRecDepth 20000 in
theorem gX5_fulls_X5_searches : GoodIn wsX5_fulls (wsV RX5 105 RX5 yX5_searches wsX5_searches) := goodIn_app (goodIn_of _ (by decide +kernel)) ggX5_fulls_X5_searches
theorem dX5_fulls_0 : decode cX5_fulls 0 = .ok (.iconst 0, 1) := by decide +kernel
theorem dX5_fulls_1 : decode cX5_fulls 1 = .ok (.istore_n 1, 1) := by decide +kernel
theorem dX5_fulls_2 : decode cX5_fulls 2 = .ok (.iload_n 1, 1) := by decide +kernel
theorem dX5_fulls_3 : decode cX5_fulls 3 = .ok (.aload_n 0, 1) := by decide +kernel
theorem dX5_fulls_4 : decode cX5_fulls 4 = .ok (.getfield 7, 3) := by decide +kernel
theorem dX5_fulls_7 : decode cX5_fulls 7 = .ok (.iconst 0, 1) := by decide +kernel
theorem dX5_fulls_8 : decode cX5_fulls 8 = .ok (.iaload, 1) := by decide +kernel
theorem dX5_fulls_9 : decode cX5_fulls 9 = .ok (.if_icmp .ge 33, 3) := by decide +kernel
theorem dX5_fulls_12 : decode cX5_fulls 12 = .ok (.aload_n 0, 1) := by decide +kernel
theorem dX5_fulls_13 : decode cX5_fulls 13 = .ok (.getfield 22, 3) := by decide +kernel
theorem dX5_fulls_16 : decode cX5_fulls 16 = .ok (.iload_n 1, 1) := by decide +kernel
theorem dX5_fulls_17 : decode cX5_fulls 17 = .ok (.aload_n 0, 1) := by decide +kernel
theorem dX5_fulls_18 : decode cX5_fulls 18 = .ok (.iload_n 1, 1) := by decide +kernel
theorem dX5_fulls_19 : decode cX5_fulls 19 = .ok (.invokevirtual 102, 3) := by decide +kernel
theorem dX5_fulls_22 : decode cX5_fulls 22 = .ok (.ifCond .ne 8, 3) := by decide +kernel
theorem dX5_fulls_25 : decode cX5_fulls 25 = .ok (.bipush 16, 2) := by decide +kernel
theorem dX5_fulls_27 : decode cX5_fulls 27 = .ok (.goto 8, 3) := by decide +kernel
theorem dX5_fulls_30 : decode cX5_fulls 30 = .ok (.aload_n 0, 1) := by decide +kernel
theorem dX5_fulls_31 : decode cX5_fulls 31 = .ok (.iload_n 1, 1) := by decide +kernel
theorem dX5_fulls_32 : decode cX5_fulls 32 = .ok (.invokevirtual 102, 3) := by decide +kernel
theorem dX5_fulls_35 : decode cX5_fulls 35 = .ok (.iastore, 1) := by decide +kernel
theorem dX5_fulls_36 : decode cX5_fulls 36 = .ok (.iinc 1 1, 3) := by decide +kernel
theorem dX5_fulls_39 : decode cX5_fulls 39 = .ok (.goto (-37), 3) := by decide +kernel
theorem dX5_fulls_42 : decode cX5_fulls 42 = .ok (.aload_n 0, 1) := by decide +kernel
theorem dX5_fulls_43 : decode cX5_fulls 43 = .ok (.iconst 2, 1) := by decide +kernel
theorem dX5_fulls_44 : decode cX5_fulls 44 = .ok (.invokevirtual 105, 3) := by decide +kernel
theorem dX5_fulls_47 : decode cX5_fulls 47 = .ok (.ireturn, 1) := by decide +kernel
set_option maxRecDepth 20000 in
theorem ggX5_lays_X5_stands : GoodIn wsX5_lays wsX5_stands := goodIn_r _ [7, 1, 8, 9, 10, 11, 12, 13, 14, 15, 16, 17, 18, 19, 20, 21, 22, 23] (by decide +kernel) (by decide +kernel)
set_option maxRecDepth 20000 in
theorem gX5_lays_X5_stands : GoodIn wsX5_lays (wsV RX5 108 RX5 yX5_stands wsX5_stands) := goodIn_app (goodIn_of _ (by decide +kernel)) ggX5_lays_X5_stands
theorem dX5_lays_0 : decode cX5_lays 0 = .ok (.iconst 0, 1) := by decide +kernel
theorem dX5_lays_1 : decode cX5_lays 1 = .ok (.istore_n 1, 1) := by decide +kernel
theorem dX5_lays_2 : decode cX5_lays 2 = .ok (.iload_n 1, 1) := by decide +kernel
theorem dX5_lays_3 : decode cX5_lays 3 = .ok (.aload_n 0, 1) := by decide +kernel
theorem dX5_lays_4 : decode cX5_lays 4 = .ok (.getfield 7, 3) := by decide +kernel
theorem dX5_lays_7 : decode cX5_lays 7 = .ok (.iconst 0, 1) := by decide +kernel
theorem dX5_lays_8 : decode cX5_lays 8 = .ok (.iaload, 1) := by decide +kernel
theorem dX5_lays_9 : decode cX5_lays 9 = .ok (.if_icmp .ge 34, 3) := by decide +kernel
theorem dX5_lays_12 : decode cX5_lays 12 = .ok (.aload_n 0, 1) := by decide +kernel
theorem dX5_lays_13 : decode cX5_lays 13 = .ok (.iload_n 1, 1) := by decide +kernel
theorem dX5_lays_14 : decode cX5_lays 14 = .ok (.aload_n 0, 1) := by decide +kernel
theorem dX5_lays_15 : decode cX5_lays 15 = .ok (.getfield 25, 3) := by decide +kernel
theorem dX5_lays_18 : decode cX5_lays 18 = .ok (.iload_n 1, 1) := by decide +kernel
theorem dX5_lays_19 : decode cX5_lays 19 = .ok (.iaload, 1) := by decide +kernel
theorem dX5_lays_20 : decode cX5_lays 20 = .ok (.iconst 4, 1) := by decide +kernel
theorem dX5_lays_21 : decode cX5_lays 21 = .ok (.if_icmp .ne 7, 3) := by decide +kernel
theorem dX5_lays_24 : decode cX5_lays 24 = .ok (.iconst (-1), 1) := by decide +kernel
theorem dX5_lays_25 : decode cX5_lays 25 = .ok (.goto 9, 3) := by decide +kernel
theorem dX5_lays_28 : decode cX5_lays 28 = .ok (.aload_n 0, 1) := by decide +kernel
theorem dX5_lays_29 : decode cX5_lays 29 = .ok (.getfield 25, 3) := by decide +kernel
theorem dX5_lays_32 : decode cX5_lays 32 = .ok (.iload_n 1, 1) := by decide +kernel
theorem dX5_lays_33 : decode cX5_lays 33 = .ok (.iaload, 1) := by decide +kernel
theorem dX5_lays_34 : decode cX5_lays 34 = .ok (.invokevirtual 108, 3) := by decide +kernel
theorem dX5_lays_37 : decode cX5_lays 37 = .ok (.iinc 1 1, 3) := by decide +kernel
theorem dX5_lays_40 : decode cX5_lays 40 = .ok (.goto (-38), 3) := by decide +kernel
theorem dX5_lays_43 : decode cX5_lays 43 = .ok (.return_, 1) := by decide +kernel
set_option maxRecDepth 20000 in
theorem ggX5_pointAt_X5_of : GoodIn wsX5_pointAt wsX5_of := goodIn_r _ [6, 1, 7, 8, 9, 10, 11, 12, 13, 14, 15, 16, 17, 18, 19, 20, 21, 22] (by decide +kernel) (by decide +kernel)
set_option maxRecDepth 20000 in
theorem gX5_pointAt_X5_of : GoodIn wsX5_pointAt (wsV RX5 39 RX5 yX5_of wsX5_of) := goodIn_app (goodIn_of _ (by decide +kernel)) ggX5_pointAt_X5_of
theorem dX5_pointAt_0 : decode cX5_pointAt 0 = .ok (.iconst 0, 1) := by decide +kernel
theorem dX5_pointAt_1 : decode cX5_pointAt 1 = .ok (.istore_n 3, 1) := by decide +kernel
theorem dX5_pointAt_2 : decode cX5_pointAt 2 = .ok (.iload_n 3, 1) := by decide +kernel
theorem dX5_pointAt_3 : decode cX5_pointAt 3 = .ok (.aload_n 0, 1) := by decide +kernel
theorem dX5_pointAt_4 : decode cX5_pointAt 4 = .ok (.getfield 7, 3) := by decide +kernel
theorem dX5_pointAt_7 : decode cX5_pointAt 7 = .ok (.iconst 0, 1) := by decide +kernel
theorem dX5_pointAt_8 : decode cX5_pointAt 8 = .ok (.iaload, 1) := by decide +kernel
theorem dX5_pointAt_9 : decode cX5_pointAt 9 = .ok (.if_icmp .ge 31, 3) := by decide +kernel
theorem dX5_pointAt_12 : decode cX5_pointAt 12 = .ok (.aload_n 0, 1) := by decide +kernel
theorem dX5_pointAt_13 : decode cX5_pointAt 13 = .ok (.iload_n 3, 1) := by decide +kernel
theorem dX5_pointAt_14 : decode cX5_pointAt 14 = .ok (.iconst 0, 1) := by decide +kernel
theorem dX5_pointAt_15 : decode cX5_pointAt 15 = .ok (.invokevirtual 39, 3) := by decide +kernel
theorem dX5_pointAt_18 : decode cX5_pointAt 18 = .ok (.iload_n 1, 1) := by decide +kernel
theorem dX5_pointAt_19 : decode cX5_pointAt 19 = .ok (.if_icmp .ne 15, 3) := by decide +kernel
theorem dX5_pointAt_22 : decode cX5_pointAt 22 = .ok (.aload_n 0, 1) := by decide +kernel
theorem dX5_pointAt_23 : decode cX5_pointAt 23 = .ok (.iload_n 3, 1) := by decide +kernel
theorem dX5_pointAt_24 : decode cX5_pointAt 24 = .ok (.iconst 1, 1) := by decide +kernel
theorem dX5_pointAt_25 : decode cX5_pointAt 25 = .ok (.invokevirtual 39, 3) := by decide +kernel
theorem dX5_pointAt_28 : decode cX5_pointAt 28 = .ok (.iload_n 2, 1) := by decide +kernel
theorem dX5_pointAt_29 : decode cX5_pointAt 29 = .ok (.if_icmp .ne 5, 3) := by decide +kernel
theorem dX5_pointAt_32 : decode cX5_pointAt 32 = .ok (.iload_n 3, 1) := by decide +kernel
theorem dX5_pointAt_33 : decode cX5_pointAt 33 = .ok (.ireturn, 1) := by decide +kernel
theorem dX5_pointAt_34 : decode cX5_pointAt 34 = .ok (.iinc 3 1, 3) := by decide +kernel
theorem dX5_pointAt_37 : decode cX5_pointAt 37 = .ok (.goto (-35), 3) := by decide +kernel
theorem dX5_pointAt_40 : decode cX5_pointAt 40 = .ok (.iconst (-1), 1) := by decide +kernel
theorem dX5_pointAt_41 : decode cX5_pointAt 41 = .ok (.ireturn, 1) := by decide +kernel
set_option maxRecDepth 20000 in
theorem ggX5_refusesAdd_X5_in : GoodIn wsX5_refusesAdd wsX5_in := goodIn_r _ [5] (by decide +kernel) (by decide +kernel)
set_option maxRecDepth 20000 in
theorem gX5_refusesAdd_X5_in : GoodIn wsX5_refusesAdd (va_wsS RX5 35 yX5_in wsX5_in) := goodIn_app (goodIn_of _ (by decide +kernel)) ggX5_refusesAdd_X5_in
set_option maxRecDepth 20000 in
theorem ggX5_refusesAdd_X5_pointAt : GoodIn wsX5_refusesAdd wsX5_pointAt := goodIn_r _ [9, 1, 10, 11, 12, 4, 13, 14, 15, 16, 17, 18, 19, 20, 21, 22, 23, 24, 25, 26, 27, 28, 29] (by decide +kernel) (by decide +kernel)
set_option maxRecDepth 20000 in
theorem gX5_refusesAdd_X5_pointAt : GoodIn wsX5_refusesAdd (wsV RX5 112 RX5 yX5_pointAt wsX5_pointAt) := goodIn_app (goodIn_of _ (by decide +kernel)) ggX5_refusesAdd_X5_pointAt
theorem dX5_refusesAdd_0 : decode cX5_refusesAdd 0 = .ok (.iload_n 1, 1) := by decide +kernel
theorem dX5_refusesAdd_1 : decode cX5_refusesAdd 1 = .ok (.iconst 0, 1) := by decide +kernel
theorem dX5_refusesAdd_2 : decode cX5_refusesAdd 2 = .ok (.bipush 59, 2) := by decide +kernel
theorem dX5_refusesAdd_4 : decode cX5_refusesAdd 4 = .ok (.invokestatic 35, 3) := by decide +kernel
theorem dX5_refusesAdd_7 : decode cX5_refusesAdd 7 = .ok (.ifCond .eq 49, 3) := by decide +kernel
theorem dX5_refusesAdd_10 : decode cX5_refusesAdd 10 = .ok (.iload_n 2, 1) := by decide +kernel
theorem dX5_refusesAdd_11 : decode cX5_refusesAdd 11 = .ok (.iconst 0, 1) := by decide +kernel
theorem dX5_refusesAdd_12 : decode cX5_refusesAdd 12 = .ok (.bipush 39, 2) := by decide +kernel
theorem dX5_refusesAdd_14 : decode cX5_refusesAdd 14 = .ok (.invokestatic 35, 3) := by decide +kernel
theorem dX5_refusesAdd_17 : decode cX5_refusesAdd 17 = .ok (.ifCond .eq 39, 3) := by decide +kernel
theorem dX5_refusesAdd_20 : decode cX5_refusesAdd 20 = .ok (.iload_n 3, 1) := by decide +kernel
theorem dX5_refusesAdd_21 : decode cX5_refusesAdd 21 = .ok (.iconst 1, 1) := by decide +kernel
theorem dX5_refusesAdd_22 : decode cX5_refusesAdd 22 = .ok (.bipush 20, 2) := by decide +kernel
theorem dX5_refusesAdd_24 : decode cX5_refusesAdd 24 = .ok (.invokestatic 35, 3) := by decide +kernel
theorem dX5_refusesAdd_27 : decode cX5_refusesAdd 27 = .ok (.ifCond .eq 29, 3) := by decide +kernel
theorem dX5_refusesAdd_30 : decode cX5_refusesAdd 30 = .ok (.iload 4, 2) := by decide +kernel
theorem dX5_refusesAdd_32 : decode cX5_refusesAdd 32 = .ok (.iconst 1, 1) := by decide +kernel
theorem dX5_refusesAdd_33 : decode cX5_refusesAdd 33 = .ok (.bipush 9, 2) := by decide +kernel
theorem dX5_refusesAdd_35 : decode cX5_refusesAdd 35 = .ok (.invokestatic 35, 3) := by decide +kernel
theorem dX5_refusesAdd_38 : decode cX5_refusesAdd 38 = .ok (.ifCond .eq 18, 3) := by decide +kernel
theorem dX5_refusesAdd_41 : decode cX5_refusesAdd 41 = .ok (.iload 5, 2) := by decide +kernel
theorem dX5_refusesAdd_43 : decode cX5_refusesAdd 43 = .ok (.iconst 1, 1) := by decide +kernel
theorem dX5_refusesAdd_44 : decode cX5_refusesAdd 44 = .ok (.bipush 99, 2) := by decide +kernel
theorem dX5_refusesAdd_46 : decode cX5_refusesAdd 46 = .ok (.invokestatic 35, 3) := by decide +kernel
theorem dX5_refusesAdd_49 : decode cX5_refusesAdd 49 = .ok (.ifCond .eq 7, 3) := by decide +kernel
theorem dX5_refusesAdd_52 : decode cX5_refusesAdd 52 = .ok (.iconst 1, 1) := by decide +kernel
theorem dX5_refusesAdd_53 : decode cX5_refusesAdd 53 = .ok (.goto 4, 3) := by decide +kernel
theorem dX5_refusesAdd_56 : decode cX5_refusesAdd 56 = .ok (.iconst 0, 1) := by decide +kernel
theorem dX5_refusesAdd_57 : decode cX5_refusesAdd 57 = .ok (.istore 6, 2) := by decide +kernel
theorem dX5_refusesAdd_59 : decode cX5_refusesAdd 59 = .ok (.iload 6, 2) := by decide +kernel
theorem dX5_refusesAdd_61 : decode cX5_refusesAdd 61 = .ok (.ifCond .ne 7, 3) := by decide +kernel
theorem dX5_refusesAdd_64 : decode cX5_refusesAdd 64 = .ok (.iconst 1, 1) := by decide +kernel
theorem dX5_refusesAdd_65 : decode cX5_refusesAdd 65 = .ok (.goto 29, 3) := by decide +kernel
theorem dX5_refusesAdd_68 : decode cX5_refusesAdd 68 = .ok (.aload_n 0, 1) := by decide +kernel
theorem dX5_refusesAdd_69 : decode cX5_refusesAdd 69 = .ok (.getfield 7, 3) := by decide +kernel
theorem dX5_refusesAdd_72 : decode cX5_refusesAdd 72 = .ok (.iconst 0, 1) := by decide +kernel
theorem dX5_refusesAdd_73 : decode cX5_refusesAdd 73 = .ok (.iaload, 1) := by decide +kernel
theorem dX5_refusesAdd_74 : decode cX5_refusesAdd 74 = .ok (.bipush 8, 2) := by decide +kernel
theorem dX5_refusesAdd_76 : decode cX5_refusesAdd 76 = .ok (.if_icmp .eq 13, 3) := by decide +kernel
theorem dX5_refusesAdd_79 : decode cX5_refusesAdd 79 = .ok (.aload_n 0, 1) := by decide +kernel
theorem dX5_refusesAdd_80 : decode cX5_refusesAdd 80 = .ok (.iload_n 1, 1) := by decide +kernel
theorem dX5_refusesAdd_81 : decode cX5_refusesAdd 81 = .ok (.iload_n 2, 1) := by decide +kernel
theorem dX5_refusesAdd_82 : decode cX5_refusesAdd 82 = .ok (.invokevirtual 112, 3) := by decide +kernel
theorem dX5_refusesAdd_85 : decode cX5_refusesAdd 85 = .ok (.iconst (-1), 1) := by decide +kernel
theorem dX5_refusesAdd_86 : decode cX5_refusesAdd 86 = .ok (.if_icmp .eq 7, 3) := by decide +kernel
theorem dX5_refusesAdd_89 : decode cX5_refusesAdd 89 = .ok (.iconst 2, 1) := by decide +kernel
theorem dX5_refusesAdd_90 : decode cX5_refusesAdd 90 = .ok (.goto 4, 3) := by decide +kernel
theorem dX5_refusesAdd_93 : decode cX5_refusesAdd 93 = .ok (.iconst 0, 1) := by decide +kernel
theorem dX5_refusesAdd_94 : decode cX5_refusesAdd 94 = .ok (.ireturn, 1) := by decide +kernel
set_option maxRecDepth 20000 in
theorem ggX5_comes_X5_cornerOf : GoodIn wsX5_comes wsX5_cornerOf := goodIn_r _ [6, 7, 8, 9, 5, 10, 1, 38, 39, 40, 41, 42, 43, 44, 45, 46, 47, 48, 49, 50, 51, 52, 53] (by decide +kernel) (by decide +kernel)
set_option maxRecDepth 20000 in
theorem gX5_comes_X5_cornerOf : GoodIn wsX5_comes (wsV RX5 72 RX5 yX5_cornerOf wsX5_cornerOf) := goodIn_app (goodIn_of _ (by decide +kernel)) ggX5_comes_X5_cornerOf
set_option maxRecDepth 20000 in
theorem ggX5_comes_X5_has : GoodIn wsX5_comes wsX5_has := goodIn_r _ [14, 15, 16, 17, 5, 18, 7, 8, 9, 10, 1, 19, 20, 21, 22, 23, 24, 25, 26, 27, 28, 29, 30, 31, 32, 33, 38, 39, 40, 41, 42, 43, 44, 45, 46, 47, 48, 49, 50, 51, 52, 53] (by decide +kernel) (by decide +kernel)
set_option maxRecDepth 20000 in
theorem gX5_comes_X5_has : GoodIn wsX5_comes (wsV RX5 58 RX5 yX5_has wsX5_has) := goodIn_app (goodIn_of _ (by decide +kernel)) ggX5_comes_X5_has
set_option maxRecDepth 20000 in
theorem ggX5_comes_X5_stands : GoodIn wsX5_comes wsX5_stands := goodIn_r _ [37, 1, 38, 39, 40, 41, 42, 43, 44, 45, 46, 47, 48, 49, 50, 51, 52, 53] (by decide +kernel) (by decide +kernel)
set_option maxRecDepth 20000 in
theorem gX5_comes_X5_stands : GoodIn wsX5_comes (wsV RX5 108 RX5 yX5_stands wsX5_stands) := goodIn_app (goodIn_of _ (by decide +kernel)) ggX5_comes_X5_stands
theorem dX5_comes_0 : decode cX5_comes 0 = .ok (.iconst 0, 1) := by decide +kernel
theorem dX5_comes_1 : decode cX5_comes 1 = .ok (.istore 6, 2) := by decide +kernel
theorem dX5_comes_3 : decode cX5_comes 3 = .ok (.iload 6, 2) := by decide +kernel
theorem dX5_comes_5 : decode cX5_comes 5 = .ok (.aload_n 0, 1) := by decide +kernel
theorem dX5_comes_6 : decode cX5_comes 6 = .ok (.getfield 7, 3) := by decide +kernel
theorem dX5_comes_9 : decode cX5_comes 9 = .ok (.iconst 0, 1) := by decide +kernel
theorem dX5_comes_10 : decode cX5_comes 10 = .ok (.iaload, 1) := by decide +kernel
theorem dX5_comes_11 : decode cX5_comes 11 = .ok (.if_icmp .ge 43, 3) := by decide +kernel
theorem dX5_comes_14 : decode cX5_comes 14 = .ok (.aload_n 0, 1) := by decide +kernel
theorem dX5_comes_15 : decode cX5_comes 15 = .ok (.iload 6, 2) := by decide +kernel
theorem dX5_comes_17 : decode cX5_comes 17 = .ok (.invokevirtual 72, 3) := by decide +kernel
theorem dX5_comes_20 : decode cX5_comes 20 = .ok (.iconst (-1), 1) := by decide +kernel
theorem dX5_comes_21 : decode cX5_comes 21 = .ok (.if_icmp .eq 27, 3) := by decide +kernel
theorem dX5_comes_24 : decode cX5_comes 24 = .ok (.aload_n 0, 1) := by decide +kernel
theorem dX5_comes_25 : decode cX5_comes 25 = .ok (.iload 6, 2) := by decide +kernel
theorem dX5_comes_27 : decode cX5_comes 27 = .ok (.aload_n 0, 1) := by decide +kernel
theorem dX5_comes_28 : decode cX5_comes 28 = .ok (.iload 6, 2) := by decide +kernel
theorem dX5_comes_30 : decode cX5_comes 30 = .ok (.invokevirtual 72, 3) := by decide +kernel
theorem dX5_comes_33 : decode cX5_comes 33 = .ok (.iload_n 1, 1) := by decide +kernel
theorem dX5_comes_34 : decode cX5_comes 34 = .ok (.iload_n 2, 1) := by decide +kernel
theorem dX5_comes_35 : decode cX5_comes 35 = .ok (.invokevirtual 58, 3) := by decide +kernel
theorem dX5_comes_38 : decode cX5_comes 38 = .ok (.ifCond .eq 10, 3) := by decide +kernel
theorem dX5_comes_41 : decode cX5_comes 41 = .ok (.aload_n 0, 1) := by decide +kernel
theorem dX5_comes_42 : decode cX5_comes 42 = .ok (.iload 6, 2) := by decide +kernel
theorem dX5_comes_44 : decode cX5_comes 44 = .ok (.iconst (-1), 1) := by decide +kernel
theorem dX5_comes_45 : decode cX5_comes 45 = .ok (.invokevirtual 108, 3) := by decide +kernel
theorem dX5_comes_48 : decode cX5_comes 48 = .ok (.iinc 6 1, 3) := by decide +kernel
theorem dX5_comes_51 : decode cX5_comes 51 = .ok (.goto (-48), 3) := by decide +kernel
theorem dX5_comes_54 : decode cX5_comes 54 = .ok (.iconst 1, 1) := by decide +kernel
theorem dX5_comes_55 : decode cX5_comes 55 = .ok (.bipush 6, 2) := by decide +kernel
theorem dX5_comes_57 : decode cX5_comes 57 = .ok (.aload_n 0, 1) := by decide +kernel
theorem dX5_comes_58 : decode cX5_comes 58 = .ok (.getfield 7, 3) := by decide +kernel
theorem dX5_comes_61 : decode cX5_comes 61 = .ok (.iconst 0, 1) := by decide +kernel
theorem dX5_comes_62 : decode cX5_comes 62 = .ok (.iaload, 1) := by decide +kernel
theorem dX5_comes_63 : decode cX5_comes 63 = .ok (.imul, 1) := by decide +kernel
theorem dX5_comes_64 : decode cX5_comes 64 = .ok (.iadd, 1) := by decide +kernel
theorem dX5_comes_65 : decode cX5_comes 65 = .ok (.istore 6, 2) := by decide +kernel
theorem dX5_comes_67 : decode cX5_comes 67 = .ok (.aload_n 0, 1) := by decide +kernel
theorem dX5_comes_68 : decode cX5_comes 68 = .ok (.getfield 7, 3) := by decide +kernel
theorem dX5_comes_71 : decode cX5_comes 71 = .ok (.iload 6, 2) := by decide +kernel
theorem dX5_comes_73 : decode cX5_comes 73 = .ok (.iconst 0, 1) := by decide +kernel
theorem dX5_comes_74 : decode cX5_comes 74 = .ok (.iadd, 1) := by decide +kernel
theorem dX5_comes_75 : decode cX5_comes 75 = .ok (.iload_n 1, 1) := by decide +kernel
theorem dX5_comes_76 : decode cX5_comes 76 = .ok (.iastore, 1) := by decide +kernel
theorem dX5_comes_77 : decode cX5_comes 77 = .ok (.aload_n 0, 1) := by decide +kernel
theorem dX5_comes_78 : decode cX5_comes 78 = .ok (.getfield 7, 3) := by decide +kernel
theorem dX5_comes_81 : decode cX5_comes 81 = .ok (.iload 6, 2) := by decide +kernel
theorem dX5_comes_83 : decode cX5_comes 83 = .ok (.iconst 1, 1) := by decide +kernel
theorem dX5_comes_84 : decode cX5_comes 84 = .ok (.iadd, 1) := by decide +kernel
theorem dX5_comes_85 : decode cX5_comes 85 = .ok (.iload_n 2, 1) := by decide +kernel
theorem dX5_comes_86 : decode cX5_comes 86 = .ok (.iastore, 1) := by decide +kernel
theorem dX5_comes_87 : decode cX5_comes 87 = .ok (.aload_n 0, 1) := by decide +kernel
theorem dX5_comes_88 : decode cX5_comes 88 = .ok (.getfield 7, 3) := by decide +kernel
theorem dX5_comes_91 : decode cX5_comes 91 = .ok (.iload 6, 2) := by decide +kernel
theorem dX5_comes_93 : decode cX5_comes 93 = .ok (.iconst 2, 1) := by decide +kernel
theorem dX5_comes_94 : decode cX5_comes 94 = .ok (.iadd, 1) := by decide +kernel
theorem dX5_comes_95 : decode cX5_comes 95 = .ok (.iload_n 3, 1) := by decide +kernel
theorem dX5_comes_96 : decode cX5_comes 96 = .ok (.iastore, 1) := by decide +kernel
theorem dX5_comes_97 : decode cX5_comes 97 = .ok (.aload_n 0, 1) := by decide +kernel
theorem dX5_comes_98 : decode cX5_comes 98 = .ok (.getfield 7, 3) := by decide +kernel
theorem dX5_comes_101 : decode cX5_comes 101 = .ok (.iload 6, 2) := by decide +kernel
theorem dX5_comes_103 : decode cX5_comes 103 = .ok (.iconst 3, 1) := by decide +kernel
theorem dX5_comes_104 : decode cX5_comes 104 = .ok (.iadd, 1) := by decide +kernel
theorem dX5_comes_105 : decode cX5_comes 105 = .ok (.iload 4, 2) := by decide +kernel
theorem dX5_comes_107 : decode cX5_comes 107 = .ok (.iastore, 1) := by decide +kernel
theorem dX5_comes_108 : decode cX5_comes 108 = .ok (.aload_n 0, 1) := by decide +kernel
theorem dX5_comes_109 : decode cX5_comes 109 = .ok (.getfield 7, 3) := by decide +kernel
theorem dX5_comes_112 : decode cX5_comes 112 = .ok (.iload 6, 2) := by decide +kernel
theorem dX5_comes_114 : decode cX5_comes 114 = .ok (.iconst 4, 1) := by decide +kernel
theorem dX5_comes_115 : decode cX5_comes 115 = .ok (.iadd, 1) := by decide +kernel
theorem dX5_comes_116 : decode cX5_comes 116 = .ok (.iload 5, 2) := by decide +kernel
theorem dX5_comes_118 : decode cX5_comes 118 = .ok (.iastore, 1) := by decide +kernel
theorem dX5_comes_119 : decode cX5_comes 119 = .ok (.aload_n 0, 1) := by decide +kernel
theorem dX5_comes_120 : decode cX5_comes 120 = .ok (.getfield 7, 3) := by decide +kernel
theorem dX5_comes_123 : decode cX5_comes 123 = .ok (.iload 6, 2) := by decide +kernel
theorem dX5_comes_125 : decode cX5_comes 125 = .ok (.iconst 5, 1) := by decide +kernel
theorem dX5_comes_126 : decode cX5_comes 126 = .ok (.iadd, 1) := by decide +kernel
theorem dX5_comes_127 : decode cX5_comes 127 = .ok (.iconst 0, 1) := by decide +kernel
theorem dX5_comes_128 : decode cX5_comes 128 = .ok (.iastore, 1) := by decide +kernel
theorem dX5_comes_129 : decode cX5_comes 129 = .ok (.aload_n 0, 1) := by decide +kernel
theorem dX5_comes_130 : decode cX5_comes 130 = .ok (.getfield 7, 3) := by decide +kernel
theorem dX5_comes_133 : decode cX5_comes 133 = .ok (.iconst 0, 1) := by decide +kernel
theorem dX5_comes_134 : decode cX5_comes 134 = .ok (.dup2, 1) := by decide +kernel
theorem dX5_comes_135 : decode cX5_comes 135 = .ok (.iaload, 1) := by decide +kernel
theorem dX5_comes_136 : decode cX5_comes 136 = .ok (.iconst 1, 1) := by decide +kernel
theorem dX5_comes_137 : decode cX5_comes 137 = .ok (.iadd, 1) := by decide +kernel
theorem dX5_comes_138 : decode cX5_comes 138 = .ok (.iastore, 1) := by decide +kernel
theorem dX5_comes_139 : decode cX5_comes 139 = .ok (.return_, 1) := by decide +kernel
