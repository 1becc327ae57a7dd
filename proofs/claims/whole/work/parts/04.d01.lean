theorem dX0_init_0 : decode cX0_init 0 = .ok (.aload_n 0, 1) := by decide +kernel
theorem dX0_init_1 : decode cX0_init 1 = .ok (.invokespecial 3, 3) := by decide +kernel
theorem dX0_init_4 : decode cX0_init 4 = .ok (.aload_n 0, 1) := by decide +kernel
theorem dX0_init_5 : decode cX0_init 5 = .ok (.bipush 48, 2) := by decide +kernel
theorem dX0_init_7 : decode cX0_init 7 = .ok (.newarray .int, 2) := by decide +kernel
theorem dX0_init_9 : decode cX0_init 9 = .ok (.putfield 11, 3) := by decide +kernel
theorem dX0_init_12 : decode cX0_init 12 = .ok (.aload_n 0, 1) := by decide +kernel
theorem dX0_init_13 : decode cX0_init 13 = .ok (.iconst 0, 1) := by decide +kernel
theorem dX0_init_14 : decode cX0_init 14 = .ok (.putfield 15, 3) := by decide +kernel
theorem dX0_init_17 : decode cX0_init 17 = .ok (.return_, 1) := by decide +kernel
theorem dX0_has_0 : decode cX0_has 0 = .ok (.iload_n 1, 1) := by decide +kernel
theorem dX0_has_1 : decode cX0_has 1 = .ok (.ifCond .lt 15, 3) := by decide +kernel
theorem dX0_has_4 : decode cX0_has 4 = .ok (.iload_n 1, 1) := by decide +kernel
theorem dX0_has_5 : decode cX0_has 5 = .ok (.aload_n 0, 1) := by decide +kernel
theorem dX0_has_6 : decode cX0_has 6 = .ok (.getfield 15, 3) := by decide +kernel
theorem dX0_has_9 : decode cX0_has 9 = .ok (.if_icmp .ge 7, 3) := by decide +kernel
theorem dX0_has_12 : decode cX0_has 12 = .ok (.iconst 1, 1) := by decide +kernel
theorem dX0_has_13 : decode cX0_has 13 = .ok (.goto 4, 3) := by decide +kernel
theorem dX0_has_16 : decode cX0_has 16 = .ok (.iconst 0, 1) := by decide +kernel
theorem dX0_has_17 : decode cX0_has 17 = .ok (.ireturn, 1) := by decide +kernel
theorem dX0_stands_0 : decode cX0_stands 0 = .ok (.aload_n 0, 1) := by decide +kernel
theorem dX0_stands_1 : decode cX0_stands 1 = .ok (.getfield 11, 3) := by decide +kernel
theorem dX0_stands_4 : decode cX0_stands 4 = .ok (.bipush 40, 2) := by decide +kernel
theorem dX0_stands_6 : decode cX0_stands 6 = .ok (.iload_n 1, 1) := by decide +kernel
theorem dX0_stands_7 : decode cX0_stands 7 = .ok (.iadd, 1) := by decide +kernel
theorem dX0_stands_8 : decode cX0_stands 8 = .ok (.iaload, 1) := by decide +kernel
theorem dX0_stands_9 : decode cX0_stands 9 = .ok (.iconst (-1), 1) := by decide +kernel
theorem dX0_stands_10 : decode cX0_stands 10 = .ok (.if_icmp .eq 7, 3) := by decide +kernel
theorem dX0_stands_13 : decode cX0_stands 13 = .ok (.iconst 1, 1) := by decide +kernel
theorem dX0_stands_14 : decode cX0_stands 14 = .ok (.goto 4, 3) := by decide +kernel
theorem dX0_stands_17 : decode cX0_stands 17 = .ok (.iconst 0, 1) := by decide +kernel
theorem dX0_stands_18 : decode cX0_stands 18 = .ok (.ireturn, 1) := by decide +kernel
set_option maxRecDepth 20000 in
theorem ggX0_takesPointOn_X0_pointOn : GoodIn wsX0_takesPointOn wsX0_pointOn := goodIn_r _ [6, 1, 7, 8, 9] (by decide +kernel) (by decide +kernel)
set_option maxRecDepth 20000 in
theorem gX0_takesPointOn_X0_pointOn : GoodIn wsX0_takesPointOn (wsV RX0 19 RX0 yX0_pointOn wsX0_pointOn) := goodIn_app (goodIn_of _ (by decide +kernel)) ggX0_takesPointOn_X0_pointOn
theorem dX0_takesPointOn_0 : decode cX0_takesPointOn 0 = .ok (.aload_n 0, 1) := by decide +kernel
theorem dX0_takesPointOn_1 : decode cX0_takesPointOn 1 = .ok (.getfield 15, 3) := by decide +kernel
theorem dX0_takesPointOn_4 : decode cX0_takesPointOn 4 = .ok (.bipush 8, 2) := by decide +kernel
theorem dX0_takesPointOn_6 : decode cX0_takesPointOn 6 = .ok (.if_icmp .ge 17, 3) := by decide +kernel
theorem dX0_takesPointOn_9 : decode cX0_takesPointOn 9 = .ok (.aload_n 0, 1) := by decide +kernel
theorem dX0_takesPointOn_10 : decode cX0_takesPointOn 10 = .ok (.iload_n 1, 1) := by decide +kernel
theorem dX0_takesPointOn_11 : decode cX0_takesPointOn 11 = .ok (.iload_n 2, 1) := by decide +kernel
theorem dX0_takesPointOn_12 : decode cX0_takesPointOn 12 = .ok (.invokevirtual 19, 3) := by decide +kernel
theorem dX0_takesPointOn_15 : decode cX0_takesPointOn 15 = .ok (.iconst (-1), 1) := by decide +kernel
theorem dX0_takesPointOn_16 : decode cX0_takesPointOn 16 = .ok (.if_icmp .ne 7, 3) := by decide +kernel
theorem dX0_takesPointOn_19 : decode cX0_takesPointOn 19 = .ok (.iconst 1, 1) := by decide +kernel
theorem dX0_takesPointOn_20 : decode cX0_takesPointOn 20 = .ok (.goto 4, 3) := by decide +kernel
theorem dX0_takesPointOn_23 : decode cX0_takesPointOn 23 = .ok (.iconst 0, 1) := by decide +kernel
theorem dX0_takesPointOn_24 : decode cX0_takesPointOn 24 = .ok (.ireturn, 1) := by decide +kernel
set_option maxRecDepth 20000 in
theorem ggX0_insert_X0_labelOn : GoodIn wsX0_insert wsX0_labelOn := goodIn_r _ [7, 2, 1, 8, 9, 10, 6, 11, 12, 13, 14, 15, 16, 17, 18, 19, 20, 21, 22, 23, 24, 25] (by decide +kernel) (by decide +kernel)
set_option maxRecDepth 20000 in
theorem gX0_insert_X0_labelOn : GoodIn wsX0_insert (wsV RX0 23 RX0 yX0_labelOn wsX0_labelOn) := goodIn_app (goodIn_of _ (by decide +kernel)) ggX0_insert_X0_labelOn
theorem dX0_insert_0 : decode cX0_insert 0 = .ok (.aload_n 0, 1) := by decide +kernel
theorem dX0_insert_1 : decode cX0_insert 1 = .ok (.iload_n 1, 1) := by decide +kernel
theorem dX0_insert_2 : decode cX0_insert 2 = .ok (.iload_n 2, 1) := by decide +kernel
theorem dX0_insert_3 : decode cX0_insert 3 = .ok (.invokevirtual 23, 3) := by decide +kernel
theorem dX0_insert_6 : decode cX0_insert 6 = .ok (.istore 6, 2) := by decide +kernel
theorem dX0_insert_8 : decode cX0_insert 8 = .ok (.iload 6, 2) := by decide +kernel
theorem dX0_insert_10 : decode cX0_insert 10 = .ok (.iconst (-1), 1) := by decide +kernel
theorem dX0_insert_11 : decode cX0_insert 11 = .ok (.if_icmp .eq 14, 3) := by decide +kernel
theorem dX0_insert_14 : decode cX0_insert 14 = .ok (.aload_n 0, 1) := by decide +kernel
theorem dX0_insert_15 : decode cX0_insert 15 = .ok (.getfield 11, 3) := by decide +kernel
theorem dX0_insert_18 : decode cX0_insert 18 = .ok (.bipush 40, 2) := by decide +kernel
theorem dX0_insert_20 : decode cX0_insert 20 = .ok (.iload 6, 2) := by decide +kernel
theorem dX0_insert_22 : decode cX0_insert 22 = .ok (.iadd, 1) := by decide +kernel
theorem dX0_insert_23 : decode cX0_insert 23 = .ok (.iconst (-1), 1) := by decide +kernel
theorem dX0_insert_24 : decode cX0_insert 24 = .ok (.iastore, 1) := by decide +kernel
theorem dX0_insert_25 : decode cX0_insert 25 = .ok (.aload_n 0, 1) := by decide +kernel
theorem dX0_insert_26 : decode cX0_insert 26 = .ok (.getfield 15, 3) := by decide +kernel
theorem dX0_insert_29 : decode cX0_insert 29 = .ok (.istore 7, 2) := by decide +kernel
theorem dX0_insert_31 : decode cX0_insert 31 = .ok (.aload_n 0, 1) := by decide +kernel
theorem dX0_insert_32 : decode cX0_insert 32 = .ok (.dup, 1) := by decide +kernel
theorem dX0_insert_33 : decode cX0_insert 33 = .ok (.getfield 15, 3) := by decide +kernel
theorem dX0_insert_36 : decode cX0_insert 36 = .ok (.iconst 1, 1) := by decide +kernel
theorem dX0_insert_37 : decode cX0_insert 37 = .ok (.iadd, 1) := by decide +kernel
theorem dX0_insert_38 : decode cX0_insert 38 = .ok (.putfield 15, 3) := by decide +kernel
theorem dX0_insert_41 : decode cX0_insert 41 = .ok (.aload_n 0, 1) := by decide +kernel
theorem dX0_insert_42 : decode cX0_insert 42 = .ok (.getfield 11, 3) := by decide +kernel
theorem dX0_insert_45 : decode cX0_insert 45 = .ok (.iconst 0, 1) := by decide +kernel
theorem dX0_insert_46 : decode cX0_insert 46 = .ok (.iload 7, 2) := by decide +kernel
theorem dX0_insert_48 : decode cX0_insert 48 = .ok (.iadd, 1) := by decide +kernel
theorem dX0_insert_49 : decode cX0_insert 49 = .ok (.iload_n 1, 1) := by decide +kernel
theorem dX0_insert_50 : decode cX0_insert 50 = .ok (.iastore, 1) := by decide +kernel
theorem dX0_insert_51 : decode cX0_insert 51 = .ok (.aload_n 0, 1) := by decide +kernel
theorem dX0_insert_52 : decode cX0_insert 52 = .ok (.getfield 11, 3) := by decide +kernel
theorem dX0_insert_55 : decode cX0_insert 55 = .ok (.bipush 8, 2) := by decide +kernel
theorem dX0_insert_57 : decode cX0_insert 57 = .ok (.iload 7, 2) := by decide +kernel
theorem dX0_insert_59 : decode cX0_insert 59 = .ok (.iadd, 1) := by decide +kernel
theorem dX0_insert_60 : decode cX0_insert 60 = .ok (.iload_n 2, 1) := by decide +kernel
theorem dX0_insert_61 : decode cX0_insert 61 = .ok (.iastore, 1) := by decide +kernel
theorem dX0_insert_62 : decode cX0_insert 62 = .ok (.aload_n 0, 1) := by decide +kernel
theorem dX0_insert_63 : decode cX0_insert 63 = .ok (.getfield 11, 3) := by decide +kernel
theorem dX0_insert_66 : decode cX0_insert 66 = .ok (.bipush 16, 2) := by decide +kernel
theorem dX0_insert_68 : decode cX0_insert 68 = .ok (.iload 7, 2) := by decide +kernel
theorem dX0_insert_70 : decode cX0_insert 70 = .ok (.iadd, 1) := by decide +kernel
theorem dX0_insert_71 : decode cX0_insert 71 = .ok (.iload_n 3, 1) := by decide +kernel
theorem dX0_insert_72 : decode cX0_insert 72 = .ok (.iastore, 1) := by decide +kernel
theorem dX0_insert_73 : decode cX0_insert 73 = .ok (.aload_n 0, 1) := by decide +kernel
theorem dX0_insert_74 : decode cX0_insert 74 = .ok (.getfield 11, 3) := by decide +kernel
theorem dX0_insert_77 : decode cX0_insert 77 = .ok (.bipush 24, 2) := by decide +kernel
theorem dX0_insert_79 : decode cX0_insert 79 = .ok (.iload 7, 2) := by decide +kernel
theorem dX0_insert_81 : decode cX0_insert 81 = .ok (.iadd, 1) := by decide +kernel
theorem dX0_insert_82 : decode cX0_insert 82 = .ok (.iload 4, 2) := by decide +kernel
theorem dX0_insert_84 : decode cX0_insert 84 = .ok (.iastore, 1) := by decide +kernel
theorem dX0_insert_85 : decode cX0_insert 85 = .ok (.aload_n 0, 1) := by decide +kernel
theorem dX0_insert_86 : decode cX0_insert 86 = .ok (.getfield 11, 3) := by decide +kernel
theorem dX0_insert_89 : decode cX0_insert 89 = .ok (.bipush 32, 2) := by decide +kernel
theorem dX0_insert_91 : decode cX0_insert 91 = .ok (.iload 7, 2) := by decide +kernel
theorem dX0_insert_93 : decode cX0_insert 93 = .ok (.iadd, 1) := by decide +kernel
theorem dX0_insert_94 : decode cX0_insert 94 = .ok (.iload 5, 2) := by decide +kernel
theorem dX0_insert_96 : decode cX0_insert 96 = .ok (.iastore, 1) := by decide +kernel
theorem dX0_insert_97 : decode cX0_insert 97 = .ok (.aload_n 0, 1) := by decide +kernel
theorem dX0_insert_98 : decode cX0_insert 98 = .ok (.getfield 11, 3) := by decide +kernel
theorem dX0_insert_101 : decode cX0_insert 101 = .ok (.bipush 40, 2) := by decide +kernel
theorem dX0_insert_103 : decode cX0_insert 103 = .ok (.iload 7, 2) := by decide +kernel
theorem dX0_insert_105 : decode cX0_insert 105 = .ok (.iadd, 1) := by decide +kernel
theorem dX0_insert_106 : decode cX0_insert 106 = .ok (.iconst (-1), 1) := by decide +kernel
theorem dX0_insert_107 : decode cX0_insert 107 = .ok (.iastore, 1) := by decide +kernel
theorem dX0_insert_108 : decode cX0_insert 108 = .ok (.iload 7, 2) := by decide +kernel
theorem dX0_insert_110 : decode cX0_insert 110 = .ok (.ireturn, 1) := by decide +kernel
theorem dX0_takeOut_0 : decode cX0_takeOut 0 = .ok (.aload_n 0, 1) := by decide +kernel
theorem dX0_takeOut_1 : decode cX0_takeOut 1 = .ok (.dup, 1) := by decide +kernel
theorem dX0_takeOut_2 : decode cX0_takeOut 2 = .ok (.getfield 15, 3) := by decide +kernel
theorem dX0_takeOut_5 : decode cX0_takeOut 5 = .ok (.iconst 1, 1) := by decide +kernel
theorem dX0_takeOut_6 : decode cX0_takeOut 6 = .ok (.isub, 1) := by decide +kernel
theorem dX0_takeOut_7 : decode cX0_takeOut 7 = .ok (.putfield 15, 3) := by decide +kernel
theorem dX0_takeOut_10 : decode cX0_takeOut 10 = .ok (.iconst 0, 1) := by decide +kernel
theorem dX0_takeOut_11 : decode cX0_takeOut 11 = .ok (.istore_n 2, 1) := by decide +kernel
theorem dX0_takeOut_12 : decode cX0_takeOut 12 = .ok (.iload_n 2, 1) := by decide +kernel
theorem dX0_takeOut_13 : decode cX0_takeOut 13 = .ok (.bipush 48, 2) := by decide +kernel
theorem dX0_takeOut_15 : decode cX0_takeOut 15 = .ok (.if_icmp .ge 43, 3) := by decide +kernel
theorem dX0_takeOut_18 : decode cX0_takeOut 18 = .ok (.iload_n 1, 1) := by decide +kernel
theorem dX0_takeOut_19 : decode cX0_takeOut 19 = .ok (.istore_n 3, 1) := by decide +kernel
theorem dX0_takeOut_20 : decode cX0_takeOut 20 = .ok (.iload_n 3, 1) := by decide +kernel
theorem dX0_takeOut_21 : decode cX0_takeOut 21 = .ok (.aload_n 0, 1) := by decide +kernel
theorem dX0_takeOut_22 : decode cX0_takeOut 22 = .ok (.getfield 15, 3) := by decide +kernel
theorem dX0_takeOut_25 : decode cX0_takeOut 25 = .ok (.if_icmp .ge 27, 3) := by decide +kernel
theorem dX0_takeOut_28 : decode cX0_takeOut 28 = .ok (.aload_n 0, 1) := by decide +kernel
theorem dX0_takeOut_29 : decode cX0_takeOut 29 = .ok (.getfield 11, 3) := by decide +kernel
theorem dX0_takeOut_32 : decode cX0_takeOut 32 = .ok (.iload_n 2, 1) := by decide +kernel
theorem dX0_takeOut_33 : decode cX0_takeOut 33 = .ok (.iload_n 3, 1) := by decide +kernel
theorem dX0_takeOut_34 : decode cX0_takeOut 34 = .ok (.iadd, 1) := by decide +kernel
theorem dX0_takeOut_35 : decode cX0_takeOut 35 = .ok (.aload_n 0, 1) := by decide +kernel
theorem dX0_takeOut_36 : decode cX0_takeOut 36 = .ok (.getfield 11, 3) := by decide +kernel
theorem dX0_takeOut_39 : decode cX0_takeOut 39 = .ok (.iload_n 2, 1) := by decide +kernel
theorem dX0_takeOut_40 : decode cX0_takeOut 40 = .ok (.iload_n 3, 1) := by decide +kernel
theorem dX0_takeOut_41 : decode cX0_takeOut 41 = .ok (.iadd, 1) := by decide +kernel
theorem dX0_takeOut_42 : decode cX0_takeOut 42 = .ok (.iconst 1, 1) := by decide +kernel
theorem dX0_takeOut_43 : decode cX0_takeOut 43 = .ok (.iadd, 1) := by decide +kernel
theorem dX0_takeOut_44 : decode cX0_takeOut 44 = .ok (.iaload, 1) := by decide +kernel
theorem dX0_takeOut_45 : decode cX0_takeOut 45 = .ok (.iastore, 1) := by decide +kernel
theorem dX0_takeOut_46 : decode cX0_takeOut 46 = .ok (.iinc 3 1, 3) := by decide +kernel
theorem dX0_takeOut_49 : decode cX0_takeOut 49 = .ok (.goto (-29), 3) := by decide +kernel
theorem dX0_takeOut_52 : decode cX0_takeOut 52 = .ok (.iinc 2 8, 3) := by decide +kernel
theorem dX0_takeOut_55 : decode cX0_takeOut 55 = .ok (.goto (-43), 3) := by decide +kernel
theorem dX0_takeOut_58 : decode cX0_takeOut 58 = .ok (.return_, 1) := by decide +kernel
set_option maxRecDepth 20000 in
theorem ggX0_flip_X0_stands : GoodIn wsX0_flip wsX0_stands := goodIn_r _ [7, 2, 8, 9] (by decide +kernel) (by decide +kernel)
set_option maxRecDepth 20000 in
theorem gX0_flip_X0_stands : GoodIn wsX0_flip (wsV RX0 26 RX0 yX0_stands wsX0_stands) := goodIn_app (goodIn_of _ (by decide +kernel)) ggX0_flip_X0_stands
theorem dX0_flip_0 : decode cX0_flip 0 = .ok (.iconst 0, 1) := by decide +kernel
theorem dX0_flip_1 : decode cX0_flip 1 = .ok (.istore_n 1, 1) := by decide +kernel
theorem dX0_flip_2 : decode cX0_flip 2 = .ok (.iload_n 1, 1) := by decide +kernel
theorem dX0_flip_3 : decode cX0_flip 3 = .ok (.aload_n 0, 1) := by decide +kernel
theorem dX0_flip_4 : decode cX0_flip 4 = .ok (.getfield 15, 3) := by decide +kernel
theorem dX0_flip_7 : decode cX0_flip 7 = .ok (.if_icmp .ge 56, 3) := by decide +kernel
theorem dX0_flip_10 : decode cX0_flip 10 = .ok (.aload_n 0, 1) := by decide +kernel
theorem dX0_flip_11 : decode cX0_flip 11 = .ok (.getfield 11, 3) := by decide +kernel
theorem dX0_flip_14 : decode cX0_flip 14 = .ok (.iconst 0, 1) := by decide +kernel
theorem dX0_flip_15 : decode cX0_flip 15 = .ok (.iload_n 1, 1) := by decide +kernel
theorem dX0_flip_16 : decode cX0_flip 16 = .ok (.iadd, 1) := by decide +kernel
theorem dX0_flip_17 : decode cX0_flip 17 = .ok (.bipush 59, 2) := by decide +kernel
theorem dX0_flip_19 : decode cX0_flip 19 = .ok (.aload_n 0, 1) := by decide +kernel
theorem dX0_flip_20 : decode cX0_flip 20 = .ok (.getfield 11, 3) := by decide +kernel
theorem dX0_flip_23 : decode cX0_flip 23 = .ok (.iconst 0, 1) := by decide +kernel
theorem dX0_flip_24 : decode cX0_flip 24 = .ok (.iload_n 1, 1) := by decide +kernel
theorem dX0_flip_25 : decode cX0_flip 25 = .ok (.iadd, 1) := by decide +kernel
theorem dX0_flip_26 : decode cX0_flip 26 = .ok (.iaload, 1) := by decide +kernel
theorem dX0_flip_27 : decode cX0_flip 27 = .ok (.isub, 1) := by decide +kernel
theorem dX0_flip_28 : decode cX0_flip 28 = .ok (.iastore, 1) := by decide +kernel
theorem dX0_flip_29 : decode cX0_flip 29 = .ok (.aload_n 0, 1) := by decide +kernel
theorem dX0_flip_30 : decode cX0_flip 30 = .ok (.iload_n 1, 1) := by decide +kernel
theorem dX0_flip_31 : decode cX0_flip 31 = .ok (.invokevirtual 26, 3) := by decide +kernel
theorem dX0_flip_34 : decode cX0_flip 34 = .ok (.ifCond .eq 23, 3) := by decide +kernel
theorem dX0_flip_37 : decode cX0_flip 37 = .ok (.aload_n 0, 1) := by decide +kernel
theorem dX0_flip_38 : decode cX0_flip 38 = .ok (.getfield 11, 3) := by decide +kernel
theorem dX0_flip_41 : decode cX0_flip 41 = .ok (.bipush 40, 2) := by decide +kernel
theorem dX0_flip_43 : decode cX0_flip 43 = .ok (.iload_n 1, 1) := by decide +kernel
theorem dX0_flip_44 : decode cX0_flip 44 = .ok (.iadd, 1) := by decide +kernel
theorem dX0_flip_45 : decode cX0_flip 45 = .ok (.aload_n 0, 1) := by decide +kernel
theorem dX0_flip_46 : decode cX0_flip 46 = .ok (.getfield 11, 3) := by decide +kernel
theorem dX0_flip_49 : decode cX0_flip 49 = .ok (.bipush 40, 2) := by decide +kernel
theorem dX0_flip_51 : decode cX0_flip 51 = .ok (.iload_n 1, 1) := by decide +kernel
theorem dX0_flip_52 : decode cX0_flip 52 = .ok (.iadd, 1) := by decide +kernel
theorem dX0_flip_53 : decode cX0_flip 53 = .ok (.iaload, 1) := by decide +kernel
theorem dX0_flip_54 : decode cX0_flip 54 = .ok (.iconst 1, 1) := by decide +kernel
theorem dX0_flip_55 : decode cX0_flip 55 = .ok (.ixor, 1) := by decide +kernel
theorem dX0_flip_56 : decode cX0_flip 56 = .ok (.iastore, 1) := by decide +kernel
theorem dX0_flip_57 : decode cX0_flip 57 = .ok (.iinc 1 1, 3) := by decide +kernel
theorem dX0_flip_60 : decode cX0_flip 60 = .ok (.goto (-58), 3) := by decide +kernel
theorem dX0_flip_63 : decode cX0_flip 63 = .ok (.return_, 1) := by decide +kernel
theorem dX0_left_0 : decode cX0_left 0 = .ok (.iload_n 2, 1) := by decide +kernel
theorem dX0_left_1 : decode cX0_left 1 = .ok (.ifCond .eq 8, 3) := by decide +kernel
theorem dX0_left_4 : decode cX0_left 4 = .ok (.iload_n 2, 1) := by decide +kernel
theorem dX0_left_5 : decode cX0_left 5 = .ok (.iconst 3, 1) := by decide +kernel
theorem dX0_left_6 : decode cX0_left 6 = .ok (.if_icmp .ne 7, 3) := by decide +kernel
theorem dX0_left_9 : decode cX0_left 9 = .ok (.iconst 1, 1) := by decide +kernel
theorem dX0_left_10 : decode cX0_left 10 = .ok (.goto 4, 3) := by decide +kernel
theorem dX0_left_13 : decode cX0_left 13 = .ok (.iconst 0, 1) := by decide +kernel
theorem dX0_left_14 : decode cX0_left 14 = .ok (.istore_n 3, 1) := by decide +kernel
theorem dX0_left_15 : decode cX0_left 15 = .ok (.iload_n 3, 1) := by decide +kernel
theorem dX0_left_16 : decode cX0_left 16 = .ok (.ifCond .eq 16, 3) := by decide +kernel
theorem dX0_left_19 : decode cX0_left 19 = .ok (.aload_n 0, 1) := by decide +kernel
theorem dX0_left_20 : decode cX0_left 20 = .ok (.getfield 11, 3) := by decide +kernel
theorem dX0_left_23 : decode cX0_left 23 = .ok (.iconst 0, 1) := by decide +kernel
theorem dX0_left_24 : decode cX0_left 24 = .ok (.iload_n 1, 1) := by decide +kernel
theorem dX0_left_25 : decode cX0_left 25 = .ok (.iadd, 1) := by decide +kernel
theorem dX0_left_26 : decode cX0_left 26 = .ok (.iaload, 1) := by decide +kernel
theorem dX0_left_27 : decode cX0_left 27 = .ok (.iconst 1, 1) := by decide +kernel
theorem dX0_left_28 : decode cX0_left 28 = .ok (.iadd, 1) := by decide +kernel
theorem dX0_left_29 : decode cX0_left 29 = .ok (.goto 21, 3) := by decide +kernel
theorem dX0_left_32 : decode cX0_left 32 = .ok (.aload_n 0, 1) := by decide +kernel
theorem dX0_left_33 : decode cX0_left 33 = .ok (.getfield 11, 3) := by decide +kernel
theorem dX0_left_36 : decode cX0_left 36 = .ok (.iconst 0, 1) := by decide +kernel
theorem dX0_left_37 : decode cX0_left 37 = .ok (.iload_n 1, 1) := by decide +kernel
theorem dX0_left_38 : decode cX0_left 38 = .ok (.iadd, 1) := by decide +kernel
theorem dX0_left_39 : decode cX0_left 39 = .ok (.iaload, 1) := by decide +kernel
theorem dX0_left_40 : decode cX0_left 40 = .ok (.aload_n 0, 1) := by decide +kernel
theorem dX0_left_41 : decode cX0_left 41 = .ok (.getfield 11, 3) := by decide +kernel
theorem dX0_left_44 : decode cX0_left 44 = .ok (.bipush 16, 2) := by decide +kernel
theorem dX0_left_46 : decode cX0_left 46 = .ok (.iload_n 1, 1) := by decide +kernel
theorem dX0_left_47 : decode cX0_left 47 = .ok (.iadd, 1) := by decide +kernel
theorem dX0_left_48 : decode cX0_left 48 = .ok (.iaload, 1) := by decide +kernel
theorem dX0_left_49 : decode cX0_left 49 = .ok (.isub, 1) := by decide +kernel
theorem dX0_left_50 : decode cX0_left 50 = .ok (.ireturn, 1) := by decide +kernel
theorem dX0_top_0 : decode cX0_top 0 = .ok (.iload_n 2, 1) := by decide +kernel
theorem dX0_top_1 : decode cX0_top 1 = .ok (.ifCond .eq 8, 3) := by decide +kernel
theorem dX0_top_4 : decode cX0_top 4 = .ok (.iload_n 2, 1) := by decide +kernel
theorem dX0_top_5 : decode cX0_top 5 = .ok (.iconst 1, 1) := by decide +kernel
theorem dX0_top_6 : decode cX0_top 6 = .ok (.if_icmp .ne 7, 3) := by decide +kernel
theorem dX0_top_9 : decode cX0_top 9 = .ok (.iconst 1, 1) := by decide +kernel
theorem dX0_top_10 : decode cX0_top 10 = .ok (.goto 4, 3) := by decide +kernel
theorem dX0_top_13 : decode cX0_top 13 = .ok (.iconst 0, 1) := by decide +kernel
theorem dX0_top_14 : decode cX0_top 14 = .ok (.istore_n 3, 1) := by decide +kernel
theorem dX0_top_15 : decode cX0_top 15 = .ok (.iload_n 3, 1) := by decide +kernel
theorem dX0_top_16 : decode cX0_top 16 = .ok (.ifCond .eq 17, 3) := by decide +kernel
theorem dX0_top_19 : decode cX0_top 19 = .ok (.aload_n 0, 1) := by decide +kernel
theorem dX0_top_20 : decode cX0_top 20 = .ok (.getfield 11, 3) := by decide +kernel
theorem dX0_top_23 : decode cX0_top 23 = .ok (.bipush 8, 2) := by decide +kernel
theorem dX0_top_25 : decode cX0_top 25 = .ok (.iload_n 1, 1) := by decide +kernel
theorem dX0_top_26 : decode cX0_top 26 = .ok (.iadd, 1) := by decide +kernel
theorem dX0_top_27 : decode cX0_top 27 = .ok (.iaload, 1) := by decide +kernel
theorem dX0_top_28 : decode cX0_top 28 = .ok (.iconst 1, 1) := by decide +kernel
theorem dX0_top_29 : decode cX0_top 29 = .ok (.iadd, 1) := by decide +kernel
theorem dX0_top_30 : decode cX0_top 30 = .ok (.goto 22, 3) := by decide +kernel
theorem dX0_top_33 : decode cX0_top 33 = .ok (.aload_n 0, 1) := by decide +kernel
theorem dX0_top_34 : decode cX0_top 34 = .ok (.getfield 11, 3) := by decide +kernel
theorem dX0_top_37 : decode cX0_top 37 = .ok (.bipush 8, 2) := by decide +kernel
theorem dX0_top_39 : decode cX0_top 39 = .ok (.iload_n 1, 1) := by decide +kernel
theorem dX0_top_40 : decode cX0_top 40 = .ok (.iadd, 1) := by decide +kernel
theorem dX0_top_41 : decode cX0_top 41 = .ok (.iaload, 1) := by decide +kernel
theorem dX0_top_42 : decode cX0_top 42 = .ok (.aload_n 0, 1) := by decide +kernel
theorem dX0_top_43 : decode cX0_top 43 = .ok (.getfield 11, 3) := by decide +kernel
theorem dX0_top_46 : decode cX0_top 46 = .ok (.bipush 24, 2) := by decide +kernel
theorem dX0_top_48 : decode cX0_top 48 = .ok (.iload_n 1, 1) := by decide +kernel
theorem dX0_top_49 : decode cX0_top 49 = .ok (.iadd, 1) := by decide +kernel
theorem dX0_top_50 : decode cX0_top 50 = .ok (.iaload, 1) := by decide +kernel
theorem dX0_top_51 : decode cX0_top 51 = .ok (.isub, 1) := by decide +kernel
theorem dX0_top_52 : decode cX0_top 52 = .ok (.ireturn, 1) := by decide +kernel
set_option maxRecDepth 20000 in
theorem ggX0_covers_X0_left : GoodIn wsX0_covers wsX0_left := goodIn_r _ [6, 1, 11, 12] (by decide +kernel) (by decide +kernel)
set_option maxRecDepth 20000 in
theorem gX0_covers_X0_left : GoodIn wsX0_covers (wsV RX0 30 RX0 yX0_left wsX0_left) := goodIn_app (goodIn_of _ (by decide +kernel)) ggX0_covers_X0_left
set_option maxRecDepth 20000 in
theorem ggX0_covers_X0_top : GoodIn wsX0_covers wsX0_top := goodIn_r _ [10, 1, 11, 12] (by decide +kernel) (by decide +kernel)
set_option maxRecDepth 20000 in
theorem gX0_covers_X0_top : GoodIn wsX0_covers (wsV RX0 33 RX0 yX0_top wsX0_top) := goodIn_app (goodIn_of _ (by decide +kernel)) ggX0_covers_X0_top
theorem dX0_covers_0 : decode cX0_covers 0 = .ok (.aload_n 0, 1) := by decide +kernel
theorem dX0_covers_1 : decode cX0_covers 1 = .ok (.iload_n 1, 1) := by decide +kernel
theorem dX0_covers_2 : decode cX0_covers 2 = .ok (.iload_n 2, 1) := by decide +kernel
theorem dX0_covers_3 : decode cX0_covers 3 = .ok (.invokevirtual 30, 3) := by decide +kernel
theorem dX0_covers_6 : decode cX0_covers 6 = .ok (.istore 5, 2) := by decide +kernel
theorem dX0_covers_8 : decode cX0_covers 8 = .ok (.aload_n 0, 1) := by decide +kernel
theorem dX0_covers_9 : decode cX0_covers 9 = .ok (.iload_n 1, 1) := by decide +kernel
theorem dX0_covers_10 : decode cX0_covers 10 = .ok (.iload_n 2, 1) := by decide +kernel
theorem dX0_covers_11 : decode cX0_covers 11 = .ok (.invokevirtual 33, 3) := by decide +kernel
theorem dX0_covers_14 : decode cX0_covers 14 = .ok (.istore 6, 2) := by decide +kernel
theorem dX0_covers_16 : decode cX0_covers 16 = .ok (.iload_n 3, 1) := by decide +kernel
theorem dX0_covers_17 : decode cX0_covers 17 = .ok (.iload 5, 2) := by decide +kernel
theorem dX0_covers_19 : decode cX0_covers 19 = .ok (.if_icmp .lt 47, 3) := by decide +kernel
theorem dX0_covers_22 : decode cX0_covers 22 = .ok (.iload_n 3, 1) := by decide +kernel
theorem dX0_covers_23 : decode cX0_covers 23 = .ok (.iload 5, 2) := by decide +kernel
theorem dX0_covers_25 : decode cX0_covers 25 = .ok (.aload_n 0, 1) := by decide +kernel
theorem dX0_covers_26 : decode cX0_covers 26 = .ok (.getfield 11, 3) := by decide +kernel
theorem dX0_covers_29 : decode cX0_covers 29 = .ok (.bipush 16, 2) := by decide +kernel
theorem dX0_covers_31 : decode cX0_covers 31 = .ok (.iload_n 1, 1) := by decide +kernel
theorem dX0_covers_32 : decode cX0_covers 32 = .ok (.iadd, 1) := by decide +kernel
theorem dX0_covers_33 : decode cX0_covers 33 = .ok (.iaload, 1) := by decide +kernel
theorem dX0_covers_34 : decode cX0_covers 34 = .ok (.iadd, 1) := by decide +kernel
theorem dX0_covers_35 : decode cX0_covers 35 = .ok (.if_icmp .ge 31, 3) := by decide +kernel
theorem dX0_covers_38 : decode cX0_covers 38 = .ok (.iload 4, 2) := by decide +kernel
theorem dX0_covers_40 : decode cX0_covers 40 = .ok (.iload 6, 2) := by decide +kernel
theorem dX0_covers_42 : decode cX0_covers 42 = .ok (.if_icmp .lt 24, 3) := by decide +kernel
theorem dX0_covers_45 : decode cX0_covers 45 = .ok (.iload 4, 2) := by decide +kernel
theorem dX0_covers_47 : decode cX0_covers 47 = .ok (.iload 6, 2) := by decide +kernel
theorem dX0_covers_49 : decode cX0_covers 49 = .ok (.aload_n 0, 1) := by decide +kernel
theorem dX0_covers_50 : decode cX0_covers 50 = .ok (.getfield 11, 3) := by decide +kernel
theorem dX0_covers_53 : decode cX0_covers 53 = .ok (.bipush 24, 2) := by decide +kernel
theorem dX0_covers_55 : decode cX0_covers 55 = .ok (.iload_n 1, 1) := by decide +kernel
theorem dX0_covers_56 : decode cX0_covers 56 = .ok (.iadd, 1) := by decide +kernel
theorem dX0_covers_57 : decode cX0_covers 57 = .ok (.iaload, 1) := by decide +kernel
theorem dX0_covers_58 : decode cX0_covers 58 = .ok (.iadd, 1) := by decide +kernel
theorem dX0_covers_59 : decode cX0_covers 59 = .ok (.if_icmp .ge 7, 3) := by decide +kernel
theorem dX0_covers_62 : decode cX0_covers 62 = .ok (.iconst 1, 1) := by decide +kernel
theorem dX0_covers_63 : decode cX0_covers 63 = .ok (.goto 4, 3) := by decide +kernel
theorem dX0_covers_66 : decode cX0_covers 66 = .ok (.iconst 0, 1) := by decide +kernel
theorem dX0_covers_67 : decode cX0_covers 67 = .ok (.ireturn, 1) := by decide +kernel
theorem dX0_pointOn_0 : decode cX0_pointOn 0 = .ok (.iconst 0, 1) := by decide +kernel
theorem dX0_pointOn_1 : decode cX0_pointOn 1 = .ok (.istore_n 3, 1) := by decide +kernel
theorem dX0_pointOn_2 : decode cX0_pointOn 2 = .ok (.iload_n 3, 1) := by decide +kernel
theorem dX0_pointOn_3 : decode cX0_pointOn 3 = .ok (.aload_n 0, 1) := by decide +kernel
theorem dX0_pointOn_4 : decode cX0_pointOn 4 = .ok (.getfield 15, 3) := by decide +kernel
theorem dX0_pointOn_7 : decode cX0_pointOn 7 = .ok (.if_icmp .ge 36, 3) := by decide +kernel
theorem dX0_pointOn_10 : decode cX0_pointOn 10 = .ok (.aload_n 0, 1) := by decide +kernel
theorem dX0_pointOn_11 : decode cX0_pointOn 11 = .ok (.getfield 11, 3) := by decide +kernel
theorem dX0_pointOn_14 : decode cX0_pointOn 14 = .ok (.iconst 0, 1) := by decide +kernel
theorem dX0_pointOn_15 : decode cX0_pointOn 15 = .ok (.iload_n 3, 1) := by decide +kernel
theorem dX0_pointOn_16 : decode cX0_pointOn 16 = .ok (.iadd, 1) := by decide +kernel
theorem dX0_pointOn_17 : decode cX0_pointOn 17 = .ok (.iaload, 1) := by decide +kernel
theorem dX0_pointOn_18 : decode cX0_pointOn 18 = .ok (.iload_n 1, 1) := by decide +kernel
theorem dX0_pointOn_19 : decode cX0_pointOn 19 = .ok (.if_icmp .ne 18, 3) := by decide +kernel
theorem dX0_pointOn_22 : decode cX0_pointOn 22 = .ok (.aload_n 0, 1) := by decide +kernel
theorem dX0_pointOn_23 : decode cX0_pointOn 23 = .ok (.getfield 11, 3) := by decide +kernel
theorem dX0_pointOn_26 : decode cX0_pointOn 26 = .ok (.bipush 8, 2) := by decide +kernel
theorem dX0_pointOn_28 : decode cX0_pointOn 28 = .ok (.iload_n 3, 1) := by decide +kernel
theorem dX0_pointOn_29 : decode cX0_pointOn 29 = .ok (.iadd, 1) := by decide +kernel
theorem dX0_pointOn_30 : decode cX0_pointOn 30 = .ok (.iaload, 1) := by decide +kernel
theorem dX0_pointOn_31 : decode cX0_pointOn 31 = .ok (.iload_n 2, 1) := by decide +kernel
theorem dX0_pointOn_32 : decode cX0_pointOn 32 = .ok (.if_icmp .ne 5, 3) := by decide +kernel
theorem dX0_pointOn_35 : decode cX0_pointOn 35 = .ok (.iload_n 3, 1) := by decide +kernel
theorem dX0_pointOn_36 : decode cX0_pointOn 36 = .ok (.ireturn, 1) := by decide +kernel
theorem dX0_pointOn_37 : decode cX0_pointOn 37 = .ok (.iinc 3 1, 3) := by decide +kernel
theorem dX0_pointOn_40 : decode cX0_pointOn 40 = .ok (.goto (-38), 3) := by decide +kernel
theorem dX0_pointOn_43 : decode cX0_pointOn 43 = .ok (.iconst (-1), 1) := by decide +kernel
theorem dX0_pointOn_44 : decode cX0_pointOn 44 = .ok (.ireturn, 1) := by decide +kernel
set_option maxRecDepth 20000 in
theorem ggX0_labelOn_X0_stands : GoodIn wsX0_labelOn wsX0_stands := goodIn_r _ [7, 2, 20, 21] (by decide +kernel) (by decide +kernel)
set_option maxRecDepth 20000 in
theorem gX0_labelOn_X0_stands : GoodIn wsX0_labelOn (wsV RX0 26 RX0 yX0_stands wsX0_stands) := goodIn_app (goodIn_of _ (by decide +kernel)) ggX0_labelOn_X0_stands
set_option maxRecDepth 20000 in
theorem ggX0_labelOn_X0_covers : GoodIn wsX0_labelOn wsX0_covers := goodIn_r _ [11, 2, 12, 13, 14, 6, 15, 16, 17, 18, 19, 20, 21] (by decide +kernel) (by decide +kernel)
set_option maxRecDepth 20000 in
theorem gX0_labelOn_X0_covers : GoodIn wsX0_labelOn (wsV RX0 36 RX0 yX0_covers wsX0_covers) := goodIn_app (goodIn_of _ (by decide +kernel)) ggX0_labelOn_X0_covers
theorem dX0_labelOn_0 : decode cX0_labelOn 0 = .ok (.iconst 0, 1) := by decide +kernel
theorem dX0_labelOn_1 : decode cX0_labelOn 1 = .ok (.istore_n 3, 1) := by decide +kernel
theorem dX0_labelOn_2 : decode cX0_labelOn 2 = .ok (.iload_n 3, 1) := by decide +kernel
theorem dX0_labelOn_3 : decode cX0_labelOn 3 = .ok (.aload_n 0, 1) := by decide +kernel
theorem dX0_labelOn_4 : decode cX0_labelOn 4 = .ok (.getfield 15, 3) := by decide +kernel
theorem dX0_labelOn_7 : decode cX0_labelOn 7 = .ok (.if_icmp .ge 38, 3) := by decide +kernel
theorem dX0_labelOn_10 : decode cX0_labelOn 10 = .ok (.aload_n 0, 1) := by decide +kernel
theorem dX0_labelOn_11 : decode cX0_labelOn 11 = .ok (.iload_n 3, 1) := by decide +kernel
theorem dX0_labelOn_12 : decode cX0_labelOn 12 = .ok (.invokevirtual 26, 3) := by decide +kernel
theorem dX0_labelOn_15 : decode cX0_labelOn 15 = .ok (.ifCond .eq 24, 3) := by decide +kernel
theorem dX0_labelOn_18 : decode cX0_labelOn 18 = .ok (.aload_n 0, 1) := by decide +kernel
theorem dX0_labelOn_19 : decode cX0_labelOn 19 = .ok (.iload_n 3, 1) := by decide +kernel
theorem dX0_labelOn_20 : decode cX0_labelOn 20 = .ok (.aload_n 0, 1) := by decide +kernel
theorem dX0_labelOn_21 : decode cX0_labelOn 21 = .ok (.getfield 11, 3) := by decide +kernel
theorem dX0_labelOn_24 : decode cX0_labelOn 24 = .ok (.bipush 40, 2) := by decide +kernel
theorem dX0_labelOn_26 : decode cX0_labelOn 26 = .ok (.iload_n 3, 1) := by decide +kernel
theorem dX0_labelOn_27 : decode cX0_labelOn 27 = .ok (.iadd, 1) := by decide +kernel
theorem dX0_labelOn_28 : decode cX0_labelOn 28 = .ok (.iaload, 1) := by decide +kernel
theorem dX0_labelOn_29 : decode cX0_labelOn 29 = .ok (.iload_n 1, 1) := by decide +kernel
theorem dX0_labelOn_30 : decode cX0_labelOn 30 = .ok (.iload_n 2, 1) := by decide +kernel
theorem dX0_labelOn_31 : decode cX0_labelOn 31 = .ok (.invokevirtual 36, 3) := by decide +kernel
theorem dX0_labelOn_34 : decode cX0_labelOn 34 = .ok (.ifCond .eq 5, 3) := by decide +kernel
theorem dX0_labelOn_37 : decode cX0_labelOn 37 = .ok (.iload_n 3, 1) := by decide +kernel
theorem dX0_labelOn_38 : decode cX0_labelOn 38 = .ok (.ireturn, 1) := by decide +kernel
theorem dX0_labelOn_39 : decode cX0_labelOn 39 = .ok (.iinc 3 1, 3) := by decide +kernel
theorem dX0_labelOn_42 : decode cX0_labelOn 42 = .ok (.goto (-40), 3) := by decide +kernel
theorem dX0_labelOn_45 : decode cX0_labelOn 45 = .ok (.iconst (-1), 1) := by decide +kernel
theorem dX0_labelOn_46 : decode cX0_labelOn 46 = .ok (.ireturn, 1) := by decide +kernel
set_option maxRecDepth 20000 in
theorem ggX0_isOpen_X0_left : GoodIn wsX0_isOpen wsX0_left := goodIn_r _ [7, 1, 12, 13] (by decide +kernel) (by decide +kernel)
set_option maxRecDepth 20000 in
theorem gX0_isOpen_X0_left : GoodIn wsX0_isOpen (wsV RX0 30 RX0 yX0_left wsX0_left) := goodIn_app (goodIn_of _ (by decide +kernel)) ggX0_isOpen_X0_left
set_option maxRecDepth 20000 in
theorem ggX0_isOpen_X0_top : GoodIn wsX0_isOpen wsX0_top := goodIn_r _ [11, 1, 12, 13] (by decide +kernel) (by decide +kernel)
set_option maxRecDepth 20000 in
theorem gX0_isOpen_X0_top : GoodIn wsX0_isOpen (wsV RX0 33 RX0 yX0_top wsX0_top) := goodIn_app (goodIn_of _ (by decide +kernel)) ggX0_isOpen_X0_top
theorem dX0_isOpen_0 : decode cX0_isOpen 0 = .ok (.aload_n 0, 1) := by decide +kernel
theorem dX0_isOpen_1 : decode cX0_isOpen 1 = .ok (.iload_n 1, 1) := by decide +kernel
theorem dX0_isOpen_2 : decode cX0_isOpen 2 = .ok (.iload_n 2, 1) := by decide +kernel
theorem dX0_isOpen_3 : decode cX0_isOpen 3 = .ok (.invokevirtual 30, 3) := by decide +kernel
theorem dX0_isOpen_6 : decode cX0_isOpen 6 = .ok (.istore_n 3, 1) := by decide +kernel
theorem dX0_isOpen_7 : decode cX0_isOpen 7 = .ok (.iload_n 3, 1) := by decide +kernel
theorem dX0_isOpen_8 : decode cX0_isOpen 8 = .ok (.aload_n 0, 1) := by decide +kernel
theorem dX0_isOpen_9 : decode cX0_isOpen 9 = .ok (.getfield 11, 3) := by decide +kernel
theorem dX0_isOpen_12 : decode cX0_isOpen 12 = .ok (.bipush 16, 2) := by decide +kernel
theorem dX0_isOpen_14 : decode cX0_isOpen 14 = .ok (.iload_n 1, 1) := by decide +kernel
theorem dX0_isOpen_15 : decode cX0_isOpen 15 = .ok (.iadd, 1) := by decide +kernel
theorem dX0_isOpen_16 : decode cX0_isOpen 16 = .ok (.iaload, 1) := by decide +kernel
theorem dX0_isOpen_17 : decode cX0_isOpen 17 = .ok (.iadd, 1) := by decide +kernel
theorem dX0_isOpen_18 : decode cX0_isOpen 18 = .ok (.iconst 1, 1) := by decide +kernel
theorem dX0_isOpen_19 : decode cX0_isOpen 19 = .ok (.isub, 1) := by decide +kernel
theorem dX0_isOpen_20 : decode cX0_isOpen 20 = .ok (.istore 4, 2) := by decide +kernel
theorem dX0_isOpen_22 : decode cX0_isOpen 22 = .ok (.aload_n 0, 1) := by decide +kernel
theorem dX0_isOpen_23 : decode cX0_isOpen 23 = .ok (.iload_n 1, 1) := by decide +kernel
theorem dX0_isOpen_24 : decode cX0_isOpen 24 = .ok (.iload_n 2, 1) := by decide +kernel
theorem dX0_isOpen_25 : decode cX0_isOpen 25 = .ok (.invokevirtual 33, 3) := by decide +kernel
theorem dX0_isOpen_28 : decode cX0_isOpen 28 = .ok (.istore 5, 2) := by decide +kernel
theorem dX0_isOpen_30 : decode cX0_isOpen 30 = .ok (.iload 5, 2) := by decide +kernel
theorem dX0_isOpen_32 : decode cX0_isOpen 32 = .ok (.aload_n 0, 1) := by decide +kernel
theorem dX0_isOpen_33 : decode cX0_isOpen 33 = .ok (.getfield 11, 3) := by decide +kernel
theorem dX0_isOpen_36 : decode cX0_isOpen 36 = .ok (.bipush 24, 2) := by decide +kernel
theorem dX0_isOpen_38 : decode cX0_isOpen 38 = .ok (.iload_n 1, 1) := by decide +kernel
theorem dX0_isOpen_39 : decode cX0_isOpen 39 = .ok (.iadd, 1) := by decide +kernel
theorem dX0_isOpen_40 : decode cX0_isOpen 40 = .ok (.iaload, 1) := by decide +kernel
theorem dX0_isOpen_41 : decode cX0_isOpen 41 = .ok (.iadd, 1) := by decide +kernel
theorem dX0_isOpen_42 : decode cX0_isOpen 42 = .ok (.iconst 1, 1) := by decide +kernel
theorem dX0_isOpen_43 : decode cX0_isOpen 43 = .ok (.isub, 1) := by decide +kernel
theorem dX0_isOpen_44 : decode cX0_isOpen 44 = .ok (.istore 6, 2) := by decide +kernel
theorem dX0_isOpen_46 : decode cX0_isOpen 46 = .ok (.iload_n 3, 1) := by decide +kernel
theorem dX0_isOpen_47 : decode cX0_isOpen 47 = .ok (.ifCond .lt 22, 3) := by decide +kernel
theorem dX0_isOpen_50 : decode cX0_isOpen 50 = .ok (.iload 4, 2) := by decide +kernel
theorem dX0_isOpen_52 : decode cX0_isOpen 52 = .ok (.bipush 60, 2) := by decide +kernel
theorem dX0_isOpen_54 : decode cX0_isOpen 54 = .ok (.if_icmp .ge 15, 3) := by decide +kernel
theorem dX0_isOpen_57 : decode cX0_isOpen 57 = .ok (.iload 5, 2) := by decide +kernel
theorem dX0_isOpen_59 : decode cX0_isOpen 59 = .ok (.ifCond .lt 10, 3) := by decide +kernel
theorem dX0_isOpen_62 : decode cX0_isOpen 62 = .ok (.iload 6, 2) := by decide +kernel
theorem dX0_isOpen_64 : decode cX0_isOpen 64 = .ok (.bipush 40, 2) := by decide +kernel
theorem dX0_isOpen_66 : decode cX0_isOpen 66 = .ok (.if_icmp .lt 5, 3) := by decide +kernel
theorem dX0_isOpen_69 : decode cX0_isOpen 69 = .ok (.iconst 0, 1) := by decide +kernel
theorem dX0_isOpen_70 : decode cX0_isOpen 70 = .ok (.ireturn, 1) := by decide +kernel
theorem dX0_isOpen_71 : decode cX0_isOpen 71 = .ok (.iconst 0, 1) := by decide +kernel
theorem dX0_isOpen_72 : decode cX0_isOpen 72 = .ok (.istore 7, 2) := by decide +kernel
theorem dX0_isOpen_74 : decode cX0_isOpen 74 = .ok (.iload 7, 2) := by decide +kernel
theorem dX0_isOpen_76 : decode cX0_isOpen 76 = .ok (.aload_n 0, 1) := by decide +kernel
theorem dX0_isOpen_77 : decode cX0_isOpen 77 = .ok (.getfield 15, 3) := by decide +kernel
theorem dX0_isOpen_80 : decode cX0_isOpen 80 = .ok (.if_icmp .ge 61, 3) := by decide +kernel
theorem dX0_isOpen_83 : decode cX0_isOpen 83 = .ok (.aload_n 0, 1) := by decide +kernel
theorem dX0_isOpen_84 : decode cX0_isOpen 84 = .ok (.getfield 11, 3) := by decide +kernel
theorem dX0_isOpen_87 : decode cX0_isOpen 87 = .ok (.iconst 0, 1) := by decide +kernel
theorem dX0_isOpen_88 : decode cX0_isOpen 88 = .ok (.iload 7, 2) := by decide +kernel
theorem dX0_isOpen_90 : decode cX0_isOpen 90 = .ok (.iadd, 1) := by decide +kernel
theorem dX0_isOpen_91 : decode cX0_isOpen 91 = .ok (.iaload, 1) := by decide +kernel
theorem dX0_isOpen_92 : decode cX0_isOpen 92 = .ok (.istore 8, 2) := by decide +kernel
theorem dX0_isOpen_94 : decode cX0_isOpen 94 = .ok (.aload_n 0, 1) := by decide +kernel
theorem dX0_isOpen_95 : decode cX0_isOpen 95 = .ok (.getfield 11, 3) := by decide +kernel
theorem dX0_isOpen_98 : decode cX0_isOpen 98 = .ok (.bipush 8, 2) := by decide +kernel
theorem dX0_isOpen_100 : decode cX0_isOpen 100 = .ok (.iload 7, 2) := by decide +kernel
theorem dX0_isOpen_102 : decode cX0_isOpen 102 = .ok (.iadd, 1) := by decide +kernel
theorem dX0_isOpen_103 : decode cX0_isOpen 103 = .ok (.iaload, 1) := by decide +kernel
theorem dX0_isOpen_104 : decode cX0_isOpen 104 = .ok (.istore 9, 2) := by decide +kernel
theorem dX0_isOpen_106 : decode cX0_isOpen 106 = .ok (.iload 8, 2) := by decide +kernel
theorem dX0_isOpen_108 : decode cX0_isOpen 108 = .ok (.iload_n 3, 1) := by decide +kernel
theorem dX0_isOpen_109 : decode cX0_isOpen 109 = .ok (.if_icmp .lt 26, 3) := by decide +kernel
theorem dX0_isOpen_112 : decode cX0_isOpen 112 = .ok (.iload 8, 2) := by decide +kernel
theorem dX0_isOpen_114 : decode cX0_isOpen 114 = .ok (.iload 4, 2) := by decide +kernel
theorem dX0_isOpen_116 : decode cX0_isOpen 116 = .ok (.if_icmp .gt 19, 3) := by decide +kernel
theorem dX0_isOpen_119 : decode cX0_isOpen 119 = .ok (.iload 9, 2) := by decide +kernel
theorem dX0_isOpen_121 : decode cX0_isOpen 121 = .ok (.iload 5, 2) := by decide +kernel
theorem dX0_isOpen_123 : decode cX0_isOpen 123 = .ok (.if_icmp .lt 12, 3) := by decide +kernel
theorem dX0_isOpen_126 : decode cX0_isOpen 126 = .ok (.iload 9, 2) := by decide +kernel
theorem dX0_isOpen_128 : decode cX0_isOpen 128 = .ok (.iload 6, 2) := by decide +kernel
theorem dX0_isOpen_130 : decode cX0_isOpen 130 = .ok (.if_icmp .gt 5, 3) := by decide +kernel
theorem dX0_isOpen_133 : decode cX0_isOpen 133 = .ok (.iconst 0, 1) := by decide +kernel
theorem dX0_isOpen_134 : decode cX0_isOpen 134 = .ok (.ireturn, 1) := by decide +kernel
theorem dX0_isOpen_135 : decode cX0_isOpen 135 = .ok (.iinc 7 1, 3) := by decide +kernel
theorem dX0_isOpen_138 : decode cX0_isOpen 138 = .ok (.goto (-64), 3) := by decide +kernel
theorem dX0_isOpen_141 : decode cX0_isOpen 141 = .ok (.iconst 1, 1) := by decide +kernel
theorem dX0_isOpen_142 : decode cX0_isOpen 142 = .ok (.ireturn, 1) := by decide +kernel
set_option maxRecDepth 20000 in
theorem ggX0_openMask_X0_isOpen : GoodIn wsX0_openMask wsX0_isOpen := goodIn_r _ [5, 6, 7, 8, 9, 10, 4, 11, 12, 13, 14, 15, 16, 17] (by decide +kernel) (by decide +kernel)
set_option maxRecDepth 20000 in
theorem gX0_openMask_X0_isOpen : GoodIn wsX0_openMask (wsV RX0 40 RX0 yX0_isOpen wsX0_isOpen) := goodIn_app (goodIn_of _ (by decide +kernel)) ggX0_openMask_X0_isOpen
theorem dX0_openMask_0 : decode cX0_openMask 0 = .ok (.iconst 0, 1) := by decide +kernel
theorem dX0_openMask_1 : decode cX0_openMask 1 = .ok (.istore_n 2, 1) := by decide +kernel
theorem dX0_openMask_2 : decode cX0_openMask 2 = .ok (.iconst 0, 1) := by decide +kernel
theorem dX0_openMask_3 : decode cX0_openMask 3 = .ok (.istore_n 3, 1) := by decide +kernel
theorem dX0_openMask_4 : decode cX0_openMask 4 = .ok (.iload_n 3, 1) := by decide +kernel
theorem dX0_openMask_5 : decode cX0_openMask 5 = .ok (.iconst 4, 1) := by decide +kernel
theorem dX0_openMask_6 : decode cX0_openMask 6 = .ok (.if_icmp .ge 24, 3) := by decide +kernel
theorem dX0_openMask_9 : decode cX0_openMask 9 = .ok (.aload_n 0, 1) := by decide +kernel
theorem dX0_openMask_10 : decode cX0_openMask 10 = .ok (.iload_n 1, 1) := by decide +kernel
theorem dX0_openMask_11 : decode cX0_openMask 11 = .ok (.iload_n 3, 1) := by decide +kernel
theorem dX0_openMask_12 : decode cX0_openMask 12 = .ok (.invokevirtual 40, 3) := by decide +kernel
theorem dX0_openMask_15 : decode cX0_openMask 15 = .ok (.ifCond .eq 9, 3) := by decide +kernel
theorem dX0_openMask_18 : decode cX0_openMask 18 = .ok (.iload_n 2, 1) := by decide +kernel
theorem dX0_openMask_19 : decode cX0_openMask 19 = .ok (.iconst 1, 1) := by decide +kernel
theorem dX0_openMask_20 : decode cX0_openMask 20 = .ok (.iload_n 3, 1) := by decide +kernel
theorem dX0_openMask_21 : decode cX0_openMask 21 = .ok (.ishl, 1) := by decide +kernel
theorem dX0_openMask_22 : decode cX0_openMask 22 = .ok (.ior, 1) := by decide +kernel
theorem dX0_openMask_23 : decode cX0_openMask 23 = .ok (.istore_n 2, 1) := by decide +kernel
theorem dX0_openMask_24 : decode cX0_openMask 24 = .ok (.iinc 3 1, 3) := by decide +kernel
theorem dX0_openMask_27 : decode cX0_openMask 27 = .ok (.goto (-23), 3) := by decide +kernel
theorem dX0_openMask_30 : decode cX0_openMask 30 = .ok (.iload_n 2, 1) := by decide +kernel
theorem dX0_openMask_31 : decode cX0_openMask 31 = .ok (.ireturn, 1) := by decide +kernel
set_option maxRecDepth 20000 in
theorem ggX0_openCornersBeside_X0_openMask : GoodIn wsX0_openCornersBeside wsX0_openMask := goodIn_r _ [6, 7, 8, 9, 5, 10, 11, 1, 12, 13, 14, 15, 16, 17, 18, 19, 27, 28] (by decide +kernel) (by decide +kernel)
set_option maxRecDepth 20000 in
theorem gX0_openCornersBeside_X0_openMask : GoodIn wsX0_openCornersBeside (wsV RX0 44 RX0 yX0_openMask wsX0_openMask) := goodIn_app (goodIn_of _ (by decide +kernel)) ggX0_openCornersBeside_X0_openMask
set_option maxRecDepth 20000 in
theorem ggX0_openCornersBeside_J6_bitCount_0f7a4 : GoodIn wsX0_openCornersBeside wsJ6_bitCount_0f7a4 := goodIn_r _ [23, 24, 25, 26] (by decide +kernel) (by decide +kernel)
set_option maxRecDepth 20000 in
theorem gX0_openCornersBeside_J6_bitCount_0f7a4 : GoodIn wsX0_openCornersBeside (va_wsS RX0 48 yJ6_bitCount_0f7a4 wsJ6_bitCount_0f7a4) := goodIn_app (goodIn_of _ (by decide +kernel)) ggX0_openCornersBeside_J6_bitCount_0f7a4
theorem dX0_openCornersBeside_0 : decode cX0_openCornersBeside 0 = .ok (.iconst 0, 1) := by decide +kernel
theorem dX0_openCornersBeside_1 : decode cX0_openCornersBeside 1 = .ok (.istore_n 2, 1) := by decide +kernel
theorem dX0_openCornersBeside_2 : decode cX0_openCornersBeside 2 = .ok (.iconst 0, 1) := by decide +kernel
theorem dX0_openCornersBeside_3 : decode cX0_openCornersBeside 3 = .ok (.istore_n 3, 1) := by decide +kernel
theorem dX0_openCornersBeside_4 : decode cX0_openCornersBeside 4 = .ok (.iload_n 3, 1) := by decide +kernel
theorem dX0_openCornersBeside_5 : decode cX0_openCornersBeside 5 = .ok (.aload_n 0, 1) := by decide +kernel
theorem dX0_openCornersBeside_6 : decode cX0_openCornersBeside 6 = .ok (.getfield 15, 3) := by decide +kernel
theorem dX0_openCornersBeside_9 : decode cX0_openCornersBeside 9 = .ok (.if_icmp .ge 25, 3) := by decide +kernel
theorem dX0_openCornersBeside_12 : decode cX0_openCornersBeside 12 = .ok (.iload_n 3, 1) := by decide +kernel
theorem dX0_openCornersBeside_13 : decode cX0_openCornersBeside 13 = .ok (.iload_n 1, 1) := by decide +kernel
theorem dX0_openCornersBeside_14 : decode cX0_openCornersBeside 14 = .ok (.if_icmp .eq 14, 3) := by decide +kernel
theorem dX0_openCornersBeside_17 : decode cX0_openCornersBeside 17 = .ok (.iload_n 2, 1) := by decide +kernel
theorem dX0_openCornersBeside_18 : decode cX0_openCornersBeside 18 = .ok (.aload_n 0, 1) := by decide +kernel
theorem dX0_openCornersBeside_19 : decode cX0_openCornersBeside 19 = .ok (.iload_n 3, 1) := by decide +kernel
theorem dX0_openCornersBeside_20 : decode cX0_openCornersBeside 20 = .ok (.invokevirtual 44, 3) := by decide +kernel
theorem dX0_openCornersBeside_23 : decode cX0_openCornersBeside 23 = .ok (.invokestatic 48, 3) := by decide +kernel
theorem dX0_openCornersBeside_26 : decode cX0_openCornersBeside 26 = .ok (.iadd, 1) := by decide +kernel
theorem dX0_openCornersBeside_27 : decode cX0_openCornersBeside 27 = .ok (.istore_n 2, 1) := by decide +kernel
theorem dX0_openCornersBeside_28 : decode cX0_openCornersBeside 28 = .ok (.iinc 3 1, 3) := by decide +kernel
theorem dX0_openCornersBeside_31 : decode cX0_openCornersBeside 31 = .ok (.goto (-27), 3) := by decide +kernel
theorem dX0_openCornersBeside_34 : decode cX0_openCornersBeside 34 = .ok (.iload_n 2, 1) := by decide +kernel
theorem dX0_openCornersBeside_35 : decode cX0_openCornersBeside 35 = .ok (.ireturn, 1) := by decide +kernel
set_option maxRecDepth 20000 in
theorem ggX0_sharedSquares_X0_left : GoodIn wsX0_sharedSquares wsX0_left := goodIn_r _ [6, 1, 21, 22] (by decide +kernel) (by decide +kernel)
set_option maxRecDepth 20000 in
theorem gX0_sharedSquares_X0_left : GoodIn wsX0_sharedSquares (wsV RX0 30 RX0 yX0_left wsX0_left) := goodIn_app (goodIn_of _ (by decide +kernel)) ggX0_sharedSquares_X0_left
set_option maxRecDepth 20000 in
theorem ggX0_sharedSquares_X0_sharedLength : GoodIn wsX0_sharedSquares wsX0_sharedLength := goodIn_r _ [9, 10, 11, 12, 13, 14, 15, 16] (by decide +kernel) (by decide +kernel)
set_option maxRecDepth 20000 in
theorem gX0_sharedSquares_X0_sharedLength : GoodIn wsX0_sharedSquares (va_wsS RX0 53 yX0_sharedLength wsX0_sharedLength) := goodIn_app (goodIn_of _ (by decide +kernel)) ggX0_sharedSquares_X0_sharedLength
set_option maxRecDepth 20000 in
theorem ggX0_sharedSquares_X0_top : GoodIn wsX0_sharedSquares wsX0_top := goodIn_r _ [20, 1, 21, 22] (by decide +kernel) (by decide +kernel)
set_option maxRecDepth 20000 in
theorem gX0_sharedSquares_X0_top : GoodIn wsX0_sharedSquares (wsV RX0 33 RX0 yX0_top wsX0_top) := goodIn_app (goodIn_of _ (by decide +kernel)) ggX0_sharedSquares_X0_top
theorem dX0_sharedSquares_0 : decode cX0_sharedSquares 0 = .ok (.aload_n 0, 1) := by decide +kernel
theorem dX0_sharedSquares_1 : decode cX0_sharedSquares 1 = .ok (.iload_n 1, 1) := by decide +kernel
theorem dX0_sharedSquares_2 : decode cX0_sharedSquares 2 = .ok (.iload_n 2, 1) := by decide +kernel
theorem dX0_sharedSquares_3 : decode cX0_sharedSquares 3 = .ok (.invokevirtual 30, 3) := by decide +kernel
theorem dX0_sharedSquares_6 : decode cX0_sharedSquares 6 = .ok (.aload_n 0, 1) := by decide +kernel
theorem dX0_sharedSquares_7 : decode cX0_sharedSquares 7 = .ok (.getfield 11, 3) := by decide +kernel
theorem dX0_sharedSquares_10 : decode cX0_sharedSquares 10 = .ok (.bipush 16, 2) := by decide +kernel
theorem dX0_sharedSquares_12 : decode cX0_sharedSquares 12 = .ok (.iload_n 1, 1) := by decide +kernel
theorem dX0_sharedSquares_13 : decode cX0_sharedSquares 13 = .ok (.iadd, 1) := by decide +kernel
theorem dX0_sharedSquares_14 : decode cX0_sharedSquares 14 = .ok (.iaload, 1) := by decide +kernel
theorem dX0_sharedSquares_15 : decode cX0_sharedSquares 15 = .ok (.aload_n 0, 1) := by decide +kernel
theorem dX0_sharedSquares_16 : decode cX0_sharedSquares 16 = .ok (.iload_n 3, 1) := by decide +kernel
theorem dX0_sharedSquares_17 : decode cX0_sharedSquares 17 = .ok (.iload 4, 2) := by decide +kernel
theorem dX0_sharedSquares_19 : decode cX0_sharedSquares 19 = .ok (.invokevirtual 30, 3) := by decide +kernel
theorem dX0_sharedSquares_22 : decode cX0_sharedSquares 22 = .ok (.aload_n 0, 1) := by decide +kernel
theorem dX0_sharedSquares_23 : decode cX0_sharedSquares 23 = .ok (.getfield 11, 3) := by decide +kernel
theorem dX0_sharedSquares_26 : decode cX0_sharedSquares 26 = .ok (.bipush 16, 2) := by decide +kernel
theorem dX0_sharedSquares_28 : decode cX0_sharedSquares 28 = .ok (.iload_n 3, 1) := by decide +kernel
theorem dX0_sharedSquares_29 : decode cX0_sharedSquares 29 = .ok (.iadd, 1) := by decide +kernel
theorem dX0_sharedSquares_30 : decode cX0_sharedSquares 30 = .ok (.iaload, 1) := by decide +kernel
theorem dX0_sharedSquares_31 : decode cX0_sharedSquares 31 = .ok (.invokestatic 53, 3) := by decide +kernel
theorem dX0_sharedSquares_34 : decode cX0_sharedSquares 34 = .ok (.istore 5, 2) := by decide +kernel
theorem dX0_sharedSquares_36 : decode cX0_sharedSquares 36 = .ok (.aload_n 0, 1) := by decide +kernel
theorem dX0_sharedSquares_37 : decode cX0_sharedSquares 37 = .ok (.iload_n 1, 1) := by decide +kernel
theorem dX0_sharedSquares_38 : decode cX0_sharedSquares 38 = .ok (.iload_n 2, 1) := by decide +kernel
theorem dX0_sharedSquares_39 : decode cX0_sharedSquares 39 = .ok (.invokevirtual 33, 3) := by decide +kernel
theorem dX0_sharedSquares_42 : decode cX0_sharedSquares 42 = .ok (.aload_n 0, 1) := by decide +kernel
theorem dX0_sharedSquares_43 : decode cX0_sharedSquares 43 = .ok (.getfield 11, 3) := by decide +kernel
theorem dX0_sharedSquares_46 : decode cX0_sharedSquares 46 = .ok (.bipush 24, 2) := by decide +kernel
theorem dX0_sharedSquares_48 : decode cX0_sharedSquares 48 = .ok (.iload_n 1, 1) := by decide +kernel
theorem dX0_sharedSquares_49 : decode cX0_sharedSquares 49 = .ok (.iadd, 1) := by decide +kernel
theorem dX0_sharedSquares_50 : decode cX0_sharedSquares 50 = .ok (.iaload, 1) := by decide +kernel
theorem dX0_sharedSquares_51 : decode cX0_sharedSquares 51 = .ok (.aload_n 0, 1) := by decide +kernel
theorem dX0_sharedSquares_52 : decode cX0_sharedSquares 52 = .ok (.iload_n 3, 1) := by decide +kernel
theorem dX0_sharedSquares_53 : decode cX0_sharedSquares 53 = .ok (.iload 4, 2) := by decide +kernel
theorem dX0_sharedSquares_55 : decode cX0_sharedSquares 55 = .ok (.invokevirtual 33, 3) := by decide +kernel
theorem dX0_sharedSquares_58 : decode cX0_sharedSquares 58 = .ok (.aload_n 0, 1) := by decide +kernel
theorem dX0_sharedSquares_59 : decode cX0_sharedSquares 59 = .ok (.getfield 11, 3) := by decide +kernel
theorem dX0_sharedSquares_62 : decode cX0_sharedSquares 62 = .ok (.bipush 24, 2) := by decide +kernel
theorem dX0_sharedSquares_64 : decode cX0_sharedSquares 64 = .ok (.iload_n 3, 1) := by decide +kernel
theorem dX0_sharedSquares_65 : decode cX0_sharedSquares 65 = .ok (.iadd, 1) := by decide +kernel
theorem dX0_sharedSquares_66 : decode cX0_sharedSquares 66 = .ok (.iaload, 1) := by decide +kernel
theorem dX0_sharedSquares_67 : decode cX0_sharedSquares 67 = .ok (.invokestatic 53, 3) := by decide +kernel
theorem dX0_sharedSquares_70 : decode cX0_sharedSquares 70 = .ok (.istore 6, 2) := by decide +kernel
theorem dX0_sharedSquares_72 : decode cX0_sharedSquares 72 = .ok (.iload 5, 2) := by decide +kernel
theorem dX0_sharedSquares_74 : decode cX0_sharedSquares 74 = .ok (.iload 6, 2) := by decide +kernel
theorem dX0_sharedSquares_76 : decode cX0_sharedSquares 76 = .ok (.imul, 1) := by decide +kernel
theorem dX0_sharedSquares_77 : decode cX0_sharedSquares 77 = .ok (.ireturn, 1) := by decide +kernel
theorem dX0_sharedLength_0 : decode cX0_sharedLength 0 = .ok (.iload_n 0, 1) := by decide +kernel
theorem dX0_sharedLength_1 : decode cX0_sharedLength 1 = .ok (.iload_n 2, 1) := by decide +kernel
theorem dX0_sharedLength_2 : decode cX0_sharedLength 2 = .ok (.invokestatic 57, 3) := by decide +kernel
theorem dX0_sharedLength_5 : decode cX0_sharedLength 5 = .ok (.istore 4, 2) := by decide +kernel
theorem dX0_sharedLength_7 : decode cX0_sharedLength 7 = .ok (.iload_n 0, 1) := by decide +kernel
theorem dX0_sharedLength_8 : decode cX0_sharedLength 8 = .ok (.iload_n 1, 1) := by decide +kernel
theorem dX0_sharedLength_9 : decode cX0_sharedLength 9 = .ok (.iadd, 1) := by decide +kernel
theorem dX0_sharedLength_10 : decode cX0_sharedLength 10 = .ok (.iload_n 2, 1) := by decide +kernel
theorem dX0_sharedLength_11 : decode cX0_sharedLength 11 = .ok (.iload_n 3, 1) := by decide +kernel
theorem dX0_sharedLength_12 : decode cX0_sharedLength 12 = .ok (.iadd, 1) := by decide +kernel
theorem dX0_sharedLength_13 : decode cX0_sharedLength 13 = .ok (.invokestatic 62, 3) := by decide +kernel
theorem dX0_sharedLength_16 : decode cX0_sharedLength 16 = .ok (.istore 5, 2) := by decide +kernel
theorem dX0_sharedLength_18 : decode cX0_sharedLength 18 = .ok (.iconst 0, 1) := by decide +kernel
theorem dX0_sharedLength_19 : decode cX0_sharedLength 19 = .ok (.iload 5, 2) := by decide +kernel
theorem dX0_sharedLength_21 : decode cX0_sharedLength 21 = .ok (.iload 4, 2) := by decide +kernel
theorem dX0_sharedLength_23 : decode cX0_sharedLength 23 = .ok (.isub, 1) := by decide +kernel
theorem dX0_sharedLength_24 : decode cX0_sharedLength 24 = .ok (.invokestatic 57, 3) := by decide +kernel
theorem dX0_sharedLength_27 : decode cX0_sharedLength 27 = .ok (.ireturn, 1) := by decide +kernel
set_option maxRecDepth 20000 in
theorem ggX0_clashesWithStanding_X0_stands : GoodIn wsX0_clashesWithStanding wsX0_stands := goodIn_r _ [7, 2, 30, 31] (by decide +kernel) (by decide +kernel)
set_option maxRecDepth 20000 in
theorem gX0_clashesWithStanding_X0_stands : GoodIn wsX0_clashesWithStanding (wsV RX0 26 RX0 yX0_stands wsX0_stands) := goodIn_app (goodIn_of _ (by decide +kernel)) ggX0_clashesWithStanding_X0_stands
set_option maxRecDepth 20000 in
theorem ggX0_clashesWithStanding_X0_sharedSquares : GoodIn wsX0_clashesWithStanding wsX0_sharedSquares := goodIn_r _ [11, 2, 12, 13, 14, 6, 15, 16, 17, 18, 19, 20, 21, 22, 23, 24, 25, 26, 27, 28, 29, 30, 31] (by decide +kernel) (by decide +kernel)
set_option maxRecDepth 20000 in
theorem gX0_clashesWithStanding_X0_sharedSquares : GoodIn wsX0_clashesWithStanding (wsV RX0 65 RX0 yX0_sharedSquares wsX0_sharedSquares) := goodIn_app (goodIn_of _ (by decide +kernel)) ggX0_clashesWithStanding_X0_sharedSquares
theorem dX0_clashesWithStanding_0 : decode cX0_clashesWithStanding 0 = .ok (.iconst 0, 1) := by decide +kernel
theorem dX0_clashesWithStanding_1 : decode cX0_clashesWithStanding 1 = .ok (.istore_n 3, 1) := by decide +kernel
theorem dX0_clashesWithStanding_2 : decode cX0_clashesWithStanding 2 = .ok (.iload_n 3, 1) := by decide +kernel
theorem dX0_clashesWithStanding_3 : decode cX0_clashesWithStanding 3 = .ok (.aload_n 0, 1) := by decide +kernel
theorem dX0_clashesWithStanding_4 : decode cX0_clashesWithStanding 4 = .ok (.getfield 15, 3) := by decide +kernel
theorem dX0_clashesWithStanding_7 : decode cX0_clashesWithStanding 7 = .ok (.if_icmp .ge 43, 3) := by decide +kernel
theorem dX0_clashesWithStanding_10 : decode cX0_clashesWithStanding 10 = .ok (.iload_n 3, 1) := by decide +kernel
theorem dX0_clashesWithStanding_11 : decode cX0_clashesWithStanding 11 = .ok (.iload_n 1, 1) := by decide +kernel
theorem dX0_clashesWithStanding_12 : decode cX0_clashesWithStanding 12 = .ok (.if_icmp .eq 32, 3) := by decide +kernel
theorem dX0_clashesWithStanding_15 : decode cX0_clashesWithStanding 15 = .ok (.aload_n 0, 1) := by decide +kernel
theorem dX0_clashesWithStanding_16 : decode cX0_clashesWithStanding 16 = .ok (.iload_n 3, 1) := by decide +kernel
theorem dX0_clashesWithStanding_17 : decode cX0_clashesWithStanding 17 = .ok (.invokevirtual 26, 3) := by decide +kernel
theorem dX0_clashesWithStanding_20 : decode cX0_clashesWithStanding 20 = .ok (.ifCond .eq 24, 3) := by decide +kernel
theorem dX0_clashesWithStanding_23 : decode cX0_clashesWithStanding 23 = .ok (.aload_n 0, 1) := by decide +kernel
theorem dX0_clashesWithStanding_24 : decode cX0_clashesWithStanding 24 = .ok (.iload_n 1, 1) := by decide +kernel
theorem dX0_clashesWithStanding_25 : decode cX0_clashesWithStanding 25 = .ok (.iload_n 2, 1) := by decide +kernel
theorem dX0_clashesWithStanding_26 : decode cX0_clashesWithStanding 26 = .ok (.iload_n 3, 1) := by decide +kernel
theorem dX0_clashesWithStanding_27 : decode cX0_clashesWithStanding 27 = .ok (.aload_n 0, 1) := by decide +kernel
theorem dX0_clashesWithStanding_28 : decode cX0_clashesWithStanding 28 = .ok (.getfield 11, 3) := by decide +kernel
theorem dX0_clashesWithStanding_31 : decode cX0_clashesWithStanding 31 = .ok (.bipush 40, 2) := by decide +kernel
theorem dX0_clashesWithStanding_33 : decode cX0_clashesWithStanding 33 = .ok (.iload_n 3, 1) := by decide +kernel
theorem dX0_clashesWithStanding_34 : decode cX0_clashesWithStanding 34 = .ok (.iadd, 1) := by decide +kernel
theorem dX0_clashesWithStanding_35 : decode cX0_clashesWithStanding 35 = .ok (.iaload, 1) := by decide +kernel
theorem dX0_clashesWithStanding_36 : decode cX0_clashesWithStanding 36 = .ok (.invokevirtual 65, 3) := by decide +kernel
theorem dX0_clashesWithStanding_39 : decode cX0_clashesWithStanding 39 = .ok (.ifCond .le 5, 3) := by decide +kernel
theorem dX0_clashesWithStanding_42 : decode cX0_clashesWithStanding 42 = .ok (.iconst 1, 1) := by decide +kernel
theorem dX0_clashesWithStanding_43 : decode cX0_clashesWithStanding 43 = .ok (.ireturn, 1) := by decide +kernel
theorem dX0_clashesWithStanding_44 : decode cX0_clashesWithStanding 44 = .ok (.iinc 3 1, 3) := by decide +kernel
theorem dX0_clashesWithStanding_47 : decode cX0_clashesWithStanding 47 = .ok (.goto (-45), 3) := by decide +kernel
theorem dX0_clashesWithStanding_50 : decode cX0_clashesWithStanding 50 = .ok (.iconst 0, 1) := by decide +kernel
theorem dX0_clashesWithStanding_51 : decode cX0_clashesWithStanding 51 = .ok (.ireturn, 1) := by decide +kernel
set_option maxRecDepth 20000 in
theorem ggX0_freeMask_X0_openMask : GoodIn wsX0_freeMask wsX0_openMask := goodIn_r _ [5, 6, 7, 8, 4, 9, 10, 11, 12, 13, 14, 15, 16, 17, 18, 19, 45, 46] (by decide +kernel) (by decide +kernel)
set_option maxRecDepth 20000 in
theorem gX0_freeMask_X0_openMask : GoodIn wsX0_freeMask (wsV RX0 44 RX0 yX0_openMask wsX0_openMask) := goodIn_app (goodIn_of _ (by decide +kernel)) ggX0_freeMask_X0_openMask
set_option maxRecDepth 20000 in
theorem ggX0_freeMask_X4_hasBit : GoodIn wsX0_freeMask wsX4_hasBit := goodIn_r _ [22] (by decide +kernel) (by decide +kernel)
set_option maxRecDepth 20000 in
theorem gX0_freeMask_X4_hasBit_n68 : GoodIn wsX0_freeMask (wsX4_hasBit) := ggX0_freeMask_X4_hasBit
set_option maxRecDepth 20000 in
theorem ggX0_freeMask_X0_clashesWithStanding : GoodIn wsX0_freeMask wsX0_clashesWithStanding := goodIn_r _ [26, 11, 10, 27, 28, 29, 4, 30, 31, 32, 33, 34, 12, 13, 14, 15, 35, 36, 37, 38, 39, 40, 41, 42, 43, 44, 16, 17, 18, 19, 45, 46] (by decide +kernel) (by decide +kernel)
set_option maxRecDepth 20000 in
theorem gX0_freeMask_X0_clashesWithStanding : GoodIn wsX0_freeMask (wsV RX0 71 RX0 yX0_clashesWithStanding wsX0_clashesWithStanding) := goodIn_app (goodIn_of _ (by decide +kernel)) ggX0_freeMask_X0_clashesWithStanding
theorem dX0_freeMask_0 : decode cX0_freeMask 0 = .ok (.aload_n 0, 1) := by decide +kernel
theorem dX0_freeMask_1 : decode cX0_freeMask 1 = .ok (.iload_n 1, 1) := by decide +kernel
theorem dX0_freeMask_2 : decode cX0_freeMask 2 = .ok (.invokevirtual 44, 3) := by decide +kernel
theorem dX0_freeMask_5 : decode cX0_freeMask 5 = .ok (.istore_n 2, 1) := by decide +kernel
theorem dX0_freeMask_6 : decode cX0_freeMask 6 = .ok (.iconst 0, 1) := by decide +kernel
theorem dX0_freeMask_7 : decode cX0_freeMask 7 = .ok (.istore_n 3, 1) := by decide +kernel
theorem dX0_freeMask_8 : decode cX0_freeMask 8 = .ok (.iload_n 3, 1) := by decide +kernel
theorem dX0_freeMask_9 : decode cX0_freeMask 9 = .ok (.iconst 4, 1) := by decide +kernel
theorem dX0_freeMask_10 : decode cX0_freeMask 10 = .ok (.if_icmp .ge 34, 3) := by decide +kernel
theorem dX0_freeMask_13 : decode cX0_freeMask 13 = .ok (.iload_n 2, 1) := by decide +kernel
theorem dX0_freeMask_14 : decode cX0_freeMask 14 = .ok (.iload_n 3, 1) := by decide +kernel
theorem dX0_freeMask_15 : decode cX0_freeMask 15 = .ok (.invokestatic 68, 3) := by decide +kernel
theorem dX0_freeMask_18 : decode cX0_freeMask 18 = .ok (.ifCond .eq 20, 3) := by decide +kernel
theorem dX0_freeMask_21 : decode cX0_freeMask 21 = .ok (.aload_n 0, 1) := by decide +kernel
theorem dX0_freeMask_22 : decode cX0_freeMask 22 = .ok (.iload_n 1, 1) := by decide +kernel
theorem dX0_freeMask_23 : decode cX0_freeMask 23 = .ok (.iload_n 3, 1) := by decide +kernel
theorem dX0_freeMask_24 : decode cX0_freeMask 24 = .ok (.invokevirtual 71, 3) := by decide +kernel
theorem dX0_freeMask_27 : decode cX0_freeMask 27 = .ok (.ifCond .eq 11, 3) := by decide +kernel
theorem dX0_freeMask_30 : decode cX0_freeMask 30 = .ok (.iload_n 2, 1) := by decide +kernel
theorem dX0_freeMask_31 : decode cX0_freeMask 31 = .ok (.iconst 1, 1) := by decide +kernel
theorem dX0_freeMask_32 : decode cX0_freeMask 32 = .ok (.iload_n 3, 1) := by decide +kernel
theorem dX0_freeMask_33 : decode cX0_freeMask 33 = .ok (.ishl, 1) := by decide +kernel
theorem dX0_freeMask_34 : decode cX0_freeMask 34 = .ok (.iconst (-1), 1) := by decide +kernel
theorem dX0_freeMask_35 : decode cX0_freeMask 35 = .ok (.ixor, 1) := by decide +kernel
theorem dX0_freeMask_36 : decode cX0_freeMask 36 = .ok (.iand, 1) := by decide +kernel
theorem dX0_freeMask_37 : decode cX0_freeMask 37 = .ok (.istore_n 2, 1) := by decide +kernel
theorem dX0_freeMask_38 : decode cX0_freeMask 38 = .ok (.iinc 3 1, 3) := by decide +kernel
theorem dX0_freeMask_41 : decode cX0_freeMask 41 = .ok (.goto (-33), 3) := by decide +kernel
theorem dX0_freeMask_44 : decode cX0_freeMask 44 = .ok (.iload_n 2, 1) := by decide +kernel
theorem dX0_freeMask_45 : decode cX0_freeMask 45 = .ok (.ireturn, 1) := by decide +kernel
set_option maxRecDepth 20000 in
theorem ggX0_leaderCrossings_X0_isPointOnLeader : GoodIn wsX0_leaderCrossings wsX0_isPointOnLeader := goodIn_r _ [6, 7, 24, 25] (by decide +kernel) (by decide +kernel)
set_option maxRecDepth 20000 in
theorem gX0_leaderCrossings_X0_isPointOnLeader : GoodIn wsX0_leaderCrossings (wsV RX0 74 RX0 yX0_isPointOnLeader wsX0_isPointOnLeader) := goodIn_app (goodIn_of _ (by decide +kernel)) ggX0_leaderCrossings_X0_isPointOnLeader
set_option maxRecDepth 20000 in
theorem ggX0_leaderCrossings_X0_isLabelOnLeader : GoodIn wsX0_leaderCrossings wsX0_isLabelOnLeader := goodIn_r _ [11, 7, 12, 13, 14, 5, 15, 16, 17, 18, 19, 20, 21, 22, 23, 24, 25] (by decide +kernel) (by decide +kernel)
set_option maxRecDepth 20000 in
theorem gX0_leaderCrossings_X0_isLabelOnLeader : GoodIn wsX0_leaderCrossings (wsV RX0 77 RX0 yX0_isLabelOnLeader wsX0_isLabelOnLeader) := goodIn_app (goodIn_of _ (by decide +kernel)) ggX0_leaderCrossings_X0_isLabelOnLeader
theorem dX0_leaderCrossings_0 : decode cX0_leaderCrossings 0 = .ok (.iconst 0, 1) := by decide +kernel
theorem dX0_leaderCrossings_1 : decode cX0_leaderCrossings 1 = .ok (.istore_n 2, 1) := by decide +kernel
theorem dX0_leaderCrossings_2 : decode cX0_leaderCrossings 2 = .ok (.iconst 0, 1) := by decide +kernel
theorem dX0_leaderCrossings_3 : decode cX0_leaderCrossings 3 = .ok (.istore_n 3, 1) := by decide +kernel
theorem dX0_leaderCrossings_4 : decode cX0_leaderCrossings 4 = .ok (.iload_n 3, 1) := by decide +kernel
theorem dX0_leaderCrossings_5 : decode cX0_leaderCrossings 5 = .ok (.aload_n 0, 1) := by decide +kernel
theorem dX0_leaderCrossings_6 : decode cX0_leaderCrossings 6 = .ok (.getfield 15, 3) := by decide +kernel
theorem dX0_leaderCrossings_9 : decode cX0_leaderCrossings 9 = .ok (.if_icmp .ge 33, 3) := by decide +kernel
theorem dX0_leaderCrossings_12 : decode cX0_leaderCrossings 12 = .ok (.aload_n 0, 1) := by decide +kernel
theorem dX0_leaderCrossings_13 : decode cX0_leaderCrossings 13 = .ok (.iload_n 1, 1) := by decide +kernel
theorem dX0_leaderCrossings_14 : decode cX0_leaderCrossings 14 = .ok (.iload_n 3, 1) := by decide +kernel
theorem dX0_leaderCrossings_15 : decode cX0_leaderCrossings 15 = .ok (.invokevirtual 74, 3) := by decide +kernel
theorem dX0_leaderCrossings_18 : decode cX0_leaderCrossings 18 = .ok (.ifCond .eq 6, 3) := by decide +kernel
theorem dX0_leaderCrossings_21 : decode cX0_leaderCrossings 21 = .ok (.iinc 2 1, 3) := by decide +kernel
theorem dX0_leaderCrossings_24 : decode cX0_leaderCrossings 24 = .ok (.aload_n 0, 1) := by decide +kernel
theorem dX0_leaderCrossings_25 : decode cX0_leaderCrossings 25 = .ok (.iload_n 1, 1) := by decide +kernel
theorem dX0_leaderCrossings_26 : decode cX0_leaderCrossings 26 = .ok (.iload_n 3, 1) := by decide +kernel
theorem dX0_leaderCrossings_27 : decode cX0_leaderCrossings 27 = .ok (.invokevirtual 77, 3) := by decide +kernel
theorem dX0_leaderCrossings_30 : decode cX0_leaderCrossings 30 = .ok (.ifCond .eq 6, 3) := by decide +kernel
theorem dX0_leaderCrossings_33 : decode cX0_leaderCrossings 33 = .ok (.iinc 2 1, 3) := by decide +kernel
theorem dX0_leaderCrossings_36 : decode cX0_leaderCrossings 36 = .ok (.iinc 3 1, 3) := by decide +kernel
theorem dX0_leaderCrossings_39 : decode cX0_leaderCrossings 39 = .ok (.goto (-35), 3) := by decide +kernel
theorem dX0_leaderCrossings_42 : decode cX0_leaderCrossings 42 = .ok (.iload_n 2, 1) := by decide +kernel
theorem dX0_leaderCrossings_43 : decode cX0_leaderCrossings 43 = .ok (.ireturn, 1) := by decide +kernel
theorem dX0_isPointOnLeader_0 : decode cX0_isPointOnLeader 0 = .ok (.aload_n 0, 1) := by decide +kernel
theorem dX0_isPointOnLeader_1 : decode cX0_isPointOnLeader 1 = .ok (.getfield 11, 3) := by decide +kernel
theorem dX0_isPointOnLeader_4 : decode cX0_isPointOnLeader 4 = .ok (.bipush 8, 2) := by decide +kernel
theorem dX0_isPointOnLeader_6 : decode cX0_isPointOnLeader 6 = .ok (.iload_n 2, 1) := by decide +kernel
theorem dX0_isPointOnLeader_7 : decode cX0_isPointOnLeader 7 = .ok (.iadd, 1) := by decide +kernel
theorem dX0_isPointOnLeader_8 : decode cX0_isPointOnLeader 8 = .ok (.iaload, 1) := by decide +kernel
theorem dX0_isPointOnLeader_9 : decode cX0_isPointOnLeader 9 = .ok (.aload_n 0, 1) := by decide +kernel
theorem dX0_isPointOnLeader_10 : decode cX0_isPointOnLeader 10 = .ok (.getfield 11, 3) := by decide +kernel
theorem dX0_isPointOnLeader_13 : decode cX0_isPointOnLeader 13 = .ok (.bipush 8, 2) := by decide +kernel
theorem dX0_isPointOnLeader_15 : decode cX0_isPointOnLeader 15 = .ok (.iload_n 1, 1) := by decide +kernel
theorem dX0_isPointOnLeader_16 : decode cX0_isPointOnLeader 16 = .ok (.iadd, 1) := by decide +kernel
theorem dX0_isPointOnLeader_17 : decode cX0_isPointOnLeader 17 = .ok (.iaload, 1) := by decide +kernel
theorem dX0_isPointOnLeader_18 : decode cX0_isPointOnLeader 18 = .ok (.if_icmp .ne 26, 3) := by decide +kernel
theorem dX0_isPointOnLeader_21 : decode cX0_isPointOnLeader 21 = .ok (.aload_n 0, 1) := by decide +kernel
theorem dX0_isPointOnLeader_22 : decode cX0_isPointOnLeader 22 = .ok (.getfield 11, 3) := by decide +kernel
theorem dX0_isPointOnLeader_25 : decode cX0_isPointOnLeader 25 = .ok (.iconst 0, 1) := by decide +kernel
theorem dX0_isPointOnLeader_26 : decode cX0_isPointOnLeader 26 = .ok (.iload_n 2, 1) := by decide +kernel
theorem dX0_isPointOnLeader_27 : decode cX0_isPointOnLeader 27 = .ok (.iadd, 1) := by decide +kernel
theorem dX0_isPointOnLeader_28 : decode cX0_isPointOnLeader 28 = .ok (.iaload, 1) := by decide +kernel
theorem dX0_isPointOnLeader_29 : decode cX0_isPointOnLeader 29 = .ok (.aload_n 0, 1) := by decide +kernel
theorem dX0_isPointOnLeader_30 : decode cX0_isPointOnLeader 30 = .ok (.getfield 11, 3) := by decide +kernel
theorem dX0_isPointOnLeader_33 : decode cX0_isPointOnLeader 33 = .ok (.iconst 0, 1) := by decide +kernel
theorem dX0_isPointOnLeader_34 : decode cX0_isPointOnLeader 34 = .ok (.iload_n 1, 1) := by decide +kernel
theorem dX0_isPointOnLeader_35 : decode cX0_isPointOnLeader 35 = .ok (.iadd, 1) := by decide +kernel
theorem dX0_isPointOnLeader_36 : decode cX0_isPointOnLeader 36 = .ok (.iaload, 1) := by decide +kernel
theorem dX0_isPointOnLeader_37 : decode cX0_isPointOnLeader 37 = .ok (.if_icmp .le 7, 3) := by decide +kernel
theorem dX0_isPointOnLeader_40 : decode cX0_isPointOnLeader 40 = .ok (.iconst 1, 1) := by decide +kernel
theorem dX0_isPointOnLeader_41 : decode cX0_isPointOnLeader 41 = .ok (.goto 4, 3) := by decide +kernel
theorem dX0_isPointOnLeader_44 : decode cX0_isPointOnLeader 44 = .ok (.iconst 0, 1) := by decide +kernel
theorem dX0_isPointOnLeader_45 : decode cX0_isPointOnLeader 45 = .ok (.ireturn, 1) := by decide +kernel
set_option maxRecDepth 20000 in
theorem ggX0_isLabelOnLeader_X0_stands : GoodIn wsX0_isLabelOnLeader wsX0_stands := goodIn_r _ [6, 1, 15, 16] (by decide +kernel) (by decide +kernel)
set_option maxRecDepth 20000 in
theorem gX0_isLabelOnLeader_X0_stands : GoodIn wsX0_isLabelOnLeader (wsV RX0 26 RX0 yX0_stands wsX0_stands) := goodIn_app (goodIn_of _ (by decide +kernel)) ggX0_isLabelOnLeader_X0_stands
set_option maxRecDepth 20000 in
theorem ggX0_isLabelOnLeader_X0_left : GoodIn wsX0_isLabelOnLeader wsX0_left := goodIn_r _ [10, 1, 15, 16] (by decide +kernel) (by decide +kernel)
set_option maxRecDepth 20000 in
theorem gX0_isLabelOnLeader_X0_left : GoodIn wsX0_isLabelOnLeader (wsV RX0 30 RX0 yX0_left wsX0_left) := goodIn_app (goodIn_of _ (by decide +kernel)) ggX0_isLabelOnLeader_X0_left
set_option maxRecDepth 20000 in
theorem ggX0_isLabelOnLeader_X0_top : GoodIn wsX0_isLabelOnLeader wsX0_top := goodIn_r _ [14, 1, 15, 16] (by decide +kernel) (by decide +kernel)
set_option maxRecDepth 20000 in
theorem gX0_isLabelOnLeader_X0_top : GoodIn wsX0_isLabelOnLeader (wsV RX0 33 RX0 yX0_top wsX0_top) := goodIn_app (goodIn_of _ (by decide +kernel)) ggX0_isLabelOnLeader_X0_top
theorem dX0_isLabelOnLeader_0 : decode cX0_isLabelOnLeader 0 = .ok (.aload_n 0, 1) := by decide +kernel
theorem dX0_isLabelOnLeader_1 : decode cX0_isLabelOnLeader 1 = .ok (.iload_n 2, 1) := by decide +kernel
theorem dX0_isLabelOnLeader_2 : decode cX0_isLabelOnLeader 2 = .ok (.invokevirtual 26, 3) := by decide +kernel
theorem dX0_isLabelOnLeader_5 : decode cX0_isLabelOnLeader 5 = .ok (.ifCond .ne 5, 3) := by decide +kernel
theorem dX0_isLabelOnLeader_8 : decode cX0_isLabelOnLeader 8 = .ok (.iconst 0, 1) := by decide +kernel
theorem dX0_isLabelOnLeader_9 : decode cX0_isLabelOnLeader 9 = .ok (.ireturn, 1) := by decide +kernel
theorem dX0_isLabelOnLeader_10 : decode cX0_isLabelOnLeader 10 = .ok (.aload_n 0, 1) := by decide +kernel
theorem dX0_isLabelOnLeader_11 : decode cX0_isLabelOnLeader 11 = .ok (.getfield 11, 3) := by decide +kernel
theorem dX0_isLabelOnLeader_14 : decode cX0_isLabelOnLeader 14 = .ok (.bipush 40, 2) := by decide +kernel
theorem dX0_isLabelOnLeader_16 : decode cX0_isLabelOnLeader 16 = .ok (.iload_n 2, 1) := by decide +kernel
theorem dX0_isLabelOnLeader_17 : decode cX0_isLabelOnLeader 17 = .ok (.iadd, 1) := by decide +kernel
theorem dX0_isLabelOnLeader_18 : decode cX0_isLabelOnLeader 18 = .ok (.iaload, 1) := by decide +kernel
theorem dX0_isLabelOnLeader_19 : decode cX0_isLabelOnLeader 19 = .ok (.istore_n 3, 1) := by decide +kernel
theorem dX0_isLabelOnLeader_20 : decode cX0_isLabelOnLeader 20 = .ok (.aload_n 0, 1) := by decide +kernel
theorem dX0_isLabelOnLeader_21 : decode cX0_isLabelOnLeader 21 = .ok (.iload_n 2, 1) := by decide +kernel
theorem dX0_isLabelOnLeader_22 : decode cX0_isLabelOnLeader 22 = .ok (.iload_n 3, 1) := by decide +kernel
theorem dX0_isLabelOnLeader_23 : decode cX0_isLabelOnLeader 23 = .ok (.invokevirtual 30, 3) := by decide +kernel
theorem dX0_isLabelOnLeader_26 : decode cX0_isLabelOnLeader 26 = .ok (.aload_n 0, 1) := by decide +kernel
theorem dX0_isLabelOnLeader_27 : decode cX0_isLabelOnLeader 27 = .ok (.getfield 11, 3) := by decide +kernel
theorem dX0_isLabelOnLeader_30 : decode cX0_isLabelOnLeader 30 = .ok (.bipush 16, 2) := by decide +kernel
theorem dX0_isLabelOnLeader_32 : decode cX0_isLabelOnLeader 32 = .ok (.iload_n 2, 1) := by decide +kernel
theorem dX0_isLabelOnLeader_33 : decode cX0_isLabelOnLeader 33 = .ok (.iadd, 1) := by decide +kernel
theorem dX0_isLabelOnLeader_34 : decode cX0_isLabelOnLeader 34 = .ok (.iaload, 1) := by decide +kernel
theorem dX0_isLabelOnLeader_35 : decode cX0_isLabelOnLeader 35 = .ok (.iadd, 1) := by decide +kernel
theorem dX0_isLabelOnLeader_36 : decode cX0_isLabelOnLeader 36 = .ok (.istore 4, 2) := by decide +kernel
theorem dX0_isLabelOnLeader_38 : decode cX0_isLabelOnLeader 38 = .ok (.aload_n 0, 1) := by decide +kernel
theorem dX0_isLabelOnLeader_39 : decode cX0_isLabelOnLeader 39 = .ok (.iload_n 2, 1) := by decide +kernel
theorem dX0_isLabelOnLeader_40 : decode cX0_isLabelOnLeader 40 = .ok (.iload_n 3, 1) := by decide +kernel
theorem dX0_isLabelOnLeader_41 : decode cX0_isLabelOnLeader 41 = .ok (.invokevirtual 33, 3) := by decide +kernel
theorem dX0_isLabelOnLeader_44 : decode cX0_isLabelOnLeader 44 = .ok (.istore 5, 2) := by decide +kernel
theorem dX0_isLabelOnLeader_46 : decode cX0_isLabelOnLeader 46 = .ok (.aload_n 0, 1) := by decide +kernel
theorem dX0_isLabelOnLeader_47 : decode cX0_isLabelOnLeader 47 = .ok (.getfield 11, 3) := by decide +kernel
theorem dX0_isLabelOnLeader_50 : decode cX0_isLabelOnLeader 50 = .ok (.bipush 8, 2) := by decide +kernel
theorem dX0_isLabelOnLeader_52 : decode cX0_isLabelOnLeader 52 = .ok (.iload_n 1, 1) := by decide +kernel
theorem dX0_isLabelOnLeader_53 : decode cX0_isLabelOnLeader 53 = .ok (.iadd, 1) := by decide +kernel
theorem dX0_isLabelOnLeader_54 : decode cX0_isLabelOnLeader 54 = .ok (.iaload, 1) := by decide +kernel
theorem dX0_isLabelOnLeader_55 : decode cX0_isLabelOnLeader 55 = .ok (.istore 6, 2) := by decide +kernel
theorem dX0_isLabelOnLeader_57 : decode cX0_isLabelOnLeader 57 = .ok (.iload 4, 2) := by decide +kernel
theorem dX0_isLabelOnLeader_59 : decode cX0_isLabelOnLeader 59 = .ok (.aload_n 0, 1) := by decide +kernel
theorem dX0_isLabelOnLeader_60 : decode cX0_isLabelOnLeader 60 = .ok (.getfield 11, 3) := by decide +kernel
theorem dX0_isLabelOnLeader_63 : decode cX0_isLabelOnLeader 63 = .ok (.iconst 0, 1) := by decide +kernel
theorem dX0_isLabelOnLeader_64 : decode cX0_isLabelOnLeader 64 = .ok (.iload_n 1, 1) := by decide +kernel
theorem dX0_isLabelOnLeader_65 : decode cX0_isLabelOnLeader 65 = .ok (.iadd, 1) := by decide +kernel
theorem dX0_isLabelOnLeader_66 : decode cX0_isLabelOnLeader 66 = .ok (.iaload, 1) := by decide +kernel
theorem dX0_isLabelOnLeader_67 : decode cX0_isLabelOnLeader 67 = .ok (.iconst 1, 1) := by decide +kernel
theorem dX0_isLabelOnLeader_68 : decode cX0_isLabelOnLeader 68 = .ok (.iadd, 1) := by decide +kernel
theorem dX0_isLabelOnLeader_69 : decode cX0_isLabelOnLeader 69 = .ok (.if_icmp .le 31, 3) := by decide +kernel
theorem dX0_isLabelOnLeader_72 : decode cX0_isLabelOnLeader 72 = .ok (.iload 6, 2) := by decide +kernel
theorem dX0_isLabelOnLeader_74 : decode cX0_isLabelOnLeader 74 = .ok (.iload 5, 2) := by decide +kernel
theorem dX0_isLabelOnLeader_76 : decode cX0_isLabelOnLeader 76 = .ok (.if_icmp .lt 24, 3) := by decide +kernel
theorem dX0_isLabelOnLeader_79 : decode cX0_isLabelOnLeader 79 = .ok (.iload 6, 2) := by decide +kernel
theorem dX0_isLabelOnLeader_81 : decode cX0_isLabelOnLeader 81 = .ok (.iload 5, 2) := by decide +kernel
theorem dX0_isLabelOnLeader_83 : decode cX0_isLabelOnLeader 83 = .ok (.aload_n 0, 1) := by decide +kernel
theorem dX0_isLabelOnLeader_84 : decode cX0_isLabelOnLeader 84 = .ok (.getfield 11, 3) := by decide +kernel
theorem dX0_isLabelOnLeader_87 : decode cX0_isLabelOnLeader 87 = .ok (.bipush 24, 2) := by decide +kernel
theorem dX0_isLabelOnLeader_89 : decode cX0_isLabelOnLeader 89 = .ok (.iload_n 2, 1) := by decide +kernel
theorem dX0_isLabelOnLeader_90 : decode cX0_isLabelOnLeader 90 = .ok (.iadd, 1) := by decide +kernel
theorem dX0_isLabelOnLeader_91 : decode cX0_isLabelOnLeader 91 = .ok (.iaload, 1) := by decide +kernel
theorem dX0_isLabelOnLeader_92 : decode cX0_isLabelOnLeader 92 = .ok (.iadd, 1) := by decide +kernel
theorem dX0_isLabelOnLeader_93 : decode cX0_isLabelOnLeader 93 = .ok (.if_icmp .ge 7, 3) := by decide +kernel
theorem dX0_isLabelOnLeader_96 : decode cX0_isLabelOnLeader 96 = .ok (.iconst 1, 1) := by decide +kernel
theorem dX0_isLabelOnLeader_97 : decode cX0_isLabelOnLeader 97 = .ok (.goto 4, 3) := by decide +kernel
theorem dX0_isLabelOnLeader_100 : decode cX0_isLabelOnLeader 100 = .ok (.iconst 0, 1) := by decide +kernel
theorem dX0_isLabelOnLeader_101 : decode cX0_isLabelOnLeader 101 = .ok (.ireturn, 1) := by decide +kernel
set_option maxRecDepth 20000 in
theorem ggX0_standingLabels_X0_stands : GoodIn wsX0_standingLabels wsX0_stands := goodIn_r _ [6, 7, 8, 9] (by decide +kernel) (by decide +kernel)
set_option maxRecDepth 20000 in
theorem gX0_standingLabels_X0_stands : GoodIn wsX0_standingLabels (wsV RX0 26 RX0 yX0_stands wsX0_stands) := goodIn_app (goodIn_of _ (by decide +kernel)) ggX0_standingLabels_X0_stands
theorem dX0_standingLabels_0 : decode cX0_standingLabels 0 = .ok (.iconst 0, 1) := by decide +kernel
theorem dX0_standingLabels_1 : decode cX0_standingLabels 1 = .ok (.istore_n 1, 1) := by decide +kernel
theorem dX0_standingLabels_2 : decode cX0_standingLabels 2 = .ok (.iconst 0, 1) := by decide +kernel
theorem dX0_standingLabels_3 : decode cX0_standingLabels 3 = .ok (.istore_n 2, 1) := by decide +kernel
theorem dX0_standingLabels_4 : decode cX0_standingLabels 4 = .ok (.iload_n 2, 1) := by decide +kernel
theorem dX0_standingLabels_5 : decode cX0_standingLabels 5 = .ok (.aload_n 0, 1) := by decide +kernel
theorem dX0_standingLabels_6 : decode cX0_standingLabels 6 = .ok (.getfield 15, 3) := by decide +kernel
theorem dX0_standingLabels_9 : decode cX0_standingLabels 9 = .ok (.if_icmp .ge 20, 3) := by decide +kernel
theorem dX0_standingLabels_12 : decode cX0_standingLabels 12 = .ok (.aload_n 0, 1) := by decide +kernel
theorem dX0_standingLabels_13 : decode cX0_standingLabels 13 = .ok (.iload_n 2, 1) := by decide +kernel
theorem dX0_standingLabels_14 : decode cX0_standingLabels 14 = .ok (.invokevirtual 26, 3) := by decide +kernel
theorem dX0_standingLabels_17 : decode cX0_standingLabels 17 = .ok (.ifCond .eq 6, 3) := by decide +kernel
theorem dX0_standingLabels_20 : decode cX0_standingLabels 20 = .ok (.iinc 1 1, 3) := by decide +kernel
theorem dX0_standingLabels_23 : decode cX0_standingLabels 23 = .ok (.iinc 2 1, 3) := by decide +kernel
theorem dX0_standingLabels_26 : decode cX0_standingLabels 26 = .ok (.goto (-22), 3) := by decide +kernel
theorem dX0_standingLabels_29 : decode cX0_standingLabels 29 = .ok (.iload_n 1, 1) := by decide +kernel
theorem dX0_standingLabels_30 : decode cX0_standingLabels 30 = .ok (.ireturn, 1) := by decide +kernel
set_option maxRecDepth 20000 in
theorem ggX0_standingWeight_X0_stands : GoodIn wsX0_standingWeight wsX0_stands := goodIn_r _ [7, 2, 8, 9] (by decide +kernel) (by decide +kernel)
set_option maxRecDepth 20000 in
theorem gX0_standingWeight_X0_stands : GoodIn wsX0_standingWeight (wsV RX0 26 RX0 yX0_stands wsX0_stands) := goodIn_app (goodIn_of _ (by decide +kernel)) ggX0_standingWeight_X0_stands
theorem dX0_standingWeight_0 : decode cX0_standingWeight 0 = .ok (.iconst 0, 1) := by decide +kernel
theorem dX0_standingWeight_1 : decode cX0_standingWeight 1 = .ok (.istore_n 1, 1) := by decide +kernel
theorem dX0_standingWeight_2 : decode cX0_standingWeight 2 = .ok (.iconst 0, 1) := by decide +kernel
theorem dX0_standingWeight_3 : decode cX0_standingWeight 3 = .ok (.istore_n 2, 1) := by decide +kernel
theorem dX0_standingWeight_4 : decode cX0_standingWeight 4 = .ok (.iload_n 2, 1) := by decide +kernel
theorem dX0_standingWeight_5 : decode cX0_standingWeight 5 = .ok (.aload_n 0, 1) := by decide +kernel
theorem dX0_standingWeight_6 : decode cX0_standingWeight 6 = .ok (.getfield 15, 3) := by decide +kernel
theorem dX0_standingWeight_9 : decode cX0_standingWeight 9 = .ok (.if_icmp .ge 29, 3) := by decide +kernel
theorem dX0_standingWeight_12 : decode cX0_standingWeight 12 = .ok (.aload_n 0, 1) := by decide +kernel
theorem dX0_standingWeight_13 : decode cX0_standingWeight 13 = .ok (.iload_n 2, 1) := by decide +kernel
theorem dX0_standingWeight_14 : decode cX0_standingWeight 14 = .ok (.invokevirtual 26, 3) := by decide +kernel
theorem dX0_standingWeight_17 : decode cX0_standingWeight 17 = .ok (.ifCond .eq 15, 3) := by decide +kernel
theorem dX0_standingWeight_20 : decode cX0_standingWeight 20 = .ok (.iload_n 1, 1) := by decide +kernel
theorem dX0_standingWeight_21 : decode cX0_standingWeight 21 = .ok (.aload_n 0, 1) := by decide +kernel
theorem dX0_standingWeight_22 : decode cX0_standingWeight 22 = .ok (.getfield 11, 3) := by decide +kernel
theorem dX0_standingWeight_25 : decode cX0_standingWeight 25 = .ok (.bipush 32, 2) := by decide +kernel
theorem dX0_standingWeight_27 : decode cX0_standingWeight 27 = .ok (.iload_n 2, 1) := by decide +kernel
theorem dX0_standingWeight_28 : decode cX0_standingWeight 28 = .ok (.iadd, 1) := by decide +kernel
theorem dX0_standingWeight_29 : decode cX0_standingWeight 29 = .ok (.iaload, 1) := by decide +kernel
theorem dX0_standingWeight_30 : decode cX0_standingWeight 30 = .ok (.iadd, 1) := by decide +kernel
theorem dX0_standingWeight_31 : decode cX0_standingWeight 31 = .ok (.istore_n 1, 1) := by decide +kernel
theorem dX0_standingWeight_32 : decode cX0_standingWeight 32 = .ok (.iinc 2 1, 3) := by decide +kernel
theorem dX0_standingWeight_35 : decode cX0_standingWeight 35 = .ok (.goto (-31), 3) := by decide +kernel
theorem dX0_standingWeight_38 : decode cX0_standingWeight 38 = .ok (.iload_n 1, 1) := by decide +kernel
theorem dX0_standingWeight_39 : decode cX0_standingWeight 39 = .ok (.ireturn, 1) := by decide +kernel
theorem dX0_allWeight_0 : decode cX0_allWeight 0 = .ok (.iconst 0, 1) := by decide +kernel
theorem dX0_allWeight_1 : decode cX0_allWeight 1 = .ok (.istore_n 1, 1) := by decide +kernel
theorem dX0_allWeight_2 : decode cX0_allWeight 2 = .ok (.iconst 0, 1) := by decide +kernel
theorem dX0_allWeight_3 : decode cX0_allWeight 3 = .ok (.istore_n 2, 1) := by decide +kernel
theorem dX0_allWeight_4 : decode cX0_allWeight 4 = .ok (.iload_n 2, 1) := by decide +kernel
theorem dX0_allWeight_5 : decode cX0_allWeight 5 = .ok (.aload_n 0, 1) := by decide +kernel
theorem dX0_allWeight_6 : decode cX0_allWeight 6 = .ok (.getfield 15, 3) := by decide +kernel
theorem dX0_allWeight_9 : decode cX0_allWeight 9 = .ok (.if_icmp .ge 21, 3) := by decide +kernel
theorem dX0_allWeight_12 : decode cX0_allWeight 12 = .ok (.iload_n 1, 1) := by decide +kernel
theorem dX0_allWeight_13 : decode cX0_allWeight 13 = .ok (.aload_n 0, 1) := by decide +kernel
theorem dX0_allWeight_14 : decode cX0_allWeight 14 = .ok (.getfield 11, 3) := by decide +kernel
theorem dX0_allWeight_17 : decode cX0_allWeight 17 = .ok (.bipush 32, 2) := by decide +kernel
theorem dX0_allWeight_19 : decode cX0_allWeight 19 = .ok (.iload_n 2, 1) := by decide +kernel
theorem dX0_allWeight_20 : decode cX0_allWeight 20 = .ok (.iadd, 1) := by decide +kernel
theorem dX0_allWeight_21 : decode cX0_allWeight 21 = .ok (.iaload, 1) := by decide +kernel
theorem dX0_allWeight_22 : decode cX0_allWeight 22 = .ok (.iadd, 1) := by decide +kernel
theorem dX0_allWeight_23 : decode cX0_allWeight 23 = .ok (.istore_n 1, 1) := by decide +kernel
theorem dX0_allWeight_24 : decode cX0_allWeight 24 = .ok (.iinc 2 1, 3) := by decide +kernel
theorem dX0_allWeight_27 : decode cX0_allWeight 27 = .ok (.goto (-23), 3) := by decide +kernel
theorem dX0_allWeight_30 : decode cX0_allWeight 30 = .ok (.iload_n 1, 1) := by decide +kernel
theorem dX0_allWeight_31 : decode cX0_allWeight 31 = .ok (.ireturn, 1) := by decide +kernel
set_option maxRecDepth 20000 in
theorem ggX0_standingSquares_X0_stands : GoodIn wsX0_standingSquares wsX0_stands := goodIn_r _ [7, 2, 8, 9] (by decide +kernel) (by decide +kernel)
set_option maxRecDepth 20000 in
theorem gX0_standingSquares_X0_stands : GoodIn wsX0_standingSquares (wsV RX0 26 RX0 yX0_stands wsX0_stands) := goodIn_app (goodIn_of _ (by decide +kernel)) ggX0_standingSquares_X0_stands
theorem dX0_standingSquares_0 : decode cX0_standingSquares 0 = .ok (.iconst 0, 1) := by decide +kernel
theorem dX0_standingSquares_1 : decode cX0_standingSquares 1 = .ok (.istore_n 1, 1) := by decide +kernel
theorem dX0_standingSquares_2 : decode cX0_standingSquares 2 = .ok (.iconst 0, 1) := by decide +kernel
theorem dX0_standingSquares_3 : decode cX0_standingSquares 3 = .ok (.istore_n 2, 1) := by decide +kernel
theorem dX0_standingSquares_4 : decode cX0_standingSquares 4 = .ok (.iload_n 2, 1) := by decide +kernel
theorem dX0_standingSquares_5 : decode cX0_standingSquares 5 = .ok (.aload_n 0, 1) := by decide +kernel
theorem dX0_standingSquares_6 : decode cX0_standingSquares 6 = .ok (.getfield 15, 3) := by decide +kernel
theorem dX0_standingSquares_9 : decode cX0_standingSquares 9 = .ok (.if_icmp .ge 39, 3) := by decide +kernel
theorem dX0_standingSquares_12 : decode cX0_standingSquares 12 = .ok (.aload_n 0, 1) := by decide +kernel
theorem dX0_standingSquares_13 : decode cX0_standingSquares 13 = .ok (.iload_n 2, 1) := by decide +kernel
theorem dX0_standingSquares_14 : decode cX0_standingSquares 14 = .ok (.invokevirtual 26, 3) := by decide +kernel
theorem dX0_standingSquares_17 : decode cX0_standingSquares 17 = .ok (.ifCond .eq 25, 3) := by decide +kernel
theorem dX0_standingSquares_20 : decode cX0_standingSquares 20 = .ok (.iload_n 1, 1) := by decide +kernel
theorem dX0_standingSquares_21 : decode cX0_standingSquares 21 = .ok (.aload_n 0, 1) := by decide +kernel
theorem dX0_standingSquares_22 : decode cX0_standingSquares 22 = .ok (.getfield 11, 3) := by decide +kernel
theorem dX0_standingSquares_25 : decode cX0_standingSquares 25 = .ok (.bipush 16, 2) := by decide +kernel
theorem dX0_standingSquares_27 : decode cX0_standingSquares 27 = .ok (.iload_n 2, 1) := by decide +kernel
theorem dX0_standingSquares_28 : decode cX0_standingSquares 28 = .ok (.iadd, 1) := by decide +kernel
theorem dX0_standingSquares_29 : decode cX0_standingSquares 29 = .ok (.iaload, 1) := by decide +kernel
theorem dX0_standingSquares_30 : decode cX0_standingSquares 30 = .ok (.aload_n 0, 1) := by decide +kernel
theorem dX0_standingSquares_31 : decode cX0_standingSquares 31 = .ok (.getfield 11, 3) := by decide +kernel
theorem dX0_standingSquares_34 : decode cX0_standingSquares 34 = .ok (.bipush 24, 2) := by decide +kernel
theorem dX0_standingSquares_36 : decode cX0_standingSquares 36 = .ok (.iload_n 2, 1) := by decide +kernel
theorem dX0_standingSquares_37 : decode cX0_standingSquares 37 = .ok (.iadd, 1) := by decide +kernel
theorem dX0_standingSquares_38 : decode cX0_standingSquares 38 = .ok (.iaload, 1) := by decide +kernel
theorem dX0_standingSquares_39 : decode cX0_standingSquares 39 = .ok (.imul, 1) := by decide +kernel
theorem dX0_standingSquares_40 : decode cX0_standingSquares 40 = .ok (.iadd, 1) := by decide +kernel
theorem dX0_standingSquares_41 : decode cX0_standingSquares 41 = .ok (.istore_n 1, 1) := by decide +kernel
theorem dX0_standingSquares_42 : decode cX0_standingSquares 42 = .ok (.iinc 2 1, 3) := by decide +kernel
theorem dX0_standingSquares_45 : decode cX0_standingSquares 45 = .ok (.goto (-41), 3) := by decide +kernel
theorem dX0_standingSquares_48 : decode cX0_standingSquares 48 = .ok (.iload_n 1, 1) := by decide +kernel
theorem dX0_standingSquares_49 : decode cX0_standingSquares 49 = .ok (.ireturn, 1) := by decide +kernel
set_option maxRecDepth 20000 in
theorem ggX0_pointsWithoutOpenCorner_X0_openMask : GoodIn wsX0_pointsWithoutOpenCorner wsX0_openMask := goodIn_r _ [6, 7, 8, 9, 5, 10, 11, 1, 12, 13, 14, 15, 16, 17, 18, 19, 20, 21] (by decide +kernel) (by decide +kernel)
set_option maxRecDepth 20000 in
theorem gX0_pointsWithoutOpenCorner_X0_openMask : GoodIn wsX0_pointsWithoutOpenCorner (wsV RX0 44 RX0 yX0_openMask wsX0_openMask) := goodIn_app (goodIn_of _ (by decide +kernel)) ggX0_pointsWithoutOpenCorner_X0_openMask
theorem dX0_pointsWithoutOpenCorner_0 : decode cX0_pointsWithoutOpenCorner 0 = .ok (.iconst 0, 1) := by decide +kernel
theorem dX0_pointsWithoutOpenCorner_1 : decode cX0_pointsWithoutOpenCorner 1 = .ok (.istore_n 1, 1) := by decide +kernel
theorem dX0_pointsWithoutOpenCorner_2 : decode cX0_pointsWithoutOpenCorner 2 = .ok (.iconst 0, 1) := by decide +kernel
theorem dX0_pointsWithoutOpenCorner_3 : decode cX0_pointsWithoutOpenCorner 3 = .ok (.istore_n 2, 1) := by decide +kernel
theorem dX0_pointsWithoutOpenCorner_4 : decode cX0_pointsWithoutOpenCorner 4 = .ok (.iload_n 2, 1) := by decide +kernel
theorem dX0_pointsWithoutOpenCorner_5 : decode cX0_pointsWithoutOpenCorner 5 = .ok (.aload_n 0, 1) := by decide +kernel
theorem dX0_pointsWithoutOpenCorner_6 : decode cX0_pointsWithoutOpenCorner 6 = .ok (.getfield 15, 3) := by decide +kernel
theorem dX0_pointsWithoutOpenCorner_9 : decode cX0_pointsWithoutOpenCorner 9 = .ok (.if_icmp .ge 20, 3) := by decide +kernel
theorem dX0_pointsWithoutOpenCorner_12 : decode cX0_pointsWithoutOpenCorner 12 = .ok (.aload_n 0, 1) := by decide +kernel
theorem dX0_pointsWithoutOpenCorner_13 : decode cX0_pointsWithoutOpenCorner 13 = .ok (.iload_n 2, 1) := by decide +kernel
theorem dX0_pointsWithoutOpenCorner_14 : decode cX0_pointsWithoutOpenCorner 14 = .ok (.invokevirtual 44, 3) := by decide +kernel
theorem dX0_pointsWithoutOpenCorner_17 : decode cX0_pointsWithoutOpenCorner 17 = .ok (.ifCond .ne 6, 3) := by decide +kernel
theorem dX0_pointsWithoutOpenCorner_20 : decode cX0_pointsWithoutOpenCorner 20 = .ok (.iinc 1 1, 3) := by decide +kernel
theorem dX0_pointsWithoutOpenCorner_23 : decode cX0_pointsWithoutOpenCorner 23 = .ok (.iinc 2 1, 3) := by decide +kernel
theorem dX0_pointsWithoutOpenCorner_26 : decode cX0_pointsWithoutOpenCorner 26 = .ok (.goto (-22), 3) := by decide +kernel
theorem dX0_pointsWithoutOpenCorner_29 : decode cX0_pointsWithoutOpenCorner 29 = .ok (.iload_n 1, 1) := by decide +kernel
theorem dX0_pointsWithoutOpenCorner_30 : decode cX0_pointsWithoutOpenCorner 30 = .ok (.ireturn, 1) := by decide +kernel
set_option maxRecDepth 20000 in
theorem ggX0_crossingsOfDropped_X0_stands : GoodIn wsX0_crossingsOfDropped wsX0_stands := goodIn_r _ [6, 7, 28, 29] (by decide +kernel) (by decide +kernel)
set_option maxRecDepth 20000 in
theorem gX0_crossingsOfDropped_X0_stands : GoodIn wsX0_crossingsOfDropped (wsV RX0 26 RX0 yX0_stands wsX0_stands) := goodIn_app (goodIn_of _ (by decide +kernel)) ggX0_crossingsOfDropped_X0_stands
set_option maxRecDepth 20000 in
theorem ggX0_crossingsOfDropped_X0_leaderCrossings : GoodIn wsX0_crossingsOfDropped wsX0_leaderCrossings := goodIn_r _ [11, 1, 12, 13, 14, 5, 15, 7, 16, 17, 18, 19, 2, 3, 4, 6, 20, 21, 22, 23, 24, 25, 26, 27, 28, 29] (by decide +kernel) (by decide +kernel)
set_option maxRecDepth 20000 in
theorem gX0_crossingsOfDropped_X0_leaderCrossings : GoodIn wsX0_crossingsOfDropped (wsV RX0 80 RX0 yX0_leaderCrossings wsX0_leaderCrossings) := goodIn_app (goodIn_of _ (by decide +kernel)) ggX0_crossingsOfDropped_X0_leaderCrossings
theorem dX0_crossingsOfDropped_0 : decode cX0_crossingsOfDropped 0 = .ok (.iconst 0, 1) := by decide +kernel
theorem dX0_crossingsOfDropped_1 : decode cX0_crossingsOfDropped 1 = .ok (.istore_n 1, 1) := by decide +kernel
theorem dX0_crossingsOfDropped_2 : decode cX0_crossingsOfDropped 2 = .ok (.iconst 0, 1) := by decide +kernel
theorem dX0_crossingsOfDropped_3 : decode cX0_crossingsOfDropped 3 = .ok (.istore_n 2, 1) := by decide +kernel
theorem dX0_crossingsOfDropped_4 : decode cX0_crossingsOfDropped 4 = .ok (.iload_n 2, 1) := by decide +kernel
theorem dX0_crossingsOfDropped_5 : decode cX0_crossingsOfDropped 5 = .ok (.aload_n 0, 1) := by decide +kernel
theorem dX0_crossingsOfDropped_6 : decode cX0_crossingsOfDropped 6 = .ok (.getfield 15, 3) := by decide +kernel
theorem dX0_crossingsOfDropped_9 : decode cX0_crossingsOfDropped 9 = .ok (.if_icmp .ge 25, 3) := by decide +kernel
theorem dX0_crossingsOfDropped_12 : decode cX0_crossingsOfDropped 12 = .ok (.aload_n 0, 1) := by decide +kernel
theorem dX0_crossingsOfDropped_13 : decode cX0_crossingsOfDropped 13 = .ok (.iload_n 2, 1) := by decide +kernel
theorem dX0_crossingsOfDropped_14 : decode cX0_crossingsOfDropped 14 = .ok (.invokevirtual 26, 3) := by decide +kernel
theorem dX0_crossingsOfDropped_17 : decode cX0_crossingsOfDropped 17 = .ok (.ifCond .ne 11, 3) := by decide +kernel
theorem dX0_crossingsOfDropped_20 : decode cX0_crossingsOfDropped 20 = .ok (.iload_n 1, 1) := by decide +kernel
theorem dX0_crossingsOfDropped_21 : decode cX0_crossingsOfDropped 21 = .ok (.aload_n 0, 1) := by decide +kernel
theorem dX0_crossingsOfDropped_22 : decode cX0_crossingsOfDropped 22 = .ok (.iload_n 2, 1) := by decide +kernel
theorem dX0_crossingsOfDropped_23 : decode cX0_crossingsOfDropped 23 = .ok (.invokevirtual 80, 3) := by decide +kernel
theorem dX0_crossingsOfDropped_26 : decode cX0_crossingsOfDropped 26 = .ok (.iadd, 1) := by decide +kernel
theorem dX0_crossingsOfDropped_27 : decode cX0_crossingsOfDropped 27 = .ok (.istore_n 1, 1) := by decide +kernel
theorem dX0_crossingsOfDropped_28 : decode cX0_crossingsOfDropped 28 = .ok (.iinc 2 1, 3) := by decide +kernel
theorem dX0_crossingsOfDropped_31 : decode cX0_crossingsOfDropped 31 = .ok (.goto (-27), 3) := by decide +kernel
theorem dX0_crossingsOfDropped_34 : decode cX0_crossingsOfDropped 34 = .ok (.iload_n 1, 1) := by decide +kernel
theorem dX0_crossingsOfDropped_35 : decode cX0_crossingsOfDropped 35 = .ok (.ireturn, 1) := by decide +kernel
theorem dX1_init_0 : decode cX1_init 0 = .ok (.aload_n 0, 1) := by decide +kernel
theorem dX1_init_1 : decode cX1_init 1 = .ok (.invokespecial 3, 3) := by decide +kernel
theorem dX1_init_4 : decode cX1_init 4 = .ok (.aload_n 0, 1) := by decide +kernel
theorem dX1_init_5 : decode cX1_init 5 = .ok (.sipush 288, 3) := by decide +kernel
theorem dX1_init_8 : decode cX1_init 8 = .ok (.newarray .int, 2) := by decide +kernel
theorem dX1_init_10 : decode cX1_init 10 = .ok (.putfield 11, 3) := by decide +kernel
theorem dX1_init_13 : decode cX1_init 13 = .ok (.aload_n 0, 1) := by decide +kernel
theorem dX1_init_14 : decode cX1_init 14 = .ok (.bipush 6, 2) := by decide +kernel
theorem dX1_init_16 : decode cX1_init 16 = .ok (.newarray .int, 2) := by decide +kernel
theorem dX1_init_18 : decode cX1_init 18 = .ok (.putfield 17, 3) := by decide +kernel
theorem dX1_init_21 : decode cX1_init 21 = .ok (.aload_n 0, 1) := by decide +kernel
theorem dX1_init_22 : decode cX1_init 22 = .ok (.iconst 0, 1) := by decide +kernel
theorem dX1_init_23 : decode cX1_init 23 = .ok (.putfield 20, 3) := by decide +kernel
theorem dX1_init_26 : decode cX1_init 26 = .ok (.return_, 1) := by decide +kernel
set_option maxRecDepth 20000 in
theorem ggX1_save_X1_forgetOldest : GoodIn wsX1_save wsX1_forgetOldest := goodIn_r _ [14, 3, 4, 5, 6, 7, 8, 1, 15, 16, 17] (by decide +kernel) (by decide +kernel)
set_option maxRecDepth 20000 in
theorem gX1_save_X1_forgetOldest : GoodIn wsX1_save (wsV RX1 24 RX1 yX1_forgetOldest wsX1_forgetOldest) := goodIn_app (goodIn_of _ (by decide +kernel)) ggX1_save_X1_forgetOldest
theorem dX1_save_0 : decode cX1_save 0 = .ok (.aload_n 0, 1) := by decide +kernel
theorem dX1_save_1 : decode cX1_save 1 = .ok (.getfield 20, 3) := by decide +kernel
theorem dX1_save_4 : decode cX1_save 4 = .ok (.bipush 6, 2) := by decide +kernel
theorem dX1_save_6 : decode cX1_save 6 = .ok (.if_icmp .lt 7, 3) := by decide +kernel
theorem dX1_save_9 : decode cX1_save 9 = .ok (.aload_n 0, 1) := by decide +kernel
theorem dX1_save_10 : decode cX1_save 10 = .ok (.invokevirtual 24, 3) := by decide +kernel
theorem dX1_save_13 : decode cX1_save 13 = .ok (.aload_n 1, 1) := by decide +kernel
theorem dX1_save_14 : decode cX1_save 14 = .ok (.getfield 27, 3) := by decide +kernel
theorem dX1_save_17 : decode cX1_save 17 = .ok (.iconst 0, 1) := by decide +kernel
theorem dX1_save_18 : decode cX1_save 18 = .ok (.aload_n 0, 1) := by decide +kernel
theorem dX1_save_19 : decode cX1_save 19 = .ok (.getfield 11, 3) := by decide +kernel
theorem dX1_save_22 : decode cX1_save 22 = .ok (.aload_n 0, 1) := by decide +kernel
theorem dX1_save_23 : decode cX1_save 23 = .ok (.getfield 20, 3) := by decide +kernel
theorem dX1_save_26 : decode cX1_save 26 = .ok (.bipush 48, 2) := by decide +kernel
theorem dX1_save_28 : decode cX1_save 28 = .ok (.imul, 1) := by decide +kernel
theorem dX1_save_29 : decode cX1_save 29 = .ok (.bipush 48, 2) := by decide +kernel
theorem dX1_save_31 : decode cX1_save 31 = .ok (.invokestatic 28, 3) := by decide +kernel
theorem dX1_save_34 : decode cX1_save 34 = .ok (.aload_n 0, 1) := by decide +kernel
theorem dX1_save_35 : decode cX1_save 35 = .ok (.getfield 17, 3) := by decide +kernel
theorem dX1_save_38 : decode cX1_save 38 = .ok (.aload_n 0, 1) := by decide +kernel
theorem dX1_save_39 : decode cX1_save 39 = .ok (.getfield 20, 3) := by decide +kernel
theorem dX1_save_42 : decode cX1_save 42 = .ok (.aload_n 1, 1) := by decide +kernel
theorem dX1_save_43 : decode cX1_save 43 = .ok (.getfield 34, 3) := by decide +kernel
theorem dX1_save_46 : decode cX1_save 46 = .ok (.iastore, 1) := by decide +kernel
theorem dX1_save_47 : decode cX1_save 47 = .ok (.aload_n 0, 1) := by decide +kernel
theorem dX1_save_48 : decode cX1_save 48 = .ok (.dup, 1) := by decide +kernel
theorem dX1_save_49 : decode cX1_save 49 = .ok (.getfield 20, 3) := by decide +kernel
theorem dX1_save_52 : decode cX1_save 52 = .ok (.iconst 1, 1) := by decide +kernel
theorem dX1_save_53 : decode cX1_save 53 = .ok (.iadd, 1) := by decide +kernel
theorem dX1_save_54 : decode cX1_save 54 = .ok (.putfield 20, 3) := by decide +kernel
theorem dX1_save_57 : decode cX1_save 57 = .ok (.return_, 1) := by decide +kernel
theorem dX1_forgetOldest_0 : decode cX1_forgetOldest 0 = .ok (.aload_n 0, 1) := by decide +kernel
theorem dX1_forgetOldest_1 : decode cX1_forgetOldest 1 = .ok (.getfield 11, 3) := by decide +kernel
theorem dX1_forgetOldest_4 : decode cX1_forgetOldest 4 = .ok (.bipush 48, 2) := by decide +kernel
theorem dX1_forgetOldest_6 : decode cX1_forgetOldest 6 = .ok (.aload_n 0, 1) := by decide +kernel
theorem dX1_forgetOldest_7 : decode cX1_forgetOldest 7 = .ok (.getfield 11, 3) := by decide +kernel
theorem dX1_forgetOldest_10 : decode cX1_forgetOldest 10 = .ok (.iconst 0, 1) := by decide +kernel
theorem dX1_forgetOldest_11 : decode cX1_forgetOldest 11 = .ok (.sipush 240, 3) := by decide +kernel
theorem dX1_forgetOldest_14 : decode cX1_forgetOldest 14 = .ok (.invokestatic 28, 3) := by decide +kernel
theorem dX1_forgetOldest_17 : decode cX1_forgetOldest 17 = .ok (.aload_n 0, 1) := by decide +kernel
theorem dX1_forgetOldest_18 : decode cX1_forgetOldest 18 = .ok (.getfield 17, 3) := by decide +kernel
theorem dX1_forgetOldest_21 : decode cX1_forgetOldest 21 = .ok (.iconst 1, 1) := by decide +kernel
theorem dX1_forgetOldest_22 : decode cX1_forgetOldest 22 = .ok (.aload_n 0, 1) := by decide +kernel
theorem dX1_forgetOldest_23 : decode cX1_forgetOldest 23 = .ok (.getfield 17, 3) := by decide +kernel
theorem dX1_forgetOldest_26 : decode cX1_forgetOldest 26 = .ok (.iconst 0, 1) := by decide +kernel
theorem dX1_forgetOldest_27 : decode cX1_forgetOldest 27 = .ok (.iconst 5, 1) := by decide +kernel
theorem dX1_forgetOldest_28 : decode cX1_forgetOldest 28 = .ok (.invokestatic 28, 3) := by decide +kernel
theorem dX1_forgetOldest_31 : decode cX1_forgetOldest 31 = .ok (.aload_n 0, 1) := by decide +kernel
theorem dX1_forgetOldest_32 : decode cX1_forgetOldest 32 = .ok (.iconst 5, 1) := by decide +kernel
theorem dX1_forgetOldest_33 : decode cX1_forgetOldest 33 = .ok (.putfield 20, 3) := by decide +kernel
theorem dX1_forgetOldest_36 : decode cX1_forgetOldest 36 = .ok (.return_, 1) := by decide +kernel
theorem dX1_restore_0 : decode cX1_restore 0 = .ok (.aload_n 0, 1) := by decide +kernel
theorem dX1_restore_1 : decode cX1_restore 1 = .ok (.dup, 1) := by decide +kernel
theorem dX1_restore_2 : decode cX1_restore 2 = .ok (.getfield 20, 3) := by decide +kernel
theorem dX1_restore_5 : decode cX1_restore 5 = .ok (.iconst 1, 1) := by decide +kernel
theorem dX1_restore_6 : decode cX1_restore 6 = .ok (.isub, 1) := by decide +kernel
theorem dX1_restore_7 : decode cX1_restore 7 = .ok (.putfield 20, 3) := by decide +kernel
theorem dX1_restore_10 : decode cX1_restore 10 = .ok (.aload_n 0, 1) := by decide +kernel
theorem dX1_restore_11 : decode cX1_restore 11 = .ok (.getfield 11, 3) := by decide +kernel
theorem dX1_restore_14 : decode cX1_restore 14 = .ok (.aload_n 0, 1) := by decide +kernel
theorem dX1_restore_15 : decode cX1_restore 15 = .ok (.getfield 20, 3) := by decide +kernel
theorem dX1_restore_18 : decode cX1_restore 18 = .ok (.bipush 48, 2) := by decide +kernel
theorem dX1_restore_20 : decode cX1_restore 20 = .ok (.imul, 1) := by decide +kernel
theorem dX1_restore_21 : decode cX1_restore 21 = .ok (.aload_n 1, 1) := by decide +kernel
theorem dX1_restore_22 : decode cX1_restore 22 = .ok (.getfield 27, 3) := by decide +kernel
theorem dX1_restore_25 : decode cX1_restore 25 = .ok (.iconst 0, 1) := by decide +kernel
theorem dX1_restore_26 : decode cX1_restore 26 = .ok (.bipush 48, 2) := by decide +kernel
theorem dX1_restore_28 : decode cX1_restore 28 = .ok (.invokestatic 28, 3) := by decide +kernel
theorem dX1_restore_31 : decode cX1_restore 31 = .ok (.aload_n 1, 1) := by decide +kernel
theorem dX1_restore_32 : decode cX1_restore 32 = .ok (.aload_n 0, 1) := by decide +kernel
theorem dX1_restore_33 : decode cX1_restore 33 = .ok (.getfield 17, 3) := by decide +kernel
theorem dX1_restore_36 : decode cX1_restore 36 = .ok (.aload_n 0, 1) := by decide +kernel
theorem dX1_restore_37 : decode cX1_restore 37 = .ok (.getfield 20, 3) := by decide +kernel
theorem dX1_restore_40 : decode cX1_restore 40 = .ok (.iaload, 1) := by decide +kernel
theorem dX1_restore_41 : decode cX1_restore 41 = .ok (.putfield 34, 3) := by decide +kernel
theorem dX1_restore_44 : decode cX1_restore 44 = .ok (.return_, 1) := by decide +kernel
