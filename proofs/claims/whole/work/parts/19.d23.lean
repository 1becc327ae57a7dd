theorem dX2_init_0 : decode cX2_init 0 = .ok (.aload_n 0, 1) := by decide +kernel
theorem dX2_init_1 : decode cX2_init 1 = .ok (.invokespecial 3, 3) := by decide +kernel
theorem dX2_init_4 : decode cX2_init 4 = .ok (.aload_n 0, 1) := by decide +kernel
theorem dX2_init_5 : decode cX2_init 5 = .ok (.iconst 0, 1) := by decide +kernel
theorem dX2_init_6 : decode cX2_init 6 = .ok (.putfield 9, 3) := by decide +kernel
theorem dX2_init_9 : decode cX2_init 9 = .ok (.aload_n 0, 1) := by decide +kernel
theorem dX2_init_10 : decode cX2_init 10 = .ok (.bipush 8, 2) := by decide +kernel
theorem dX2_init_12 : decode cX2_init 12 = .ok (.newarray .int, 2) := by decide +kernel
theorem dX2_init_14 : decode cX2_init 14 = .ok (.putfield 15, 3) := by decide +kernel
theorem dX2_init_17 : decode cX2_init 17 = .ok (.aload_n 0, 1) := by decide +kernel
theorem dX2_init_18 : decode cX2_init 18 = .ok (.bipush 8, 2) := by decide +kernel
theorem dX2_init_20 : decode cX2_init 20 = .ok (.newarray .int, 2) := by decide +kernel
theorem dX2_init_22 : decode cX2_init 22 = .ok (.putfield 19, 3) := by decide +kernel
theorem dX2_init_25 : decode cX2_init 25 = .ok (.aload_n 0, 1) := by decide +kernel
theorem dX2_init_26 : decode cX2_init 26 = .ok (.bipush 8, 2) := by decide +kernel
theorem dX2_init_28 : decode cX2_init 28 = .ok (.newarray .int, 2) := by decide +kernel
theorem dX2_init_30 : decode cX2_init 30 = .ok (.putfield 22, 3) := by decide +kernel
theorem dX2_init_33 : decode cX2_init 33 = .ok (.aload_n 0, 1) := by decide +kernel
theorem dX2_init_34 : decode cX2_init 34 = .ok (.bipush 32, 2) := by decide +kernel
theorem dX2_init_36 : decode cX2_init 36 = .ok (.newarray .int, 2) := by decide +kernel
theorem dX2_init_38 : decode cX2_init 38 = .ok (.putfield 25, 3) := by decide +kernel
theorem dX2_init_41 : decode cX2_init 41 = .ok (.aload_n 0, 1) := by decide +kernel
theorem dX2_init_42 : decode cX2_init 42 = .ok (.bipush 8, 2) := by decide +kernel
theorem dX2_init_44 : decode cX2_init 44 = .ok (.newarray .int, 2) := by decide +kernel
theorem dX2_init_46 : decode cX2_init 46 = .ok (.putfield 28, 3) := by decide +kernel
theorem dX2_init_49 : decode cX2_init 49 = .ok (.aload_n 0, 1) := by decide +kernel
theorem dX2_init_50 : decode cX2_init 50 = .ok (.iconst 0, 1) := by decide +kernel
theorem dX2_init_51 : decode cX2_init 51 = .ok (.putfield 31, 3) := by decide +kernel
theorem dX2_init_54 : decode cX2_init 54 = .ok (.aload_n 0, 1) := by decide +kernel
theorem dX2_init_55 : decode cX2_init 55 = .ok (.bipush 8, 2) := by decide +kernel
theorem dX2_init_57 : decode cX2_init 57 = .ok (.newarray .boolean, 2) := by decide +kernel
theorem dX2_init_59 : decode cX2_init 59 = .ok (.putfield 34, 3) := by decide +kernel
theorem dX2_init_62 : decode cX2_init 62 = .ok (.aload_n 0, 1) := by decide +kernel
theorem dX2_init_63 : decode cX2_init 63 = .ok (.bipush 32, 2) := by decide +kernel
theorem dX2_init_65 : decode cX2_init 65 = .ok (.newarray .int, 2) := by decide +kernel
theorem dX2_init_67 : decode cX2_init 67 = .ok (.putfield 38, 3) := by decide +kernel
theorem dX2_init_70 : decode cX2_init 70 = .ok (.aload_n 0, 1) := by decide +kernel
theorem dX2_init_71 : decode cX2_init 71 = .ok (.bipush 8, 2) := by decide +kernel
theorem dX2_init_73 : decode cX2_init 73 = .ok (.newarray .int, 2) := by decide +kernel
theorem dX2_init_75 : decode cX2_init 75 = .ok (.putfield 41, 3) := by decide +kernel
theorem dX2_init_78 : decode cX2_init 78 = .ok (.aload_n 0, 1) := by decide +kernel
theorem dX2_init_79 : decode cX2_init 79 = .ok (.bipush 9, 2) := by decide +kernel
theorem dX2_init_81 : decode cX2_init 81 = .ok (.newarray .int, 2) := by decide +kernel
theorem dX2_init_83 : decode cX2_init 83 = .ok (.putfield 44, 3) := by decide +kernel
theorem dX2_init_86 : decode cX2_init 86 = .ok (.aload_n 0, 1) := by decide +kernel
theorem dX2_init_87 : decode cX2_init 87 = .ok (.bipush 8, 2) := by decide +kernel
theorem dX2_init_89 : decode cX2_init 89 = .ok (.newarray .int, 2) := by decide +kernel
theorem dX2_init_91 : decode cX2_init 91 = .ok (.putfield 47, 3) := by decide +kernel
theorem dX2_init_94 : decode cX2_init 94 = .ok (.aload_n 0, 1) := by decide +kernel
theorem dX2_init_95 : decode cX2_init 95 = .ok (.bipush 8, 2) := by decide +kernel
theorem dX2_init_97 : decode cX2_init 97 = .ok (.newarray .int, 2) := by decide +kernel
theorem dX2_init_99 : decode cX2_init 99 = .ok (.putfield 50, 3) := by decide +kernel
theorem dX2_init_102 : decode cX2_init 102 = .ok (.aload_n 0, 1) := by decide +kernel
theorem dX2_init_103 : decode cX2_init 103 = .ok (.iconst (-1), 1) := by decide +kernel
theorem dX2_init_104 : decode cX2_init 104 = .ok (.putfield 53, 3) := by decide +kernel
theorem dX2_init_107 : decode cX2_init 107 = .ok (.aload_n 0, 1) := by decide +kernel
theorem dX2_init_108 : decode cX2_init 108 = .ok (.bipush 8, 2) := by decide +kernel
theorem dX2_init_110 : decode cX2_init 110 = .ok (.newarray .int, 2) := by decide +kernel
theorem dX2_init_112 : decode cX2_init 112 = .ok (.putfield 56, 3) := by decide +kernel
theorem dX2_init_115 : decode cX2_init 115 = .ok (.aload_n 0, 1) := by decide +kernel
theorem dX2_init_116 : decode cX2_init 116 = .ok (.iconst 0, 1) := by decide +kernel
theorem dX2_init_117 : decode cX2_init 117 = .ok (.putfield 59, 3) := by decide +kernel
theorem dX2_init_120 : decode cX2_init 120 = .ok (.aload_n 0, 1) := by decide +kernel
theorem dX2_init_121 : decode cX2_init 121 = .ok (.bipush 8, 2) := by decide +kernel
theorem dX2_init_123 : decode cX2_init 123 = .ok (.newarray .int, 2) := by decide +kernel
theorem dX2_init_125 : decode cX2_init 125 = .ok (.putfield 62, 3) := by decide +kernel
theorem dX2_init_128 : decode cX2_init 128 = .ok (.return_, 1) := by decide +kernel
set_option maxRecDepth 20000 in
theorem ggX2_look_X0_openMask : GoodIn wsX2_look wsX0_openMask := goodIn_r _ [12, 13, 14, 15, 11, 16, 17, 18, 19, 20, 21, 22, 23, 24, 25, 26, 49, 50] (by decide +kernel) (by decide +kernel)
set_option maxRecDepth 20000 in
theorem gX2_look_X0_openMask : GoodIn wsX2_look (wsV RX2 68 RX0 yX0_openMask wsX0_openMask) := goodIn_app (goodIn_of _ (by decide +kernel)) ggX2_look_X0_openMask
set_option maxRecDepth 20000 in
theorem ggX2_look_X2_laterClashes : GoodIn wsX2_look wsX2_laterClashes := goodIn_r _ [31, 3, 2, 32, 33, 34, 35, 36, 37, 11, 38, 17, 19, 20, 21, 22, 39, 40, 41, 42, 43, 44, 45, 46, 47, 48, 23, 24, 25, 26, 51, 52, 53, 54, 55, 56, 57, 58, 59, 60, 61, 62, 63, 64, 65, 66, 67, 49, 50] (by decide +kernel) (by decide +kernel)
set_option maxRecDepth 20000 in
theorem gX2_look_X2_laterClashes : GoodIn wsX2_look (wsV RX2 75 RX2 yX2_laterClashes wsX2_laterClashes) := goodIn_app (goodIn_of _ (by decide +kernel)) ggX2_look_X2_laterClashes
theorem dX2_look_0 : decode cX2_look 0 = .ok (.aload_n 0, 1) := by decide +kernel
theorem dX2_look_1 : decode cX2_look 1 = .ok (.aload_n 1, 1) := by decide +kernel
theorem dX2_look_2 : decode cX2_look 2 = .ok (.getfield 65, 3) := by decide +kernel
theorem dX2_look_5 : decode cX2_look 5 = .ok (.putfield 9, 3) := by decide +kernel
theorem dX2_look_8 : decode cX2_look 8 = .ok (.iconst 0, 1) := by decide +kernel
theorem dX2_look_9 : decode cX2_look 9 = .ok (.istore_n 2, 1) := by decide +kernel
theorem dX2_look_10 : decode cX2_look 10 = .ok (.iload_n 2, 1) := by decide +kernel
theorem dX2_look_11 : decode cX2_look 11 = .ok (.aload_n 0, 1) := by decide +kernel
theorem dX2_look_12 : decode cX2_look 12 = .ok (.getfield 9, 3) := by decide +kernel
theorem dX2_look_15 : decode cX2_look 15 = .ok (.if_icmp .ge 50, 3) := by decide +kernel
theorem dX2_look_18 : decode cX2_look 18 = .ok (.aload_n 0, 1) := by decide +kernel
theorem dX2_look_19 : decode cX2_look 19 = .ok (.getfield 15, 3) := by decide +kernel
theorem dX2_look_22 : decode cX2_look 22 = .ok (.iload_n 2, 1) := by decide +kernel
theorem dX2_look_23 : decode cX2_look 23 = .ok (.aload_n 1, 1) := by decide +kernel
theorem dX2_look_24 : decode cX2_look 24 = .ok (.iload_n 2, 1) := by decide +kernel
theorem dX2_look_25 : decode cX2_look 25 = .ok (.invokevirtual 68, 3) := by decide +kernel
theorem dX2_look_28 : decode cX2_look 28 = .ok (.iastore, 1) := by decide +kernel
theorem dX2_look_29 : decode cX2_look 29 = .ok (.aload_n 0, 1) := by decide +kernel
theorem dX2_look_30 : decode cX2_look 30 = .ok (.getfield 19, 3) := by decide +kernel
theorem dX2_look_33 : decode cX2_look 33 = .ok (.iload_n 2, 1) := by decide +kernel
theorem dX2_look_34 : decode cX2_look 34 = .ok (.aload_n 1, 1) := by decide +kernel
theorem dX2_look_35 : decode cX2_look 35 = .ok (.getfield 72, 3) := by decide +kernel
theorem dX2_look_38 : decode cX2_look 38 = .ok (.bipush 32, 2) := by decide +kernel
theorem dX2_look_40 : decode cX2_look 40 = .ok (.iload_n 2, 1) := by decide +kernel
theorem dX2_look_41 : decode cX2_look 41 = .ok (.iadd, 1) := by decide +kernel
theorem dX2_look_42 : decode cX2_look 42 = .ok (.iaload, 1) := by decide +kernel
theorem dX2_look_43 : decode cX2_look 43 = .ok (.iastore, 1) := by decide +kernel
theorem dX2_look_44 : decode cX2_look 44 = .ok (.aload_n 0, 1) := by decide +kernel
theorem dX2_look_45 : decode cX2_look 45 = .ok (.getfield 22, 3) := by decide +kernel
theorem dX2_look_48 : decode cX2_look 48 = .ok (.iload_n 2, 1) := by decide +kernel
theorem dX2_look_49 : decode cX2_look 49 = .ok (.aload_n 1, 1) := by decide +kernel
theorem dX2_look_50 : decode cX2_look 50 = .ok (.getfield 72, 3) := by decide +kernel
theorem dX2_look_53 : decode cX2_look 53 = .ok (.bipush 40, 2) := by decide +kernel
theorem dX2_look_55 : decode cX2_look 55 = .ok (.iload_n 2, 1) := by decide +kernel
theorem dX2_look_56 : decode cX2_look 56 = .ok (.iadd, 1) := by decide +kernel
theorem dX2_look_57 : decode cX2_look 57 = .ok (.iaload, 1) := by decide +kernel
theorem dX2_look_58 : decode cX2_look 58 = .ok (.iastore, 1) := by decide +kernel
theorem dX2_look_59 : decode cX2_look 59 = .ok (.iinc 2 1, 3) := by decide +kernel
theorem dX2_look_62 : decode cX2_look 62 = .ok (.goto (-52), 3) := by decide +kernel
theorem dX2_look_65 : decode cX2_look 65 = .ok (.iconst 0, 1) := by decide +kernel
theorem dX2_look_66 : decode cX2_look 66 = .ok (.istore_n 2, 1) := by decide +kernel
theorem dX2_look_67 : decode cX2_look 67 = .ok (.iload_n 2, 1) := by decide +kernel
theorem dX2_look_68 : decode cX2_look 68 = .ok (.aload_n 0, 1) := by decide +kernel
theorem dX2_look_69 : decode cX2_look 69 = .ok (.getfield 9, 3) := by decide +kernel
theorem dX2_look_72 : decode cX2_look 72 = .ok (.if_icmp .ge 39, 3) := by decide +kernel
theorem dX2_look_75 : decode cX2_look 75 = .ok (.iconst 0, 1) := by decide +kernel
theorem dX2_look_76 : decode cX2_look 76 = .ok (.istore_n 3, 1) := by decide +kernel
theorem dX2_look_77 : decode cX2_look 77 = .ok (.iload_n 3, 1) := by decide +kernel
theorem dX2_look_78 : decode cX2_look 78 = .ok (.iconst 4, 1) := by decide +kernel
theorem dX2_look_79 : decode cX2_look 79 = .ok (.if_icmp .ge 26, 3) := by decide +kernel
theorem dX2_look_82 : decode cX2_look 82 = .ok (.aload_n 0, 1) := by decide +kernel
theorem dX2_look_83 : decode cX2_look 83 = .ok (.getfield 25, 3) := by decide +kernel
theorem dX2_look_86 : decode cX2_look 86 = .ok (.iload_n 2, 1) := by decide +kernel
theorem dX2_look_87 : decode cX2_look 87 = .ok (.iconst 4, 1) := by decide +kernel
theorem dX2_look_88 : decode cX2_look 88 = .ok (.imul, 1) := by decide +kernel
theorem dX2_look_89 : decode cX2_look 89 = .ok (.iload_n 3, 1) := by decide +kernel
theorem dX2_look_90 : decode cX2_look 90 = .ok (.iadd, 1) := by decide +kernel
theorem dX2_look_91 : decode cX2_look 91 = .ok (.aload_n 0, 1) := by decide +kernel
theorem dX2_look_92 : decode cX2_look 92 = .ok (.aload_n 1, 1) := by decide +kernel
theorem dX2_look_93 : decode cX2_look 93 = .ok (.iload_n 2, 1) := by decide +kernel
theorem dX2_look_94 : decode cX2_look 94 = .ok (.iload_n 3, 1) := by decide +kernel
theorem dX2_look_95 : decode cX2_look 95 = .ok (.invokevirtual 75, 3) := by decide +kernel
theorem dX2_look_98 : decode cX2_look 98 = .ok (.iastore, 1) := by decide +kernel
theorem dX2_look_99 : decode cX2_look 99 = .ok (.iinc 3 1, 3) := by decide +kernel
theorem dX2_look_102 : decode cX2_look 102 = .ok (.goto (-25), 3) := by decide +kernel
theorem dX2_look_105 : decode cX2_look 105 = .ok (.iinc 2 1, 3) := by decide +kernel
theorem dX2_look_108 : decode cX2_look 108 = .ok (.goto (-41), 3) := by decide +kernel
theorem dX2_look_111 : decode cX2_look 111 = .ok (.return_, 1) := by decide +kernel
set_option maxRecDepth 20000 in
theorem ggX2_laterClashes_X4_hasBit : GoodIn wsX2_laterClashes wsX4_hasBit := goodIn_r _ [5] (by decide +kernel) (by decide +kernel)
set_option maxRecDepth 20000 in
theorem gX2_laterClashes_X4_hasBit_n79 : GoodIn wsX2_laterClashes (wsX4_hasBit) := ggX2_laterClashes_X4_hasBit
set_option maxRecDepth 20000 in
theorem ggX2_laterClashes_X0_sharedSquares : GoodIn wsX2_laterClashes wsX0_sharedSquares := goodIn_r _ [10, 11, 12, 13, 14, 9, 15, 16, 17, 18, 19, 20, 21, 22, 23, 24, 25, 26, 27, 28, 29, 47, 48] (by decide +kernel) (by decide +kernel)
set_option maxRecDepth 20000 in
theorem gX2_laterClashes_X0_sharedSquares : GoodIn wsX2_laterClashes (wsV RX2 83 RX0 yX0_sharedSquares wsX0_sharedSquares) := goodIn_app (goodIn_of _ (by decide +kernel)) ggX2_laterClashes_X0_sharedSquares
theorem dX2_laterClashes_0 : decode cX2_laterClashes 0 = .ok (.iconst 0, 1) := by decide +kernel
theorem dX2_laterClashes_1 : decode cX2_laterClashes 1 = .ok (.istore 4, 2) := by decide +kernel
theorem dX2_laterClashes_3 : decode cX2_laterClashes 3 = .ok (.aload_n 0, 1) := by decide +kernel
theorem dX2_laterClashes_4 : decode cX2_laterClashes 4 = .ok (.getfield 15, 3) := by decide +kernel
theorem dX2_laterClashes_7 : decode cX2_laterClashes 7 = .ok (.iload_n 2, 1) := by decide +kernel
theorem dX2_laterClashes_8 : decode cX2_laterClashes 8 = .ok (.iaload, 1) := by decide +kernel
theorem dX2_laterClashes_9 : decode cX2_laterClashes 9 = .ok (.iload_n 3, 1) := by decide +kernel
theorem dX2_laterClashes_10 : decode cX2_laterClashes 10 = .ok (.invokestatic 79, 3) := by decide +kernel
theorem dX2_laterClashes_13 : decode cX2_laterClashes 13 = .ok (.ifCond .ne 6, 3) := by decide +kernel
theorem dX2_laterClashes_16 : decode cX2_laterClashes 16 = .ok (.iload 4, 2) := by decide +kernel
theorem dX2_laterClashes_18 : decode cX2_laterClashes 18 = .ok (.ireturn, 1) := by decide +kernel
theorem dX2_laterClashes_19 : decode cX2_laterClashes 19 = .ok (.iload_n 2, 1) := by decide +kernel
theorem dX2_laterClashes_20 : decode cX2_laterClashes 20 = .ok (.iconst 1, 1) := by decide +kernel
theorem dX2_laterClashes_21 : decode cX2_laterClashes 21 = .ok (.iadd, 1) := by decide +kernel
theorem dX2_laterClashes_22 : decode cX2_laterClashes 22 = .ok (.istore 5, 2) := by decide +kernel
theorem dX2_laterClashes_24 : decode cX2_laterClashes 24 = .ok (.iload 5, 2) := by decide +kernel
theorem dX2_laterClashes_26 : decode cX2_laterClashes 26 = .ok (.aload_n 0, 1) := by decide +kernel
theorem dX2_laterClashes_27 : decode cX2_laterClashes 27 = .ok (.getfield 9, 3) := by decide +kernel
theorem dX2_laterClashes_30 : decode cX2_laterClashes 30 = .ok (.if_icmp .ge 66, 3) := by decide +kernel
theorem dX2_laterClashes_33 : decode cX2_laterClashes 33 = .ok (.iconst 0, 1) := by decide +kernel
theorem dX2_laterClashes_34 : decode cX2_laterClashes 34 = .ok (.istore 6, 2) := by decide +kernel
theorem dX2_laterClashes_36 : decode cX2_laterClashes 36 = .ok (.iload 6, 2) := by decide +kernel
theorem dX2_laterClashes_38 : decode cX2_laterClashes 38 = .ok (.iconst 4, 1) := by decide +kernel
theorem dX2_laterClashes_39 : decode cX2_laterClashes 39 = .ok (.if_icmp .ge 51, 3) := by decide +kernel
theorem dX2_laterClashes_42 : decode cX2_laterClashes 42 = .ok (.aload_n 0, 1) := by decide +kernel
theorem dX2_laterClashes_43 : decode cX2_laterClashes 43 = .ok (.getfield 15, 3) := by decide +kernel
theorem dX2_laterClashes_46 : decode cX2_laterClashes 46 = .ok (.iload 5, 2) := by decide +kernel
theorem dX2_laterClashes_48 : decode cX2_laterClashes 48 = .ok (.iaload, 1) := by decide +kernel
theorem dX2_laterClashes_49 : decode cX2_laterClashes 49 = .ok (.iload 6, 2) := by decide +kernel
theorem dX2_laterClashes_51 : decode cX2_laterClashes 51 = .ok (.invokestatic 79, 3) := by decide +kernel
theorem dX2_laterClashes_54 : decode cX2_laterClashes 54 = .ok (.ifCond .eq 30, 3) := by decide +kernel
theorem dX2_laterClashes_57 : decode cX2_laterClashes 57 = .ok (.aload_n 1, 1) := by decide +kernel
theorem dX2_laterClashes_58 : decode cX2_laterClashes 58 = .ok (.iload_n 2, 1) := by decide +kernel
theorem dX2_laterClashes_59 : decode cX2_laterClashes 59 = .ok (.iload_n 3, 1) := by decide +kernel
theorem dX2_laterClashes_60 : decode cX2_laterClashes 60 = .ok (.iload 5, 2) := by decide +kernel
theorem dX2_laterClashes_62 : decode cX2_laterClashes 62 = .ok (.iload 6, 2) := by decide +kernel
theorem dX2_laterClashes_64 : decode cX2_laterClashes 64 = .ok (.invokevirtual 83, 3) := by decide +kernel
theorem dX2_laterClashes_67 : decode cX2_laterClashes 67 = .ok (.ifCond .le 17, 3) := by decide +kernel
theorem dX2_laterClashes_70 : decode cX2_laterClashes 70 = .ok (.iload 4, 2) := by decide +kernel
theorem dX2_laterClashes_72 : decode cX2_laterClashes 72 = .ok (.iconst 1, 1) := by decide +kernel
theorem dX2_laterClashes_73 : decode cX2_laterClashes 73 = .ok (.iload 5, 2) := by decide +kernel
theorem dX2_laterClashes_75 : decode cX2_laterClashes 75 = .ok (.iconst 4, 1) := by decide +kernel
theorem dX2_laterClashes_76 : decode cX2_laterClashes 76 = .ok (.imul, 1) := by decide +kernel
theorem dX2_laterClashes_77 : decode cX2_laterClashes 77 = .ok (.iload 6, 2) := by decide +kernel
theorem dX2_laterClashes_79 : decode cX2_laterClashes 79 = .ok (.iadd, 1) := by decide +kernel
theorem dX2_laterClashes_80 : decode cX2_laterClashes 80 = .ok (.ishl, 1) := by decide +kernel
theorem dX2_laterClashes_81 : decode cX2_laterClashes 81 = .ok (.ior, 1) := by decide +kernel
theorem dX2_laterClashes_82 : decode cX2_laterClashes 82 = .ok (.istore 4, 2) := by decide +kernel
theorem dX2_laterClashes_84 : decode cX2_laterClashes 84 = .ok (.iinc 6 1, 3) := by decide +kernel
theorem dX2_laterClashes_87 : decode cX2_laterClashes 87 = .ok (.goto (-51), 3) := by decide +kernel
theorem dX2_laterClashes_90 : decode cX2_laterClashes 90 = .ok (.iinc 5 1, 3) := by decide +kernel
theorem dX2_laterClashes_93 : decode cX2_laterClashes 93 = .ok (.goto (-69), 3) := by decide +kernel
theorem dX2_laterClashes_96 : decode cX2_laterClashes 96 = .ok (.iload 4, 2) := by decide +kernel
theorem dX2_laterClashes_98 : decode cX2_laterClashes 98 = .ok (.ireturn, 1) := by decide +kernel
theorem dX2_clashingPairs_0 : decode cX2_clashingPairs 0 = .ok (.iconst 0, 1) := by decide +kernel
theorem dX2_clashingPairs_1 : decode cX2_clashingPairs 1 = .ok (.istore_n 1, 1) := by decide +kernel
theorem dX2_clashingPairs_2 : decode cX2_clashingPairs 2 = .ok (.iconst 0, 1) := by decide +kernel
theorem dX2_clashingPairs_3 : decode cX2_clashingPairs 3 = .ok (.istore_n 2, 1) := by decide +kernel
theorem dX2_clashingPairs_4 : decode cX2_clashingPairs 4 = .ok (.iload_n 2, 1) := by decide +kernel
theorem dX2_clashingPairs_5 : decode cX2_clashingPairs 5 = .ok (.aload_n 0, 1) := by decide +kernel
theorem dX2_clashingPairs_6 : decode cX2_clashingPairs 6 = .ok (.getfield 9, 3) := by decide +kernel
theorem dX2_clashingPairs_9 : decode cX2_clashingPairs 9 = .ok (.if_icmp .ge 75, 3) := by decide +kernel
theorem dX2_clashingPairs_12 : decode cX2_clashingPairs 12 = .ok (.iconst 0, 1) := by decide +kernel
theorem dX2_clashingPairs_13 : decode cX2_clashingPairs 13 = .ok (.istore_n 3, 1) := by decide +kernel
theorem dX2_clashingPairs_14 : decode cX2_clashingPairs 14 = .ok (.iconst 0, 1) := by decide +kernel
theorem dX2_clashingPairs_15 : decode cX2_clashingPairs 15 = .ok (.istore 4, 2) := by decide +kernel
theorem dX2_clashingPairs_17 : decode cX2_clashingPairs 17 = .ok (.iload 4, 2) := by decide +kernel
theorem dX2_clashingPairs_19 : decode cX2_clashingPairs 19 = .ok (.iconst 4, 1) := by decide +kernel
theorem dX2_clashingPairs_20 : decode cX2_clashingPairs 20 = .ok (.if_icmp .ge 23, 3) := by decide +kernel
theorem dX2_clashingPairs_23 : decode cX2_clashingPairs 23 = .ok (.iload_n 3, 1) := by decide +kernel
theorem dX2_clashingPairs_24 : decode cX2_clashingPairs 24 = .ok (.aload_n 0, 1) := by decide +kernel
theorem dX2_clashingPairs_25 : decode cX2_clashingPairs 25 = .ok (.getfield 25, 3) := by decide +kernel
theorem dX2_clashingPairs_28 : decode cX2_clashingPairs 28 = .ok (.iload_n 2, 1) := by decide +kernel
theorem dX2_clashingPairs_29 : decode cX2_clashingPairs 29 = .ok (.iconst 4, 1) := by decide +kernel
theorem dX2_clashingPairs_30 : decode cX2_clashingPairs 30 = .ok (.imul, 1) := by decide +kernel
theorem dX2_clashingPairs_31 : decode cX2_clashingPairs 31 = .ok (.iload 4, 2) := by decide +kernel
theorem dX2_clashingPairs_33 : decode cX2_clashingPairs 33 = .ok (.iadd, 1) := by decide +kernel
theorem dX2_clashingPairs_34 : decode cX2_clashingPairs 34 = .ok (.iaload, 1) := by decide +kernel
theorem dX2_clashingPairs_35 : decode cX2_clashingPairs 35 = .ok (.ior, 1) := by decide +kernel
theorem dX2_clashingPairs_36 : decode cX2_clashingPairs 36 = .ok (.istore_n 3, 1) := by decide +kernel
theorem dX2_clashingPairs_37 : decode cX2_clashingPairs 37 = .ok (.iinc 4 1, 3) := by decide +kernel
theorem dX2_clashingPairs_40 : decode cX2_clashingPairs 40 = .ok (.goto (-23), 3) := by decide +kernel
theorem dX2_clashingPairs_43 : decode cX2_clashingPairs 43 = .ok (.iload_n 2, 1) := by decide +kernel
theorem dX2_clashingPairs_44 : decode cX2_clashingPairs 44 = .ok (.iconst 1, 1) := by decide +kernel
theorem dX2_clashingPairs_45 : decode cX2_clashingPairs 45 = .ok (.iadd, 1) := by decide +kernel
theorem dX2_clashingPairs_46 : decode cX2_clashingPairs 46 = .ok (.istore 4, 2) := by decide +kernel
theorem dX2_clashingPairs_48 : decode cX2_clashingPairs 48 = .ok (.iload 4, 2) := by decide +kernel
theorem dX2_clashingPairs_50 : decode cX2_clashingPairs 50 = .ok (.aload_n 0, 1) := by decide +kernel
theorem dX2_clashingPairs_51 : decode cX2_clashingPairs 51 = .ok (.getfield 9, 3) := by decide +kernel
theorem dX2_clashingPairs_54 : decode cX2_clashingPairs 54 = .ok (.if_icmp .ge 24, 3) := by decide +kernel
theorem dX2_clashingPairs_57 : decode cX2_clashingPairs 57 = .ok (.iload_n 3, 1) := by decide +kernel
theorem dX2_clashingPairs_58 : decode cX2_clashingPairs 58 = .ok (.iload 4, 2) := by decide +kernel
theorem dX2_clashingPairs_60 : decode cX2_clashingPairs 60 = .ok (.iconst 4, 1) := by decide +kernel
theorem dX2_clashingPairs_61 : decode cX2_clashingPairs 61 = .ok (.imul, 1) := by decide +kernel
theorem dX2_clashingPairs_62 : decode cX2_clashingPairs 62 = .ok (.iushr, 1) := by decide +kernel
theorem dX2_clashingPairs_63 : decode cX2_clashingPairs 63 = .ok (.bipush 15, 2) := by decide +kernel
theorem dX2_clashingPairs_65 : decode cX2_clashingPairs 65 = .ok (.iand, 1) := by decide +kernel
theorem dX2_clashingPairs_66 : decode cX2_clashingPairs 66 = .ok (.ifCond .eq 6, 3) := by decide +kernel
theorem dX2_clashingPairs_69 : decode cX2_clashingPairs 69 = .ok (.iinc 1 1, 3) := by decide +kernel
theorem dX2_clashingPairs_72 : decode cX2_clashingPairs 72 = .ok (.iinc 4 1, 3) := by decide +kernel
theorem dX2_clashingPairs_75 : decode cX2_clashingPairs 75 = .ok (.goto (-27), 3) := by decide +kernel
theorem dX2_clashingPairs_78 : decode cX2_clashingPairs 78 = .ok (.iinc 2 1, 3) := by decide +kernel
theorem dX2_clashingPairs_81 : decode cX2_clashingPairs 81 = .ok (.goto (-77), 3) := by decide +kernel
theorem dX2_clashingPairs_84 : decode cX2_clashingPairs 84 = .ok (.iload_n 1, 1) := by decide +kernel
theorem dX2_clashingPairs_85 : decode cX2_clashingPairs 85 = .ok (.ireturn, 1) := by decide +kernel
set_option maxRecDepth 20000 in
theorem ggX2_findHeaviest_X2_findTop : GoodIn wsX2_findHeaviest wsX2_findTop := goodIn_r _ [11, 12, 1, 13, 14, 2, 15, 16, 17, 18, 10, 19, 5, 20, 21, 22, 23, 24, 25, 26, 27, 28, 29, 30, 31, 4, 32, 33, 34, 35, 36, 37, 38, 39, 40, 41, 42, 43, 44, 45, 46, 47, 48, 49, 50, 51, 52, 53, 54, 55, 56, 57] (by decide +kernel) (by decide +kernel)
set_option maxRecDepth 20000 in
theorem gX2_findHeaviest_X2_findTop : GoodIn wsX2_findHeaviest (wsV RX2 87 RX2 yX2_findTop wsX2_findTop) := goodIn_app (goodIn_of _ (by decide +kernel)) ggX2_findHeaviest_X2_findTop
theorem dX2_findHeaviest_0 : decode cX2_findHeaviest 0 = .ok (.iconst 0, 1) := by decide +kernel
theorem dX2_findHeaviest_1 : decode cX2_findHeaviest 1 = .ok (.istore_n 2, 1) := by decide +kernel
theorem dX2_findHeaviest_2 : decode cX2_findHeaviest 2 = .ok (.iload_n 2, 1) := by decide +kernel
theorem dX2_findHeaviest_3 : decode cX2_findHeaviest 3 = .ok (.aload_n 0, 1) := by decide +kernel
theorem dX2_findHeaviest_4 : decode cX2_findHeaviest 4 = .ok (.getfield 9, 3) := by decide +kernel
theorem dX2_findHeaviest_7 : decode cX2_findHeaviest 7 = .ok (.if_icmp .ge 66, 3) := by decide +kernel
theorem dX2_findHeaviest_10 : decode cX2_findHeaviest 10 = .ok (.aload_n 0, 1) := by decide +kernel
theorem dX2_findHeaviest_11 : decode cX2_findHeaviest 11 = .ok (.getfield 28, 3) := by decide +kernel
theorem dX2_findHeaviest_14 : decode cX2_findHeaviest 14 = .ok (.iload_n 2, 1) := by decide +kernel
theorem dX2_findHeaviest_15 : decode cX2_findHeaviest 15 = .ok (.iload_n 2, 1) := by decide +kernel
theorem dX2_findHeaviest_16 : decode cX2_findHeaviest 16 = .ok (.iload_n 1, 1) := by decide +kernel
theorem dX2_findHeaviest_17 : decode cX2_findHeaviest 17 = .ok (.if_icmp .ne 7, 3) := by decide +kernel
theorem dX2_findHeaviest_20 : decode cX2_findHeaviest 20 = .ok (.iconst 0, 1) := by decide +kernel
theorem dX2_findHeaviest_21 : decode cX2_findHeaviest 21 = .ok (.goto 9, 3) := by decide +kernel
theorem dX2_findHeaviest_24 : decode cX2_findHeaviest 24 = .ok (.aload_n 0, 1) := by decide +kernel
theorem dX2_findHeaviest_25 : decode cX2_findHeaviest 25 = .ok (.getfield 15, 3) := by decide +kernel
theorem dX2_findHeaviest_28 : decode cX2_findHeaviest 28 = .ok (.iload_n 2, 1) := by decide +kernel
theorem dX2_findHeaviest_29 : decode cX2_findHeaviest 29 = .ok (.iaload, 1) := by decide +kernel
theorem dX2_findHeaviest_30 : decode cX2_findHeaviest 30 = .ok (.iastore, 1) := by decide +kernel
theorem dX2_findHeaviest_31 : decode cX2_findHeaviest 31 = .ok (.aload_n 0, 1) := by decide +kernel
theorem dX2_findHeaviest_32 : decode cX2_findHeaviest 32 = .ok (.getfield 34, 3) := by decide +kernel
theorem dX2_findHeaviest_35 : decode cX2_findHeaviest 35 = .ok (.iload_n 2, 1) := by decide +kernel
theorem dX2_findHeaviest_36 : decode cX2_findHeaviest 36 = .ok (.iconst 1, 1) := by decide +kernel
theorem dX2_findHeaviest_37 : decode cX2_findHeaviest 37 = .ok (.bastore, 1) := by decide +kernel
theorem dX2_findHeaviest_38 : decode cX2_findHeaviest 38 = .ok (.iconst 0, 1) := by decide +kernel
theorem dX2_findHeaviest_39 : decode cX2_findHeaviest 39 = .ok (.istore_n 3, 1) := by decide +kernel
theorem dX2_findHeaviest_40 : decode cX2_findHeaviest 40 = .ok (.iload_n 3, 1) := by decide +kernel
theorem dX2_findHeaviest_41 : decode cX2_findHeaviest 41 = .ok (.iconst 4, 1) := by decide +kernel
theorem dX2_findHeaviest_42 : decode cX2_findHeaviest 42 = .ok (.if_icmp .ge 25, 3) := by decide +kernel
theorem dX2_findHeaviest_45 : decode cX2_findHeaviest 45 = .ok (.aload_n 0, 1) := by decide +kernel
theorem dX2_findHeaviest_46 : decode cX2_findHeaviest 46 = .ok (.getfield 38, 3) := by decide +kernel
theorem dX2_findHeaviest_49 : decode cX2_findHeaviest 49 = .ok (.iload_n 2, 1) := by decide +kernel
theorem dX2_findHeaviest_50 : decode cX2_findHeaviest 50 = .ok (.iconst 4, 1) := by decide +kernel
theorem dX2_findHeaviest_51 : decode cX2_findHeaviest 51 = .ok (.imul, 1) := by decide +kernel
theorem dX2_findHeaviest_52 : decode cX2_findHeaviest 52 = .ok (.iload_n 3, 1) := by decide +kernel
theorem dX2_findHeaviest_53 : decode cX2_findHeaviest 53 = .ok (.iadd, 1) := by decide +kernel
theorem dX2_findHeaviest_54 : decode cX2_findHeaviest 54 = .ok (.aload_n 0, 1) := by decide +kernel
theorem dX2_findHeaviest_55 : decode cX2_findHeaviest 55 = .ok (.getfield 19, 3) := by decide +kernel
theorem dX2_findHeaviest_58 : decode cX2_findHeaviest 58 = .ok (.iload_n 2, 1) := by decide +kernel
theorem dX2_findHeaviest_59 : decode cX2_findHeaviest 59 = .ok (.iaload, 1) := by decide +kernel
theorem dX2_findHeaviest_60 : decode cX2_findHeaviest 60 = .ok (.iastore, 1) := by decide +kernel
theorem dX2_findHeaviest_61 : decode cX2_findHeaviest 61 = .ok (.iinc 3 1, 3) := by decide +kernel
theorem dX2_findHeaviest_64 : decode cX2_findHeaviest 64 = .ok (.goto (-24), 3) := by decide +kernel
theorem dX2_findHeaviest_67 : decode cX2_findHeaviest 67 = .ok (.iinc 2 1, 3) := by decide +kernel
theorem dX2_findHeaviest_70 : decode cX2_findHeaviest 70 = .ok (.goto (-68), 3) := by decide +kernel
theorem dX2_findHeaviest_73 : decode cX2_findHeaviest 73 = .ok (.aload_n 0, 1) := by decide +kernel
theorem dX2_findHeaviest_74 : decode cX2_findHeaviest 74 = .ok (.invokevirtual 87, 3) := by decide +kernel
theorem dX2_findHeaviest_77 : decode cX2_findHeaviest 77 = .ok (.ireturn, 1) := by decide +kernel
set_option maxRecDepth 20000 in
theorem ggX2_findBest_X2_findHeaviest : GoodIn wsX2_findBest wsX2_findHeaviest := goodIn_r _ [12, 13, 14, 15, 16, 17, 18, 19, 20, 21, 11, 22, 23, 24, 25, 26, 27, 28, 29, 30, 31, 32, 33, 34, 35, 36, 37, 38, 39, 40, 41, 42, 43, 44, 45, 46, 2, 4, 5, 6, 7, 47, 48, 49, 50, 51, 52, 53, 54, 55, 56, 57, 58, 59, 60, 61, 62, 63] (by decide +kernel) (by decide +kernel)
set_option maxRecDepth 20000 in
theorem gX2_findBest_X2_findHeaviest : GoodIn wsX2_findBest (wsV RX2 91 RX2 yX2_findHeaviest wsX2_findHeaviest) := goodIn_app (goodIn_of _ (by decide +kernel)) ggX2_findBest_X2_findHeaviest
theorem dX2_findBest_0 : decode cX2_findBest 0 = .ok (.aload_n 0, 1) := by decide +kernel
theorem dX2_findBest_1 : decode cX2_findBest 1 = .ok (.aload_n 0, 1) := by decide +kernel
theorem dX2_findBest_2 : decode cX2_findBest 2 = .ok (.iconst (-1), 1) := by decide +kernel
theorem dX2_findBest_3 : decode cX2_findBest 3 = .ok (.invokevirtual 91, 3) := by decide +kernel
theorem dX2_findBest_6 : decode cX2_findBest 6 = .ok (.putfield 59, 3) := by decide +kernel
theorem dX2_findBest_9 : decode cX2_findBest 9 = .ok (.aload_n 0, 1) := by decide +kernel
theorem dX2_findBest_10 : decode cX2_findBest 10 = .ok (.getfield 50, 3) := by decide +kernel
theorem dX2_findBest_13 : decode cX2_findBest 13 = .ok (.iconst 0, 1) := by decide +kernel
theorem dX2_findBest_14 : decode cX2_findBest 14 = .ok (.aload_n 0, 1) := by decide +kernel
theorem dX2_findBest_15 : decode cX2_findBest 15 = .ok (.getfield 56, 3) := by decide +kernel
theorem dX2_findBest_18 : decode cX2_findBest 18 = .ok (.iconst 0, 1) := by decide +kernel
theorem dX2_findBest_19 : decode cX2_findBest 19 = .ok (.bipush 8, 2) := by decide +kernel
theorem dX2_findBest_21 : decode cX2_findBest 21 = .ok (.invokestatic 94, 3) := by decide +kernel
theorem dX2_findBest_24 : decode cX2_findBest 24 = .ok (.return_, 1) := by decide +kernel
set_option maxRecDepth 20000 in
theorem ggX2_findWithoutEach_X2_findHeaviest : GoodIn wsX2_findWithoutEach wsX2_findHeaviest := goodIn_r _ [7, 1, 8, 9, 10, 11, 12, 13, 14, 15, 6, 16, 17, 18, 19, 20, 21, 22, 23, 24, 25, 26, 27, 28, 29, 30, 31, 32, 33, 34, 35, 36, 37, 38, 39, 40, 41, 42, 43, 44, 45, 46, 47, 48, 49, 50, 51, 52, 53, 54, 55, 56, 57, 58, 59, 60, 61, 62] (by decide +kernel) (by decide +kernel)
set_option maxRecDepth 20000 in
theorem gX2_findWithoutEach_X2_findHeaviest : GoodIn wsX2_findWithoutEach (wsV RX2 91 RX2 yX2_findHeaviest wsX2_findHeaviest) := goodIn_app (goodIn_of _ (by decide +kernel)) ggX2_findWithoutEach_X2_findHeaviest
theorem dX2_findWithoutEach_0 : decode cX2_findWithoutEach 0 = .ok (.iconst 0, 1) := by decide +kernel
theorem dX2_findWithoutEach_1 : decode cX2_findWithoutEach 1 = .ok (.istore_n 1, 1) := by decide +kernel
theorem dX2_findWithoutEach_2 : decode cX2_findWithoutEach 2 = .ok (.iload_n 1, 1) := by decide +kernel
theorem dX2_findWithoutEach_3 : decode cX2_findWithoutEach 3 = .ok (.aload_n 0, 1) := by decide +kernel
theorem dX2_findWithoutEach_4 : decode cX2_findWithoutEach 4 = .ok (.getfield 9, 3) := by decide +kernel
theorem dX2_findWithoutEach_7 : decode cX2_findWithoutEach 7 = .ok (.if_icmp .ge 20, 3) := by decide +kernel
theorem dX2_findWithoutEach_10 : decode cX2_findWithoutEach 10 = .ok (.aload_n 0, 1) := by decide +kernel
theorem dX2_findWithoutEach_11 : decode cX2_findWithoutEach 11 = .ok (.getfield 62, 3) := by decide +kernel
theorem dX2_findWithoutEach_14 : decode cX2_findWithoutEach 14 = .ok (.iload_n 1, 1) := by decide +kernel
theorem dX2_findWithoutEach_15 : decode cX2_findWithoutEach 15 = .ok (.aload_n 0, 1) := by decide +kernel
theorem dX2_findWithoutEach_16 : decode cX2_findWithoutEach 16 = .ok (.iload_n 1, 1) := by decide +kernel
theorem dX2_findWithoutEach_17 : decode cX2_findWithoutEach 17 = .ok (.invokevirtual 91, 3) := by decide +kernel
theorem dX2_findWithoutEach_20 : decode cX2_findWithoutEach 20 = .ok (.iastore, 1) := by decide +kernel
theorem dX2_findWithoutEach_21 : decode cX2_findWithoutEach 21 = .ok (.iinc 1 1, 3) := by decide +kernel
theorem dX2_findWithoutEach_24 : decode cX2_findWithoutEach 24 = .ok (.goto (-22), 3) := by decide +kernel
theorem dX2_findWithoutEach_27 : decode cX2_findWithoutEach 27 = .ok (.return_, 1) := by decide +kernel
set_option maxRecDepth 20000 in
theorem ggX2_findRoom_X2_findTop : GoodIn wsX2_findRoom wsX2_findTop := goodIn_r _ [11, 12, 2, 13, 14, 3, 15, 16, 17, 18, 10, 19, 6, 20, 21, 22, 23, 24, 25, 26, 27, 28, 29, 30, 31, 5, 32, 33, 34, 35, 36, 37, 38, 39, 40, 41, 42, 43, 44, 45, 46, 47, 48, 49, 50, 51, 52, 53, 54, 55, 56, 57] (by decide +kernel) (by decide +kernel)
set_option maxRecDepth 20000 in
theorem gX2_findRoom_X2_findTop : GoodIn wsX2_findRoom (wsV RX2 87 RX2 yX2_findTop wsX2_findTop) := goodIn_app (goodIn_of _ (by decide +kernel)) ggX2_findRoom_X2_findTop
theorem dX2_findRoom_0 : decode cX2_findRoom 0 = .ok (.aload_n 0, 1) := by decide +kernel
theorem dX2_findRoom_1 : decode cX2_findRoom 1 = .ok (.getfield 22, 3) := by decide +kernel
theorem dX2_findRoom_4 : decode cX2_findRoom 4 = .ok (.iload_n 1, 1) := by decide +kernel
theorem dX2_findRoom_5 : decode cX2_findRoom 5 = .ok (.iaload, 1) := by decide +kernel
theorem dX2_findRoom_6 : decode cX2_findRoom 6 = .ok (.iconst (-1), 1) := by decide +kernel
theorem dX2_findRoom_7 : decode cX2_findRoom 7 = .ok (.if_icmp .eq 5, 3) := by decide +kernel
theorem dX2_findRoom_10 : decode cX2_findRoom 10 = .ok (.iconst (-1), 1) := by decide +kernel
theorem dX2_findRoom_11 : decode cX2_findRoom 11 = .ok (.ireturn, 1) := by decide +kernel
theorem dX2_findRoom_12 : decode cX2_findRoom 12 = .ok (.iconst 0, 1) := by decide +kernel
theorem dX2_findRoom_13 : decode cX2_findRoom 13 = .ok (.istore_n 2, 1) := by decide +kernel
theorem dX2_findRoom_14 : decode cX2_findRoom 14 = .ok (.iconst 0, 1) := by decide +kernel
theorem dX2_findRoom_15 : decode cX2_findRoom 15 = .ok (.istore_n 3, 1) := by decide +kernel
theorem dX2_findRoom_16 : decode cX2_findRoom 16 = .ok (.iload_n 3, 1) := by decide +kernel
theorem dX2_findRoom_17 : decode cX2_findRoom 17 = .ok (.aload_n 0, 1) := by decide +kernel
theorem dX2_findRoom_18 : decode cX2_findRoom 18 = .ok (.getfield 9, 3) := by decide +kernel
theorem dX2_findRoom_21 : decode cX2_findRoom 21 = .ok (.if_icmp .ge 128, 3) := by decide +kernel
theorem dX2_findRoom_24 : decode cX2_findRoom 24 = .ok (.iload_n 3, 1) := by decide +kernel
theorem dX2_findRoom_25 : decode cX2_findRoom 25 = .ok (.iload_n 1, 1) := by decide +kernel
theorem dX2_findRoom_26 : decode cX2_findRoom 26 = .ok (.if_icmp .eq 13, 3) := by decide +kernel
theorem dX2_findRoom_29 : decode cX2_findRoom 29 = .ok (.aload_n 0, 1) := by decide +kernel
theorem dX2_findRoom_30 : decode cX2_findRoom 30 = .ok (.getfield 22, 3) := by decide +kernel
theorem dX2_findRoom_33 : decode cX2_findRoom 33 = .ok (.iload_n 3, 1) := by decide +kernel
theorem dX2_findRoom_34 : decode cX2_findRoom 34 = .ok (.iaload, 1) := by decide +kernel
theorem dX2_findRoom_35 : decode cX2_findRoom 35 = .ok (.iconst (-1), 1) := by decide +kernel
theorem dX2_findRoom_36 : decode cX2_findRoom 36 = .ok (.if_icmp .eq 7, 3) := by decide +kernel
theorem dX2_findRoom_39 : decode cX2_findRoom 39 = .ok (.iconst 1, 1) := by decide +kernel
theorem dX2_findRoom_40 : decode cX2_findRoom 40 = .ok (.goto 4, 3) := by decide +kernel
theorem dX2_findRoom_43 : decode cX2_findRoom 43 = .ok (.iconst 0, 1) := by decide +kernel
theorem dX2_findRoom_44 : decode cX2_findRoom 44 = .ok (.istore 4, 2) := by decide +kernel
theorem dX2_findRoom_46 : decode cX2_findRoom 46 = .ok (.aload_n 0, 1) := by decide +kernel
theorem dX2_findRoom_47 : decode cX2_findRoom 47 = .ok (.getfield 28, 3) := by decide +kernel
theorem dX2_findRoom_50 : decode cX2_findRoom 50 = .ok (.iload_n 3, 1) := by decide +kernel
theorem dX2_findRoom_51 : decode cX2_findRoom 51 = .ok (.iload 4, 2) := by decide +kernel
theorem dX2_findRoom_53 : decode cX2_findRoom 53 = .ok (.ifCond .eq 12, 3) := by decide +kernel
theorem dX2_findRoom_56 : decode cX2_findRoom 56 = .ok (.aload_n 0, 1) := by decide +kernel
theorem dX2_findRoom_57 : decode cX2_findRoom 57 = .ok (.getfield 15, 3) := by decide +kernel
theorem dX2_findRoom_60 : decode cX2_findRoom 60 = .ok (.iload_n 3, 1) := by decide +kernel
theorem dX2_findRoom_61 : decode cX2_findRoom 61 = .ok (.iaload, 1) := by decide +kernel
theorem dX2_findRoom_62 : decode cX2_findRoom 62 = .ok (.goto 4, 3) := by decide +kernel
theorem dX2_findRoom_65 : decode cX2_findRoom 65 = .ok (.iconst 0, 1) := by decide +kernel
theorem dX2_findRoom_66 : decode cX2_findRoom 66 = .ok (.iastore, 1) := by decide +kernel
theorem dX2_findRoom_67 : decode cX2_findRoom 67 = .ok (.aload_n 0, 1) := by decide +kernel
theorem dX2_findRoom_68 : decode cX2_findRoom 68 = .ok (.getfield 34, 3) := by decide +kernel
theorem dX2_findRoom_71 : decode cX2_findRoom 71 = .ok (.iload_n 3, 1) := by decide +kernel
theorem dX2_findRoom_72 : decode cX2_findRoom 72 = .ok (.iload 4, 2) := by decide +kernel
theorem dX2_findRoom_74 : decode cX2_findRoom 74 = .ok (.ifCond .ne 7, 3) := by decide +kernel
theorem dX2_findRoom_77 : decode cX2_findRoom 77 = .ok (.iconst 1, 1) := by decide +kernel
theorem dX2_findRoom_78 : decode cX2_findRoom 78 = .ok (.goto 4, 3) := by decide +kernel
theorem dX2_findRoom_81 : decode cX2_findRoom 81 = .ok (.iconst 0, 1) := by decide +kernel
theorem dX2_findRoom_82 : decode cX2_findRoom 82 = .ok (.bastore, 1) := by decide +kernel
theorem dX2_findRoom_83 : decode cX2_findRoom 83 = .ok (.iconst 0, 1) := by decide +kernel
theorem dX2_findRoom_84 : decode cX2_findRoom 84 = .ok (.istore 5, 2) := by decide +kernel
theorem dX2_findRoom_86 : decode cX2_findRoom 86 = .ok (.iload 5, 2) := by decide +kernel
theorem dX2_findRoom_88 : decode cX2_findRoom 88 = .ok (.iconst 4, 1) := by decide +kernel
theorem dX2_findRoom_89 : decode cX2_findRoom 89 = .ok (.if_icmp .ge 36, 3) := by decide +kernel
theorem dX2_findRoom_92 : decode cX2_findRoom 92 = .ok (.aload_n 0, 1) := by decide +kernel
theorem dX2_findRoom_93 : decode cX2_findRoom 93 = .ok (.getfield 38, 3) := by decide +kernel
theorem dX2_findRoom_96 : decode cX2_findRoom 96 = .ok (.iload_n 3, 1) := by decide +kernel
theorem dX2_findRoom_97 : decode cX2_findRoom 97 = .ok (.iconst 4, 1) := by decide +kernel
theorem dX2_findRoom_98 : decode cX2_findRoom 98 = .ok (.imul, 1) := by decide +kernel
theorem dX2_findRoom_99 : decode cX2_findRoom 99 = .ok (.iload 5, 2) := by decide +kernel
theorem dX2_findRoom_101 : decode cX2_findRoom 101 = .ok (.iadd, 1) := by decide +kernel
theorem dX2_findRoom_102 : decode cX2_findRoom 102 = .ok (.aload_n 0, 1) := by decide +kernel
theorem dX2_findRoom_103 : decode cX2_findRoom 103 = .ok (.getfield 22, 3) := by decide +kernel
theorem dX2_findRoom_106 : decode cX2_findRoom 106 = .ok (.iload_n 3, 1) := by decide +kernel
theorem dX2_findRoom_107 : decode cX2_findRoom 107 = .ok (.iaload, 1) := by decide +kernel
theorem dX2_findRoom_108 : decode cX2_findRoom 108 = .ok (.iload 5, 2) := by decide +kernel
theorem dX2_findRoom_110 : decode cX2_findRoom 110 = .ok (.if_icmp .ne 7, 3) := by decide +kernel
theorem dX2_findRoom_113 : decode cX2_findRoom 113 = .ok (.iconst 1, 1) := by decide +kernel
theorem dX2_findRoom_114 : decode cX2_findRoom 114 = .ok (.goto 4, 3) := by decide +kernel
theorem dX2_findRoom_117 : decode cX2_findRoom 117 = .ok (.iconst 0, 1) := by decide +kernel
theorem dX2_findRoom_118 : decode cX2_findRoom 118 = .ok (.iastore, 1) := by decide +kernel
theorem dX2_findRoom_119 : decode cX2_findRoom 119 = .ok (.iinc 5 1, 3) := by decide +kernel
theorem dX2_findRoom_122 : decode cX2_findRoom 122 = .ok (.goto (-36), 3) := by decide +kernel
theorem dX2_findRoom_125 : decode cX2_findRoom 125 = .ok (.iload_n 2, 1) := by decide +kernel
theorem dX2_findRoom_126 : decode cX2_findRoom 126 = .ok (.aload_n 0, 1) := by decide +kernel
theorem dX2_findRoom_127 : decode cX2_findRoom 127 = .ok (.getfield 22, 3) := by decide +kernel
theorem dX2_findRoom_130 : decode cX2_findRoom 130 = .ok (.iload_n 3, 1) := by decide +kernel
theorem dX2_findRoom_131 : decode cX2_findRoom 131 = .ok (.iaload, 1) := by decide +kernel
theorem dX2_findRoom_132 : decode cX2_findRoom 132 = .ok (.iconst (-1), 1) := by decide +kernel
theorem dX2_findRoom_133 : decode cX2_findRoom 133 = .ok (.if_icmp .ne 7, 3) := by decide +kernel
theorem dX2_findRoom_136 : decode cX2_findRoom 136 = .ok (.iconst 0, 1) := by decide +kernel
theorem dX2_findRoom_137 : decode cX2_findRoom 137 = .ok (.goto 4, 3) := by decide +kernel
theorem dX2_findRoom_140 : decode cX2_findRoom 140 = .ok (.iconst 1, 1) := by decide +kernel
theorem dX2_findRoom_141 : decode cX2_findRoom 141 = .ok (.iadd, 1) := by decide +kernel
theorem dX2_findRoom_142 : decode cX2_findRoom 142 = .ok (.istore_n 2, 1) := by decide +kernel
theorem dX2_findRoom_143 : decode cX2_findRoom 143 = .ok (.iinc 3 1, 3) := by decide +kernel
theorem dX2_findRoom_146 : decode cX2_findRoom 146 = .ok (.goto (-130), 3) := by decide +kernel
theorem dX2_findRoom_149 : decode cX2_findRoom 149 = .ok (.aload_n 0, 1) := by decide +kernel
theorem dX2_findRoom_150 : decode cX2_findRoom 150 = .ok (.invokevirtual 87, 3) := by decide +kernel
theorem dX2_findRoom_153 : decode cX2_findRoom 153 = .ok (.istore_n 3, 1) := by decide +kernel
theorem dX2_findRoom_154 : decode cX2_findRoom 154 = .ok (.iload_n 3, 1) := by decide +kernel
theorem dX2_findRoom_155 : decode cX2_findRoom 155 = .ok (.iconst (-1), 1) := by decide +kernel
theorem dX2_findRoom_156 : decode cX2_findRoom 156 = .ok (.if_icmp .ne 7, 3) := by decide +kernel
theorem dX2_findRoom_159 : decode cX2_findRoom 159 = .ok (.iconst (-1), 1) := by decide +kernel
theorem dX2_findRoom_160 : decode cX2_findRoom 160 = .ok (.goto 6, 3) := by decide +kernel
theorem dX2_findRoom_163 : decode cX2_findRoom 163 = .ok (.iload_n 2, 1) := by decide +kernel
theorem dX2_findRoom_164 : decode cX2_findRoom 164 = .ok (.iload_n 3, 1) := by decide +kernel
theorem dX2_findRoom_165 : decode cX2_findRoom 165 = .ok (.isub, 1) := by decide +kernel
theorem dX2_findRoom_166 : decode cX2_findRoom 166 = .ok (.ireturn, 1) := by decide +kernel
set_option maxRecDepth 20000 in
theorem ggX2_findTop_X2_findMostGain : GoodIn wsX2_findTop wsX2_findMostGain := goodIn_r _ [11, 5, 12, 13, 14, 15, 16, 17, 18, 19, 35, 36, 37, 38, 39, 40, 41, 42, 43, 44, 45, 46, 47, 48, 49, 50, 51] (by decide +kernel) (by decide +kernel)
set_option maxRecDepth 20000 in
theorem gX2_findTop_X2_findMostGain : GoodIn wsX2_findTop (wsV RX2 100 RX2 yX2_findMostGain wsX2_findMostGain) := goodIn_app (goodIn_of _ (by decide +kernel)) ggX2_findTop_X2_findMostGain
set_option maxRecDepth 20000 in
theorem ggX2_findTop_X2_seek : GoodIn wsX2_findTop wsX2_seek := goodIn_r _ [22, 2, 1, 6, 5, 23, 3, 24, 12, 4, 25, 26, 27, 28, 10, 29, 30, 31, 32, 33, 34, 17, 18, 19, 20, 21, 35, 36, 37, 38, 39, 40, 41, 42, 43, 44, 45, 46, 47, 48, 49, 50, 51] (by decide +kernel) (by decide +kernel)
set_option maxRecDepth 20000 in
theorem gX2_findTop_X2_seek : GoodIn wsX2_findTop (va_wsS RX2 103 yX2_seek wsX2_seek) := goodIn_app (goodIn_of _ (by decide +kernel)) ggX2_findTop_X2_seek
theorem dX2_findTop_0 : decode cX2_findTop 0 = .ok (.aload_n 0, 1) := by decide +kernel
theorem dX2_findTop_1 : decode cX2_findTop 1 = .ok (.getfield 44, 3) := by decide +kernel
theorem dX2_findTop_4 : decode cX2_findTop 4 = .ok (.aload_n 0, 1) := by decide +kernel
theorem dX2_findTop_5 : decode cX2_findTop 5 = .ok (.getfield 9, 3) := by decide +kernel
theorem dX2_findTop_8 : decode cX2_findTop 8 = .ok (.iconst 0, 1) := by decide +kernel
theorem dX2_findTop_9 : decode cX2_findTop 9 = .ok (.iastore, 1) := by decide +kernel
theorem dX2_findTop_10 : decode cX2_findTop 10 = .ok (.aload_n 0, 1) := by decide +kernel
theorem dX2_findTop_11 : decode cX2_findTop 11 = .ok (.iconst 0, 1) := by decide +kernel
theorem dX2_findTop_12 : decode cX2_findTop 12 = .ok (.putfield 31, 3) := by decide +kernel
theorem dX2_findTop_15 : decode cX2_findTop 15 = .ok (.aload_n 0, 1) := by decide +kernel
theorem dX2_findTop_16 : decode cX2_findTop 16 = .ok (.getfield 9, 3) := by decide +kernel
theorem dX2_findTop_19 : decode cX2_findTop 19 = .ok (.iconst 1, 1) := by decide +kernel
theorem dX2_findTop_20 : decode cX2_findTop 20 = .ok (.isub, 1) := by decide +kernel
theorem dX2_findTop_21 : decode cX2_findTop 21 = .ok (.istore_n 1, 1) := by decide +kernel
theorem dX2_findTop_22 : decode cX2_findTop 22 = .ok (.iload_n 1, 1) := by decide +kernel
theorem dX2_findTop_23 : decode cX2_findTop 23 = .ok (.ifCond .lt 60, 3) := by decide +kernel
theorem dX2_findTop_26 : decode cX2_findTop 26 = .ok (.aload_n 0, 1) := by decide +kernel
theorem dX2_findTop_27 : decode cX2_findTop 27 = .ok (.getfield 41, 3) := by decide +kernel
theorem dX2_findTop_30 : decode cX2_findTop 30 = .ok (.iload_n 1, 1) := by decide +kernel
theorem dX2_findTop_31 : decode cX2_findTop 31 = .ok (.aload_n 0, 1) := by decide +kernel
theorem dX2_findTop_32 : decode cX2_findTop 32 = .ok (.iload_n 1, 1) := by decide +kernel
theorem dX2_findTop_33 : decode cX2_findTop 33 = .ok (.invokevirtual 100, 3) := by decide +kernel
theorem dX2_findTop_36 : decode cX2_findTop 36 = .ok (.iastore, 1) := by decide +kernel
theorem dX2_findTop_37 : decode cX2_findTop 37 = .ok (.aload_n 0, 1) := by decide +kernel
theorem dX2_findTop_38 : decode cX2_findTop 38 = .ok (.getfield 44, 3) := by decide +kernel
theorem dX2_findTop_41 : decode cX2_findTop 41 = .ok (.iload_n 1, 1) := by decide +kernel
theorem dX2_findTop_42 : decode cX2_findTop 42 = .ok (.aload_n 0, 1) := by decide +kernel
theorem dX2_findTop_43 : decode cX2_findTop 43 = .ok (.getfield 44, 3) := by decide +kernel
theorem dX2_findTop_46 : decode cX2_findTop 46 = .ok (.iload_n 1, 1) := by decide +kernel
theorem dX2_findTop_47 : decode cX2_findTop 47 = .ok (.iconst 1, 1) := by decide +kernel
theorem dX2_findTop_48 : decode cX2_findTop 48 = .ok (.iadd, 1) := by decide +kernel
theorem dX2_findTop_49 : decode cX2_findTop 49 = .ok (.iaload, 1) := by decide +kernel
theorem dX2_findTop_50 : decode cX2_findTop 50 = .ok (.aload_n 0, 1) := by decide +kernel
theorem dX2_findTop_51 : decode cX2_findTop 51 = .ok (.getfield 41, 3) := by decide +kernel
theorem dX2_findTop_54 : decode cX2_findTop 54 = .ok (.iload_n 1, 1) := by decide +kernel
theorem dX2_findTop_55 : decode cX2_findTop 55 = .ok (.iaload, 1) := by decide +kernel
theorem dX2_findTop_56 : decode cX2_findTop 56 = .ok (.iadd, 1) := by decide +kernel
theorem dX2_findTop_57 : decode cX2_findTop 57 = .ok (.iastore, 1) := by decide +kernel
theorem dX2_findTop_58 : decode cX2_findTop 58 = .ok (.aload_n 0, 1) := by decide +kernel
theorem dX2_findTop_59 : decode cX2_findTop 59 = .ok (.dup, 1) := by decide +kernel
theorem dX2_findTop_60 : decode cX2_findTop 60 = .ok (.getfield 31, 3) := by decide +kernel
theorem dX2_findTop_63 : decode cX2_findTop 63 = .ok (.aload_n 0, 1) := by decide +kernel
theorem dX2_findTop_64 : decode cX2_findTop 64 = .ok (.getfield 28, 3) := by decide +kernel
theorem dX2_findTop_67 : decode cX2_findTop 67 = .ok (.iload_n 1, 1) := by decide +kernel
theorem dX2_findTop_68 : decode cX2_findTop 68 = .ok (.iaload, 1) := by decide +kernel
theorem dX2_findTop_69 : decode cX2_findTop 69 = .ok (.iload_n 1, 1) := by decide +kernel
theorem dX2_findTop_70 : decode cX2_findTop 70 = .ok (.iconst 4, 1) := by decide +kernel
theorem dX2_findTop_71 : decode cX2_findTop 71 = .ok (.imul, 1) := by decide +kernel
theorem dX2_findTop_72 : decode cX2_findTop 72 = .ok (.ishl, 1) := by decide +kernel
theorem dX2_findTop_73 : decode cX2_findTop 73 = .ok (.ior, 1) := by decide +kernel
theorem dX2_findTop_74 : decode cX2_findTop 74 = .ok (.putfield 31, 3) := by decide +kernel
theorem dX2_findTop_77 : decode cX2_findTop 77 = .ok (.iinc 1 (-1), 3) := by decide +kernel
theorem dX2_findTop_80 : decode cX2_findTop 80 = .ok (.goto (-58), 3) := by decide +kernel
theorem dX2_findTop_83 : decode cX2_findTop 83 = .ok (.aload_n 0, 1) := by decide +kernel
theorem dX2_findTop_84 : decode cX2_findTop 84 = .ok (.iconst (-1), 1) := by decide +kernel
theorem dX2_findTop_85 : decode cX2_findTop 85 = .ok (.putfield 53, 3) := by decide +kernel
theorem dX2_findTop_88 : decode cX2_findTop 88 = .ok (.aload_n 0, 1) := by decide +kernel
theorem dX2_findTop_89 : decode cX2_findTop 89 = .ok (.iconst 0, 1) := by decide +kernel
theorem dX2_findTop_90 : decode cX2_findTop 90 = .ok (.iconst 0, 1) := by decide +kernel
theorem dX2_findTop_91 : decode cX2_findTop 91 = .ok (.iconst 0, 1) := by decide +kernel
theorem dX2_findTop_92 : decode cX2_findTop 92 = .ok (.invokestatic 103, 3) := by decide +kernel
theorem dX2_findTop_95 : decode cX2_findTop 95 = .ok (.aload_n 0, 1) := by decide +kernel
theorem dX2_findTop_96 : decode cX2_findTop 96 = .ok (.getfield 53, 3) := by decide +kernel
theorem dX2_findTop_99 : decode cX2_findTop 99 = .ok (.ireturn, 1) := by decide +kernel
set_option maxRecDepth 20000 in
theorem ggX2_findMostGain_X4_hasBit : GoodIn wsX2_findMostGain wsX4_hasBit := goodIn_r _ [9] (by decide +kernel) (by decide +kernel)
set_option maxRecDepth 20000 in
theorem gX2_findMostGain_X4_hasBit_n79 : GoodIn wsX2_findMostGain (wsX4_hasBit) := ggX2_findMostGain_X4_hasBit
theorem dX2_findMostGain_0 : decode cX2_findMostGain 0 = .ok (.iconst 0, 1) := by decide +kernel
theorem dX2_findMostGain_1 : decode cX2_findMostGain 1 = .ok (.istore_n 2, 1) := by decide +kernel
theorem dX2_findMostGain_2 : decode cX2_findMostGain 2 = .ok (.iconst 0, 1) := by decide +kernel
theorem dX2_findMostGain_3 : decode cX2_findMostGain 3 = .ok (.istore_n 3, 1) := by decide +kernel
theorem dX2_findMostGain_4 : decode cX2_findMostGain 4 = .ok (.iload_n 3, 1) := by decide +kernel
theorem dX2_findMostGain_5 : decode cX2_findMostGain 5 = .ok (.iconst 4, 1) := by decide +kernel
theorem dX2_findMostGain_6 : decode cX2_findMostGain 6 = .ok (.if_icmp .ge 37, 3) := by decide +kernel
theorem dX2_findMostGain_9 : decode cX2_findMostGain 9 = .ok (.aload_n 0, 1) := by decide +kernel
theorem dX2_findMostGain_10 : decode cX2_findMostGain 10 = .ok (.getfield 28, 3) := by decide +kernel
theorem dX2_findMostGain_13 : decode cX2_findMostGain 13 = .ok (.iload_n 1, 1) := by decide +kernel
theorem dX2_findMostGain_14 : decode cX2_findMostGain 14 = .ok (.iaload, 1) := by decide +kernel
theorem dX2_findMostGain_15 : decode cX2_findMostGain 15 = .ok (.iload_n 3, 1) := by decide +kernel
theorem dX2_findMostGain_16 : decode cX2_findMostGain 16 = .ok (.invokestatic 79, 3) := by decide +kernel
theorem dX2_findMostGain_19 : decode cX2_findMostGain 19 = .ok (.ifCond .eq 18, 3) := by decide +kernel
theorem dX2_findMostGain_22 : decode cX2_findMostGain 22 = .ok (.iload_n 2, 1) := by decide +kernel
theorem dX2_findMostGain_23 : decode cX2_findMostGain 23 = .ok (.aload_n 0, 1) := by decide +kernel
theorem dX2_findMostGain_24 : decode cX2_findMostGain 24 = .ok (.getfield 38, 3) := by decide +kernel
theorem dX2_findMostGain_27 : decode cX2_findMostGain 27 = .ok (.iload_n 1, 1) := by decide +kernel
theorem dX2_findMostGain_28 : decode cX2_findMostGain 28 = .ok (.iconst 4, 1) := by decide +kernel
theorem dX2_findMostGain_29 : decode cX2_findMostGain 29 = .ok (.imul, 1) := by decide +kernel
theorem dX2_findMostGain_30 : decode cX2_findMostGain 30 = .ok (.iload_n 3, 1) := by decide +kernel
theorem dX2_findMostGain_31 : decode cX2_findMostGain 31 = .ok (.iadd, 1) := by decide +kernel
theorem dX2_findMostGain_32 : decode cX2_findMostGain 32 = .ok (.iaload, 1) := by decide +kernel
theorem dX2_findMostGain_33 : decode cX2_findMostGain 33 = .ok (.invokestatic 107, 3) := by decide +kernel
theorem dX2_findMostGain_36 : decode cX2_findMostGain 36 = .ok (.istore_n 2, 1) := by decide +kernel
theorem dX2_findMostGain_37 : decode cX2_findMostGain 37 = .ok (.iinc 3 1, 3) := by decide +kernel
theorem dX2_findMostGain_40 : decode cX2_findMostGain 40 = .ok (.goto (-36), 3) := by decide +kernel
theorem dX2_findMostGain_43 : decode cX2_findMostGain 43 = .ok (.iload_n 2, 1) := by decide +kernel
theorem dX2_findMostGain_44 : decode cX2_findMostGain 44 = .ok (.ireturn, 1) := by decide +kernel
set_option maxRecDepth 20000 in
theorem ggX2_seek_X2_keepTrial : GoodIn wsX2_seek wsX2_keepTrial := goodIn_r _ [15, 3, 7, 16, 17, 18, 19, 20, 26, 27, 28, 29, 30, 31, 32, 33, 34, 35, 36, 37, 38, 39, 40, 41, 42] (by decide +kernel) (by decide +kernel)
set_option maxRecDepth 20000 in
theorem gX2_seek_X2_keepTrial : GoodIn wsX2_seek (wsV RX2 113 RX2 yX2_keepTrial wsX2_keepTrial) := goodIn_app (goodIn_of _ (by decide +kernel)) ggX2_seek_X2_keepTrial
set_option maxRecDepth 20000 in
theorem ggX2_seek_X4_hasBit : GoodIn wsX2_seek wsX4_hasBit := goodIn_r _ [23] (by decide +kernel) (by decide +kernel)
set_option maxRecDepth 20000 in
theorem gX2_seek_X4_hasBit_n79 : GoodIn wsX2_seek (wsX4_hasBit) := ggX2_seek_X4_hasBit
set_option maxRecDepth 20000 in
theorem ggX2_seek_X2_seek : GoodIn wsX2_seek wsX2_seek := goodIn_r _ [0, 1, 2, 3, 4, 5, 6, 7, 8, 9, 10, 11, 12, 13, 14, 15, 16, 17, 18, 19, 20, 21, 22, 23, 24, 25, 26, 27, 28, 29, 30, 31, 32, 33, 34, 35, 36, 37, 38, 39, 40, 41, 42] (by decide +kernel) (by decide +kernel)
set_option maxRecDepth 20000 in
theorem gX2_seek_X2_seek : GoodIn wsX2_seek (va_wsS RX2 103 yX2_seek wsX2_seek) := goodIn_app (goodIn_of _ (by decide +kernel)) ggX2_seek_X2_seek
theorem dX2_seek_0 : decode cX2_seek 0 = .ok (.iload_n 1, 1) := by decide +kernel
theorem dX2_seek_1 : decode cX2_seek 1 = .ok (.aload_n 0, 1) := by decide +kernel
theorem dX2_seek_2 : decode cX2_seek 2 = .ok (.getfield 9, 3) := by decide +kernel
theorem dX2_seek_5 : decode cX2_seek 5 = .ok (.if_icmp .lt 9, 3) := by decide +kernel
theorem dX2_seek_8 : decode cX2_seek 8 = .ok (.aload_n 0, 1) := by decide +kernel
theorem dX2_seek_9 : decode cX2_seek 9 = .ok (.iload_n 3, 1) := by decide +kernel
theorem dX2_seek_10 : decode cX2_seek 10 = .ok (.invokevirtual 113, 3) := by decide +kernel
theorem dX2_seek_13 : decode cX2_seek 13 = .ok (.return_, 1) := by decide +kernel
theorem dX2_seek_14 : decode cX2_seek 14 = .ok (.iload_n 3, 1) := by decide +kernel
theorem dX2_seek_15 : decode cX2_seek 15 = .ok (.aload_n 0, 1) := by decide +kernel
theorem dX2_seek_16 : decode cX2_seek 16 = .ok (.getfield 44, 3) := by decide +kernel
theorem dX2_seek_19 : decode cX2_seek 19 = .ok (.iload_n 1, 1) := by decide +kernel
theorem dX2_seek_20 : decode cX2_seek 20 = .ok (.iaload, 1) := by decide +kernel
theorem dX2_seek_21 : decode cX2_seek 21 = .ok (.iadd, 1) := by decide +kernel
theorem dX2_seek_22 : decode cX2_seek 22 = .ok (.aload_n 0, 1) := by decide +kernel
theorem dX2_seek_23 : decode cX2_seek 23 = .ok (.getfield 53, 3) := by decide +kernel
theorem dX2_seek_26 : decode cX2_seek 26 = .ok (.if_icmp .gt 4, 3) := by decide +kernel
theorem dX2_seek_29 : decode cX2_seek 29 = .ok (.return_, 1) := by decide +kernel
theorem dX2_seek_30 : decode cX2_seek 30 = .ok (.aload_n 0, 1) := by decide +kernel
theorem dX2_seek_31 : decode cX2_seek 31 = .ok (.getfield 28, 3) := by decide +kernel
theorem dX2_seek_34 : decode cX2_seek 34 = .ok (.iload_n 1, 1) := by decide +kernel
theorem dX2_seek_35 : decode cX2_seek 35 = .ok (.iaload, 1) := by decide +kernel
theorem dX2_seek_36 : decode cX2_seek 36 = .ok (.iload_n 2, 1) := by decide +kernel
theorem dX2_seek_37 : decode cX2_seek 37 = .ok (.iload_n 1, 1) := by decide +kernel
theorem dX2_seek_38 : decode cX2_seek 38 = .ok (.iconst 4, 1) := by decide +kernel
theorem dX2_seek_39 : decode cX2_seek 39 = .ok (.imul, 1) := by decide +kernel
theorem dX2_seek_40 : decode cX2_seek 40 = .ok (.iushr, 1) := by decide +kernel
theorem dX2_seek_41 : decode cX2_seek 41 = .ok (.iconst (-1), 1) := by decide +kernel
theorem dX2_seek_42 : decode cX2_seek 42 = .ok (.ixor, 1) := by decide +kernel
theorem dX2_seek_43 : decode cX2_seek 43 = .ok (.iand, 1) := by decide +kernel
theorem dX2_seek_44 : decode cX2_seek 44 = .ok (.istore 4, 2) := by decide +kernel
theorem dX2_seek_46 : decode cX2_seek 46 = .ok (.iconst 0, 1) := by decide +kernel
theorem dX2_seek_47 : decode cX2_seek 47 = .ok (.istore 5, 2) := by decide +kernel
theorem dX2_seek_49 : decode cX2_seek 49 = .ok (.iload 5, 2) := by decide +kernel
theorem dX2_seek_51 : decode cX2_seek 51 = .ok (.iconst 4, 1) := by decide +kernel
theorem dX2_seek_52 : decode cX2_seek 52 = .ok (.if_icmp .ge 92, 3) := by decide +kernel
theorem dX2_seek_55 : decode cX2_seek 55 = .ok (.iload 4, 2) := by decide +kernel
theorem dX2_seek_57 : decode cX2_seek 57 = .ok (.iload 5, 2) := by decide +kernel
theorem dX2_seek_59 : decode cX2_seek 59 = .ok (.invokestatic 79, 3) := by decide +kernel
theorem dX2_seek_62 : decode cX2_seek 62 = .ok (.ifCond .eq 76, 3) := by decide +kernel
theorem dX2_seek_65 : decode cX2_seek 65 = .ok (.iload_n 1, 1) := by decide +kernel
theorem dX2_seek_66 : decode cX2_seek 66 = .ok (.iconst 4, 1) := by decide +kernel
theorem dX2_seek_67 : decode cX2_seek 67 = .ok (.imul, 1) := by decide +kernel
theorem dX2_seek_68 : decode cX2_seek 68 = .ok (.iload 5, 2) := by decide +kernel
theorem dX2_seek_70 : decode cX2_seek 70 = .ok (.iadd, 1) := by decide +kernel
theorem dX2_seek_71 : decode cX2_seek 71 = .ok (.istore 6, 2) := by decide +kernel
theorem dX2_seek_73 : decode cX2_seek 73 = .ok (.iload_n 2, 1) := by decide +kernel
theorem dX2_seek_74 : decode cX2_seek 74 = .ok (.aload_n 0, 1) := by decide +kernel
theorem dX2_seek_75 : decode cX2_seek 75 = .ok (.getfield 25, 3) := by decide +kernel
theorem dX2_seek_78 : decode cX2_seek 78 = .ok (.iload 6, 2) := by decide +kernel
theorem dX2_seek_80 : decode cX2_seek 80 = .ok (.iaload, 1) := by decide +kernel
theorem dX2_seek_81 : decode cX2_seek 81 = .ok (.aload_n 0, 1) := by decide +kernel
theorem dX2_seek_82 : decode cX2_seek 82 = .ok (.getfield 31, 3) := by decide +kernel
theorem dX2_seek_85 : decode cX2_seek 85 = .ok (.iand, 1) := by decide +kernel
theorem dX2_seek_86 : decode cX2_seek 86 = .ok (.ior, 1) := by decide +kernel
theorem dX2_seek_87 : decode cX2_seek 87 = .ok (.istore 7, 2) := by decide +kernel
theorem dX2_seek_89 : decode cX2_seek 89 = .ok (.aload_n 0, 1) := by decide +kernel
theorem dX2_seek_90 : decode cX2_seek 90 = .ok (.getfield 47, 3) := by decide +kernel
theorem dX2_seek_93 : decode cX2_seek 93 = .ok (.iload_n 1, 1) := by decide +kernel
theorem dX2_seek_94 : decode cX2_seek 94 = .ok (.iload 5, 2) := by decide +kernel
theorem dX2_seek_96 : decode cX2_seek 96 = .ok (.iastore, 1) := by decide +kernel
theorem dX2_seek_97 : decode cX2_seek 97 = .ok (.aload_n 0, 1) := by decide +kernel
theorem dX2_seek_98 : decode cX2_seek 98 = .ok (.iload_n 1, 1) := by decide +kernel
theorem dX2_seek_99 : decode cX2_seek 99 = .ok (.iconst 1, 1) := by decide +kernel
theorem dX2_seek_100 : decode cX2_seek 100 = .ok (.iadd, 1) := by decide +kernel
theorem dX2_seek_101 : decode cX2_seek 101 = .ok (.iload 7, 2) := by decide +kernel
theorem dX2_seek_103 : decode cX2_seek 103 = .ok (.iload_n 3, 1) := by decide +kernel
theorem dX2_seek_104 : decode cX2_seek 104 = .ok (.aload_n 0, 1) := by decide +kernel
theorem dX2_seek_105 : decode cX2_seek 105 = .ok (.getfield 38, 3) := by decide +kernel
theorem dX2_seek_108 : decode cX2_seek 108 = .ok (.iload 6, 2) := by decide +kernel
theorem dX2_seek_110 : decode cX2_seek 110 = .ok (.iaload, 1) := by decide +kernel
theorem dX2_seek_111 : decode cX2_seek 111 = .ok (.iadd, 1) := by decide +kernel
theorem dX2_seek_112 : decode cX2_seek 112 = .ok (.invokestatic 103, 3) := by decide +kernel
theorem dX2_seek_115 : decode cX2_seek 115 = .ok (.iload 7, 2) := by decide +kernel
theorem dX2_seek_117 : decode cX2_seek 117 = .ok (.iload_n 2, 1) := by decide +kernel
theorem dX2_seek_118 : decode cX2_seek 118 = .ok (.if_icmp .ne 20, 3) := by decide +kernel
theorem dX2_seek_121 : decode cX2_seek 121 = .ok (.aload_n 0, 1) := by decide +kernel
theorem dX2_seek_122 : decode cX2_seek 122 = .ok (.getfield 38, 3) := by decide +kernel
theorem dX2_seek_125 : decode cX2_seek 125 = .ok (.iload 6, 2) := by decide +kernel
theorem dX2_seek_127 : decode cX2_seek 127 = .ok (.iaload, 1) := by decide +kernel
theorem dX2_seek_128 : decode cX2_seek 128 = .ok (.aload_n 0, 1) := by decide +kernel
theorem dX2_seek_129 : decode cX2_seek 129 = .ok (.getfield 41, 3) := by decide +kernel
theorem dX2_seek_132 : decode cX2_seek 132 = .ok (.iload_n 1, 1) := by decide +kernel
theorem dX2_seek_133 : decode cX2_seek 133 = .ok (.iaload, 1) := by decide +kernel
theorem dX2_seek_134 : decode cX2_seek 134 = .ok (.if_icmp .ne 4, 3) := by decide +kernel
theorem dX2_seek_137 : decode cX2_seek 137 = .ok (.return_, 1) := by decide +kernel
theorem dX2_seek_138 : decode cX2_seek 138 = .ok (.iinc 5 1, 3) := by decide +kernel
theorem dX2_seek_141 : decode cX2_seek 141 = .ok (.goto (-92), 3) := by decide +kernel
theorem dX2_seek_144 : decode cX2_seek 144 = .ok (.aload_n 0, 1) := by decide +kernel
theorem dX2_seek_145 : decode cX2_seek 145 = .ok (.getfield 34, 3) := by decide +kernel
theorem dX2_seek_148 : decode cX2_seek 148 = .ok (.iload_n 1, 1) := by decide +kernel
theorem dX2_seek_149 : decode cX2_seek 149 = .ok (.baload, 1) := by decide +kernel
theorem dX2_seek_150 : decode cX2_seek 150 = .ok (.ifCond .eq 19, 3) := by decide +kernel
theorem dX2_seek_153 : decode cX2_seek 153 = .ok (.aload_n 0, 1) := by decide +kernel
theorem dX2_seek_154 : decode cX2_seek 154 = .ok (.getfield 47, 3) := by decide +kernel
theorem dX2_seek_157 : decode cX2_seek 157 = .ok (.iload_n 1, 1) := by decide +kernel
theorem dX2_seek_158 : decode cX2_seek 158 = .ok (.iconst (-1), 1) := by decide +kernel
theorem dX2_seek_159 : decode cX2_seek 159 = .ok (.iastore, 1) := by decide +kernel
theorem dX2_seek_160 : decode cX2_seek 160 = .ok (.aload_n 0, 1) := by decide +kernel
theorem dX2_seek_161 : decode cX2_seek 161 = .ok (.iload_n 1, 1) := by decide +kernel
theorem dX2_seek_162 : decode cX2_seek 162 = .ok (.iconst 1, 1) := by decide +kernel
theorem dX2_seek_163 : decode cX2_seek 163 = .ok (.iadd, 1) := by decide +kernel
theorem dX2_seek_164 : decode cX2_seek 164 = .ok (.iload_n 2, 1) := by decide +kernel
theorem dX2_seek_165 : decode cX2_seek 165 = .ok (.iload_n 3, 1) := by decide +kernel
theorem dX2_seek_166 : decode cX2_seek 166 = .ok (.invokestatic 103, 3) := by decide +kernel
theorem dX2_seek_169 : decode cX2_seek 169 = .ok (.return_, 1) := by decide +kernel
theorem dX2_keepTrial_0 : decode cX2_keepTrial 0 = .ok (.iload_n 1, 1) := by decide +kernel
theorem dX2_keepTrial_1 : decode cX2_keepTrial 1 = .ok (.aload_n 0, 1) := by decide +kernel
theorem dX2_keepTrial_2 : decode cX2_keepTrial 2 = .ok (.getfield 53, 3) := by decide +kernel
theorem dX2_keepTrial_5 : decode cX2_keepTrial 5 = .ok (.if_icmp .le 23, 3) := by decide +kernel
theorem dX2_keepTrial_8 : decode cX2_keepTrial 8 = .ok (.aload_n 0, 1) := by decide +kernel
theorem dX2_keepTrial_9 : decode cX2_keepTrial 9 = .ok (.iload_n 1, 1) := by decide +kernel
theorem dX2_keepTrial_10 : decode cX2_keepTrial 10 = .ok (.putfield 53, 3) := by decide +kernel
theorem dX2_keepTrial_13 : decode cX2_keepTrial 13 = .ok (.aload_n 0, 1) := by decide +kernel
theorem dX2_keepTrial_14 : decode cX2_keepTrial 14 = .ok (.getfield 47, 3) := by decide +kernel
theorem dX2_keepTrial_17 : decode cX2_keepTrial 17 = .ok (.iconst 0, 1) := by decide +kernel
theorem dX2_keepTrial_18 : decode cX2_keepTrial 18 = .ok (.aload_n 0, 1) := by decide +kernel
theorem dX2_keepTrial_19 : decode cX2_keepTrial 19 = .ok (.getfield 50, 3) := by decide +kernel
theorem dX2_keepTrial_22 : decode cX2_keepTrial 22 = .ok (.iconst 0, 1) := by decide +kernel
theorem dX2_keepTrial_23 : decode cX2_keepTrial 23 = .ok (.bipush 8, 2) := by decide +kernel
theorem dX2_keepTrial_25 : decode cX2_keepTrial 25 = .ok (.invokestatic 94, 3) := by decide +kernel
theorem dX2_keepTrial_28 : decode cX2_keepTrial 28 = .ok (.return_, 1) := by decide +kernel
set_option maxRecDepth 20000 in
theorem ggX2_fullOnes_X2_tally : GoodIn wsX2_fullOnes wsX2_tally := goodIn_r _ [4, 5, 6, 7, 1, 2, 3, 8, 9, 10, 11, 12, 13, 14, 15, 16, 17, 18, 19, 20, 21, 22, 23, 24, 25, 26, 27] (by decide +kernel) (by decide +kernel)
set_option maxRecDepth 20000 in
theorem gX2_fullOnes_X2_tally : GoodIn wsX2_fullOnes (va_wsS RX2 117 yX2_tally wsX2_tally) := goodIn_app (goodIn_of _ (by decide +kernel)) ggX2_fullOnes_X2_tally
theorem dX2_fullOnes_0 : decode cX2_fullOnes 0 = .ok (.aload_n 0, 1) := by decide +kernel
theorem dX2_fullOnes_1 : decode cX2_fullOnes 1 = .ok (.iconst 0, 1) := by decide +kernel
theorem dX2_fullOnes_2 : decode cX2_fullOnes 2 = .ok (.iconst 0, 1) := by decide +kernel
theorem dX2_fullOnes_3 : decode cX2_fullOnes 3 = .ok (.invokestatic 117, 3) := by decide +kernel
theorem dX2_fullOnes_6 : decode cX2_fullOnes 6 = .ok (.ireturn, 1) := by decide +kernel
set_option maxRecDepth 20000 in
theorem ggX2_tally_X2_tally : GoodIn wsX2_tally wsX2_tally := goodIn_r _ [0, 1, 2, 3, 4, 5, 6, 7, 8, 9, 10, 11, 12, 13, 14, 15, 16, 17, 18, 19, 20, 21, 22, 23, 24, 25, 26] (by decide +kernel) (by decide +kernel)
set_option maxRecDepth 20000 in
theorem gX2_tally_X2_tally : GoodIn wsX2_tally (va_wsS RX2 117 yX2_tally wsX2_tally) := goodIn_app (goodIn_of _ (by decide +kernel)) ggX2_tally_X2_tally
set_option maxRecDepth 20000 in
theorem ggX2_tally_X4_hasBit : GoodIn wsX2_tally wsX4_hasBit := goodIn_r _ [9] (by decide +kernel) (by decide +kernel)
set_option maxRecDepth 20000 in
theorem gX2_tally_X4_hasBit_n79 : GoodIn wsX2_tally (wsX4_hasBit) := ggX2_tally_X4_hasBit
theorem dX2_tally_0 : decode cX2_tally 0 = .ok (.iload_n 1, 1) := by decide +kernel
theorem dX2_tally_1 : decode cX2_tally 1 = .ok (.aload_n 0, 1) := by decide +kernel
theorem dX2_tally_2 : decode cX2_tally 2 = .ok (.getfield 9, 3) := by decide +kernel
theorem dX2_tally_5 : decode cX2_tally 5 = .ok (.if_icmp .lt 5, 3) := by decide +kernel
theorem dX2_tally_8 : decode cX2_tally 8 = .ok (.iconst 1, 1) := by decide +kernel
theorem dX2_tally_9 : decode cX2_tally 9 = .ok (.ireturn, 1) := by decide +kernel
theorem dX2_tally_10 : decode cX2_tally 10 = .ok (.aload_n 0, 1) := by decide +kernel
theorem dX2_tally_11 : decode cX2_tally 11 = .ok (.getfield 15, 3) := by decide +kernel
theorem dX2_tally_14 : decode cX2_tally 14 = .ok (.iload_n 1, 1) := by decide +kernel
theorem dX2_tally_15 : decode cX2_tally 15 = .ok (.iaload, 1) := by decide +kernel
theorem dX2_tally_16 : decode cX2_tally 16 = .ok (.ifCond .ne 12, 3) := by decide +kernel
theorem dX2_tally_19 : decode cX2_tally 19 = .ok (.aload_n 0, 1) := by decide +kernel
theorem dX2_tally_20 : decode cX2_tally 20 = .ok (.iload_n 1, 1) := by decide +kernel
theorem dX2_tally_21 : decode cX2_tally 21 = .ok (.iconst 1, 1) := by decide +kernel
theorem dX2_tally_22 : decode cX2_tally 22 = .ok (.iadd, 1) := by decide +kernel
theorem dX2_tally_23 : decode cX2_tally 23 = .ok (.iload_n 2, 1) := by decide +kernel
theorem dX2_tally_24 : decode cX2_tally 24 = .ok (.invokestatic 117, 3) := by decide +kernel
theorem dX2_tally_27 : decode cX2_tally 27 = .ok (.ireturn, 1) := by decide +kernel
theorem dX2_tally_28 : decode cX2_tally 28 = .ok (.iconst 0, 1) := by decide +kernel
theorem dX2_tally_29 : decode cX2_tally 29 = .ok (.istore_n 3, 1) := by decide +kernel
theorem dX2_tally_30 : decode cX2_tally 30 = .ok (.iconst 0, 1) := by decide +kernel
theorem dX2_tally_31 : decode cX2_tally 31 = .ok (.istore 4, 2) := by decide +kernel
theorem dX2_tally_33 : decode cX2_tally 33 = .ok (.aload_n 0, 1) := by decide +kernel
theorem dX2_tally_34 : decode cX2_tally 34 = .ok (.getfield 15, 3) := by decide +kernel
theorem dX2_tally_37 : decode cX2_tally 37 = .ok (.iload_n 1, 1) := by decide +kernel
theorem dX2_tally_38 : decode cX2_tally 38 = .ok (.iaload, 1) := by decide +kernel
theorem dX2_tally_39 : decode cX2_tally 39 = .ok (.iload_n 2, 1) := by decide +kernel
theorem dX2_tally_40 : decode cX2_tally 40 = .ok (.iload_n 1, 1) := by decide +kernel
theorem dX2_tally_41 : decode cX2_tally 41 = .ok (.iconst 4, 1) := by decide +kernel
theorem dX2_tally_42 : decode cX2_tally 42 = .ok (.imul, 1) := by decide +kernel
theorem dX2_tally_43 : decode cX2_tally 43 = .ok (.iushr, 1) := by decide +kernel
theorem dX2_tally_44 : decode cX2_tally 44 = .ok (.iconst (-1), 1) := by decide +kernel
theorem dX2_tally_45 : decode cX2_tally 45 = .ok (.ixor, 1) := by decide +kernel
theorem dX2_tally_46 : decode cX2_tally 46 = .ok (.iand, 1) := by decide +kernel
theorem dX2_tally_47 : decode cX2_tally 47 = .ok (.istore 5, 2) := by decide +kernel
theorem dX2_tally_49 : decode cX2_tally 49 = .ok (.iconst 0, 1) := by decide +kernel
theorem dX2_tally_50 : decode cX2_tally 50 = .ok (.istore 6, 2) := by decide +kernel
theorem dX2_tally_52 : decode cX2_tally 52 = .ok (.iload 6, 2) := by decide +kernel
theorem dX2_tally_54 : decode cX2_tally 54 = .ok (.iconst 4, 1) := by decide +kernel
theorem dX2_tally_55 : decode cX2_tally 55 = .ok (.if_icmp .ge 58, 3) := by decide +kernel
theorem dX2_tally_58 : decode cX2_tally 58 = .ok (.iload 5, 2) := by decide +kernel
theorem dX2_tally_60 : decode cX2_tally 60 = .ok (.iload 6, 2) := by decide +kernel
theorem dX2_tally_62 : decode cX2_tally 62 = .ok (.invokestatic 79, 3) := by decide +kernel
theorem dX2_tally_65 : decode cX2_tally 65 = .ok (.ifCond .eq 42, 3) := by decide +kernel
theorem dX2_tally_68 : decode cX2_tally 68 = .ok (.iload_n 2, 1) := by decide +kernel
theorem dX2_tally_69 : decode cX2_tally 69 = .ok (.aload_n 0, 1) := by decide +kernel
theorem dX2_tally_70 : decode cX2_tally 70 = .ok (.getfield 25, 3) := by decide +kernel
theorem dX2_tally_73 : decode cX2_tally 73 = .ok (.iload_n 1, 1) := by decide +kernel
theorem dX2_tally_74 : decode cX2_tally 74 = .ok (.iconst 4, 1) := by decide +kernel
theorem dX2_tally_75 : decode cX2_tally 75 = .ok (.imul, 1) := by decide +kernel
theorem dX2_tally_76 : decode cX2_tally 76 = .ok (.iload 6, 2) := by decide +kernel
theorem dX2_tally_78 : decode cX2_tally 78 = .ok (.iadd, 1) := by decide +kernel
theorem dX2_tally_79 : decode cX2_tally 79 = .ok (.iaload, 1) := by decide +kernel
theorem dX2_tally_80 : decode cX2_tally 80 = .ok (.ior, 1) := by decide +kernel
theorem dX2_tally_81 : decode cX2_tally 81 = .ok (.istore 7, 2) := by decide +kernel
theorem dX2_tally_83 : decode cX2_tally 83 = .ok (.iload 7, 2) := by decide +kernel
theorem dX2_tally_85 : decode cX2_tally 85 = .ok (.iload_n 2, 1) := by decide +kernel
theorem dX2_tally_86 : decode cX2_tally 86 = .ok (.if_icmp .ne 9, 3) := by decide +kernel
theorem dX2_tally_89 : decode cX2_tally 89 = .ok (.iinc 4 1, 3) := by decide +kernel
theorem dX2_tally_92 : decode cX2_tally 92 = .ok (.goto 15, 3) := by decide +kernel
theorem dX2_tally_95 : decode cX2_tally 95 = .ok (.iload_n 3, 1) := by decide +kernel
theorem dX2_tally_96 : decode cX2_tally 96 = .ok (.aload_n 0, 1) := by decide +kernel
theorem dX2_tally_97 : decode cX2_tally 97 = .ok (.iload_n 1, 1) := by decide +kernel
theorem dX2_tally_98 : decode cX2_tally 98 = .ok (.iconst 1, 1) := by decide +kernel
theorem dX2_tally_99 : decode cX2_tally 99 = .ok (.iadd, 1) := by decide +kernel
theorem dX2_tally_100 : decode cX2_tally 100 = .ok (.iload 7, 2) := by decide +kernel
theorem dX2_tally_102 : decode cX2_tally 102 = .ok (.invokestatic 117, 3) := by decide +kernel
theorem dX2_tally_105 : decode cX2_tally 105 = .ok (.iadd, 1) := by decide +kernel
theorem dX2_tally_106 : decode cX2_tally 106 = .ok (.istore_n 3, 1) := by decide +kernel
theorem dX2_tally_107 : decode cX2_tally 107 = .ok (.iinc 6 1, 3) := by decide +kernel
theorem dX2_tally_110 : decode cX2_tally 110 = .ok (.goto (-58), 3) := by decide +kernel
theorem dX2_tally_113 : decode cX2_tally 113 = .ok (.iload 4, 2) := by decide +kernel
theorem dX2_tally_115 : decode cX2_tally 115 = .ok (.ifCond .le 17, 3) := by decide +kernel
theorem dX2_tally_118 : decode cX2_tally 118 = .ok (.iload_n 3, 1) := by decide +kernel
theorem dX2_tally_119 : decode cX2_tally 119 = .ok (.iload 4, 2) := by decide +kernel
theorem dX2_tally_121 : decode cX2_tally 121 = .ok (.aload_n 0, 1) := by decide +kernel
theorem dX2_tally_122 : decode cX2_tally 122 = .ok (.iload_n 1, 1) := by decide +kernel
theorem dX2_tally_123 : decode cX2_tally 123 = .ok (.iconst 1, 1) := by decide +kernel
theorem dX2_tally_124 : decode cX2_tally 124 = .ok (.iadd, 1) := by decide +kernel
theorem dX2_tally_125 : decode cX2_tally 125 = .ok (.iload_n 2, 1) := by decide +kernel
theorem dX2_tally_126 : decode cX2_tally 126 = .ok (.invokestatic 117, 3) := by decide +kernel
theorem dX2_tally_129 : decode cX2_tally 129 = .ok (.imul, 1) := by decide +kernel
theorem dX2_tally_130 : decode cX2_tally 130 = .ok (.iadd, 1) := by decide +kernel
theorem dX2_tally_131 : decode cX2_tally 131 = .ok (.istore_n 3, 1) := by decide +kernel
theorem dX2_tally_132 : decode cX2_tally 132 = .ok (.iload_n 3, 1) := by decide +kernel
theorem dX2_tally_133 : decode cX2_tally 133 = .ok (.ireturn, 1) := by decide +kernel
theorem dX3_init_0 : decode cX3_init 0 = .ok (.aload_n 0, 1) := by decide +kernel
theorem dX3_init_1 : decode cX3_init 1 = .ok (.invokespecial 3, 3) := by decide +kernel
theorem dX3_init_4 : decode cX3_init 4 = .ok (.aload_n 0, 1) := by decide +kernel
theorem dX3_init_5 : decode cX3_init 5 = .ok (.bipush 60, 2) := by decide +kernel
theorem dX3_init_7 : decode cX3_init 7 = .ok (.newarray .int, 2) := by decide +kernel
theorem dX3_init_9 : decode cX3_init 9 = .ok (.putfield 9, 3) := by decide +kernel
theorem dX3_init_12 : decode cX3_init 12 = .ok (.aload_n 0, 1) := by decide +kernel
theorem dX3_init_13 : decode cX3_init 13 = .ok (.iconst 0, 1) := by decide +kernel
theorem dX3_init_14 : decode cX3_init 14 = .ok (.putfield 15, 3) := by decide +kernel
theorem dX3_init_17 : decode cX3_init 17 = .ok (.aload_n 0, 1) := by decide +kernel
theorem dX3_init_18 : decode cX3_init 18 = .ok (.bipush 40, 2) := by decide +kernel
theorem dX3_init_20 : decode cX3_init 20 = .ok (.newarray .int, 2) := by decide +kernel
theorem dX3_init_22 : decode cX3_init 22 = .ok (.putfield 19, 3) := by decide +kernel
theorem dX3_init_25 : decode cX3_init 25 = .ok (.aload_n 0, 1) := by decide +kernel
theorem dX3_init_26 : decode cX3_init 26 = .ok (.iconst 0, 1) := by decide +kernel
theorem dX3_init_27 : decode cX3_init 27 = .ok (.putfield 22, 3) := by decide +kernel
theorem dX3_init_30 : decode cX3_init 30 = .ok (.aload_n 0, 1) := by decide +kernel
theorem dX3_init_31 : decode cX3_init 31 = .ok (.iconst 0, 1) := by decide +kernel
theorem dX3_init_32 : decode cX3_init 32 = .ok (.putfield 25, 3) := by decide +kernel
theorem dX3_init_35 : decode cX3_init 35 = .ok (.aload_n 0, 1) := by decide +kernel
theorem dX3_init_36 : decode cX3_init 36 = .ok (.iconst (-1), 1) := by decide +kernel
theorem dX3_init_37 : decode cX3_init 37 = .ok (.putfield 28, 3) := by decide +kernel
theorem dX3_init_40 : decode cX3_init 40 = .ok (.return_, 1) := by decide +kernel
theorem dX3_write_0 : decode cX3_write 0 = .ok (.aload_n 0, 1) := by decide +kernel
theorem dX3_write_1 : decode cX3_write 1 = .ok (.getfield 9, 3) := by decide +kernel
theorem dX3_write_4 : decode cX3_write 4 = .ok (.aload_n 0, 1) := by decide +kernel
theorem dX3_write_5 : decode cX3_write 5 = .ok (.getfield 15, 3) := by decide +kernel
theorem dX3_write_8 : decode cX3_write 8 = .ok (.iload_n 1, 1) := by decide +kernel
theorem dX3_write_9 : decode cX3_write 9 = .ok (.iastore, 1) := by decide +kernel
theorem dX3_write_10 : decode cX3_write 10 = .ok (.aload_n 0, 1) := by decide +kernel
theorem dX3_write_11 : decode cX3_write 11 = .ok (.dup, 1) := by decide +kernel
theorem dX3_write_12 : decode cX3_write 12 = .ok (.getfield 15, 3) := by decide +kernel
theorem dX3_write_15 : decode cX3_write 15 = .ok (.iconst 1, 1) := by decide +kernel
theorem dX3_write_16 : decode cX3_write 16 = .ok (.iadd, 1) := by decide +kernel
theorem dX3_write_17 : decode cX3_write 17 = .ok (.putfield 15, 3) := by decide +kernel
theorem dX3_write_20 : decode cX3_write 20 = .ok (.return_, 1) := by decide +kernel
theorem dX3_code_0 : decode cX3_code 0 = .ok (.aload_n 0, 1) := by decide +kernel
theorem dX3_code_1 : decode cX3_code 1 = .ok (.getfield 9, 3) := by decide +kernel
theorem dX3_code_4 : decode cX3_code 4 = .ok (.iload_n 1, 1) := by decide +kernel
theorem dX3_code_5 : decode cX3_code 5 = .ok (.iaload, 1) := by decide +kernel
theorem dX3_code_6 : decode cX3_code 6 = .ok (.ireturn, 1) := by decide +kernel
theorem dX3_endsWithPoint_0 : decode cX3_endsWithPoint 0 = .ok (.aload_n 0, 1) := by decide +kernel
theorem dX3_endsWithPoint_1 : decode cX3_endsWithPoint 1 = .ok (.getfield 28, 3) := by decide +kernel
theorem dX3_endsWithPoint_4 : decode cX3_endsWithPoint 4 = .ok (.iconst (-1), 1) := by decide +kernel
theorem dX3_endsWithPoint_5 : decode cX3_endsWithPoint 5 = .ok (.if_icmp .eq 23, 3) := by decide +kernel
theorem dX3_endsWithPoint_8 : decode cX3_endsWithPoint 8 = .ok (.aload_n 0, 1) := by decide +kernel
theorem dX3_endsWithPoint_9 : decode cX3_endsWithPoint 9 = .ok (.getfield 25, 3) := by decide +kernel
theorem dX3_endsWithPoint_12 : decode cX3_endsWithPoint 12 = .ok (.iconst 3, 1) := by decide +kernel
theorem dX3_endsWithPoint_13 : decode cX3_endsWithPoint 13 = .ok (.if_icmp .eq 11, 3) := by decide +kernel
theorem dX3_endsWithPoint_16 : decode cX3_endsWithPoint 16 = .ok (.aload_n 0, 1) := by decide +kernel
theorem dX3_endsWithPoint_17 : decode cX3_endsWithPoint 17 = .ok (.getfield 25, 3) := by decide +kernel
theorem dX3_endsWithPoint_20 : decode cX3_endsWithPoint 20 = .ok (.iconst 4, 1) := by decide +kernel
theorem dX3_endsWithPoint_21 : decode cX3_endsWithPoint 21 = .ok (.if_icmp .ne 7, 3) := by decide +kernel
theorem dX3_endsWithPoint_24 : decode cX3_endsWithPoint 24 = .ok (.iconst 1, 1) := by decide +kernel
theorem dX3_endsWithPoint_25 : decode cX3_endsWithPoint 25 = .ok (.goto 4, 3) := by decide +kernel
theorem dX3_endsWithPoint_28 : decode cX3_endsWithPoint 28 = .ok (.iconst 0, 1) := by decide +kernel
theorem dX3_endsWithPoint_29 : decode cX3_endsWithPoint 29 = .ok (.ireturn, 1) := by decide +kernel
theorem dX3_pointsTold_0 : decode cX3_pointsTold 0 = .ok (.aload_n 0, 1) := by decide +kernel
theorem dX3_pointsTold_1 : decode cX3_pointsTold 1 = .ok (.getfield 22, 3) := by decide +kernel
theorem dX3_pointsTold_4 : decode cX3_pointsTold 4 = .ok (.iconst 1, 1) := by decide +kernel
theorem dX3_pointsTold_5 : decode cX3_pointsTold 5 = .ok (.iadd, 1) := by decide +kernel
theorem dX3_pointsTold_6 : decode cX3_pointsTold 6 = .ok (.ireturn, 1) := by decide +kernel
theorem dX3_part_0 : decode cX3_part 0 = .ok (.aload_n 0, 1) := by decide +kernel
theorem dX3_part_1 : decode cX3_part 1 = .ok (.getfield 19, 3) := by decide +kernel
theorem dX3_part_4 : decode cX3_part 4 = .ok (.iload_n 1, 1) := by decide +kernel
theorem dX3_part_5 : decode cX3_part 5 = .ok (.iconst 5, 1) := by decide +kernel
theorem dX3_part_6 : decode cX3_part 6 = .ok (.imul, 1) := by decide +kernel
theorem dX3_part_7 : decode cX3_part 7 = .ok (.iload_n 2, 1) := by decide +kernel
theorem dX3_part_8 : decode cX3_part 8 = .ok (.iadd, 1) := by decide +kernel
theorem dX3_part_9 : decode cX3_part 9 = .ok (.iaload, 1) := by decide +kernel
theorem dX3_part_10 : decode cX3_part 10 = .ok (.ireturn, 1) := by decide +kernel
set_option maxRecDepth 20000 in
theorem ggX3_scan_X3_beginPoint : GoodIn wsX3_scan wsX3_beginPoint := goodIn_r _ [8, 1, 9, 10, 11, 25, 26, 27, 28, 29, 30] (by decide +kernel) (by decide +kernel)
set_option maxRecDepth 20000 in
theorem gX3_scan_X3_beginPoint : GoodIn wsX3_scan (wsV RX3 31 RX3 yX3_beginPoint wsX3_beginPoint) := goodIn_app (goodIn_of _ (by decide +kernel)) ggX3_scan_X3_beginPoint
set_option maxRecDepth 20000 in
theorem ggX3_scan_X3_take : GoodIn wsX3_scan wsX3_take := goodIn_r _ [15, 11, 10, 16, 17, 18, 7, 19, 20, 21, 9, 1, 22, 23, 24, 4, 5, 6, 8, 25, 26, 27, 28, 29, 30] (by decide +kernel) (by decide +kernel)
set_option maxRecDepth 20000 in
theorem gX3_scan_X3_take : GoodIn wsX3_scan (wsV RX3 35 RX3 yX3_take wsX3_take) := goodIn_app (goodIn_of _ (by decide +kernel)) ggX3_scan_X3_take
theorem dX3_scan_0 : decode cX3_scan 0 = .ok (.aload_n 0, 1) := by decide +kernel
theorem dX3_scan_1 : decode cX3_scan 1 = .ok (.iconst (-1), 1) := by decide +kernel
theorem dX3_scan_2 : decode cX3_scan 2 = .ok (.putfield 22, 3) := by decide +kernel
theorem dX3_scan_5 : decode cX3_scan 5 = .ok (.aload_n 0, 1) := by decide +kernel
theorem dX3_scan_6 : decode cX3_scan 6 = .ok (.invokevirtual 31, 3) := by decide +kernel
theorem dX3_scan_9 : decode cX3_scan 9 = .ok (.pop, 1) := by decide +kernel
theorem dX3_scan_10 : decode cX3_scan 10 = .ok (.iconst 0, 1) := by decide +kernel
theorem dX3_scan_11 : decode cX3_scan 11 = .ok (.istore_n 1, 1) := by decide +kernel
theorem dX3_scan_12 : decode cX3_scan 12 = .ok (.iload_n 1, 1) := by decide +kernel
theorem dX3_scan_13 : decode cX3_scan 13 = .ok (.aload_n 0, 1) := by decide +kernel
theorem dX3_scan_14 : decode cX3_scan 14 = .ok (.getfield 15, 3) := by decide +kernel
theorem dX3_scan_17 : decode cX3_scan 17 = .ok (.if_icmp .ge 24, 3) := by decide +kernel
theorem dX3_scan_20 : decode cX3_scan 20 = .ok (.aload_n 0, 1) := by decide +kernel
theorem dX3_scan_21 : decode cX3_scan 21 = .ok (.aload_n 0, 1) := by decide +kernel
theorem dX3_scan_22 : decode cX3_scan 22 = .ok (.getfield 9, 3) := by decide +kernel
theorem dX3_scan_25 : decode cX3_scan 25 = .ok (.iload_n 1, 1) := by decide +kernel
theorem dX3_scan_26 : decode cX3_scan 26 = .ok (.iaload, 1) := by decide +kernel
theorem dX3_scan_27 : decode cX3_scan 27 = .ok (.invokevirtual 35, 3) := by decide +kernel
theorem dX3_scan_30 : decode cX3_scan 30 = .ok (.ifCond .ne 5, 3) := by decide +kernel
theorem dX3_scan_33 : decode cX3_scan 33 = .ok (.iload_n 1, 1) := by decide +kernel
theorem dX3_scan_34 : decode cX3_scan 34 = .ok (.ireturn, 1) := by decide +kernel
theorem dX3_scan_35 : decode cX3_scan 35 = .ok (.iinc 1 1, 3) := by decide +kernel
theorem dX3_scan_38 : decode cX3_scan 38 = .ok (.goto (-26), 3) := by decide +kernel
theorem dX3_scan_41 : decode cX3_scan 41 = .ok (.aload_n 0, 1) := by decide +kernel
theorem dX3_scan_42 : decode cX3_scan 42 = .ok (.getfield 15, 3) := by decide +kernel
theorem dX3_scan_45 : decode cX3_scan 45 = .ok (.ireturn, 1) := by decide +kernel
set_option maxRecDepth 20000 in
theorem ggX3_take_X3_takeDigit : GoodIn wsX3_take wsX3_takeDigit := goodIn_r _ [7, 1, 8, 2, 9, 10, 11, 19, 20, 21, 22, 23, 24] (by decide +kernel) (by decide +kernel)
set_option maxRecDepth 20000 in
theorem gX3_take_X3_takeDigit : GoodIn wsX3_take (wsV RX3 39 RX3 yX3_takeDigit wsX3_takeDigit) := goodIn_app (goodIn_of _ (by decide +kernel)) ggX3_take_X3_takeDigit
set_option maxRecDepth 20000 in
theorem ggX3_take_X3_partAfter : GoodIn wsX3_take wsX3_partAfter := goodIn_r _ [14] (by decide +kernel) (by decide +kernel)
set_option maxRecDepth 20000 in
theorem gX3_take_X3_partAfter : GoodIn wsX3_take (va_wsS RX3 42 yX3_partAfter wsX3_partAfter) := goodIn_app (goodIn_of _ (by decide +kernel)) ggX3_take_X3_partAfter
set_option maxRecDepth 20000 in
theorem ggX3_take_X3_beginPoint : GoodIn wsX3_take wsX3_beginPoint := goodIn_r _ [18, 11, 10, 2, 1, 19, 20, 21, 22, 23, 24] (by decide +kernel) (by decide +kernel)
set_option maxRecDepth 20000 in
theorem gX3_take_X3_beginPoint : GoodIn wsX3_take (wsV RX3 31 RX3 yX3_beginPoint wsX3_beginPoint) := goodIn_app (goodIn_of _ (by decide +kernel)) ggX3_take_X3_beginPoint
theorem dX3_take_0 : decode cX3_take 0 = .ok (.iload_n 1, 1) := by decide +kernel
theorem dX3_take_1 : decode cX3_take 1 = .ok (.bipush 48, 2) := by decide +kernel
theorem dX3_take_3 : decode cX3_take 3 = .ok (.if_icmp .lt 18, 3) := by decide +kernel
theorem dX3_take_6 : decode cX3_take 6 = .ok (.iload_n 1, 1) := by decide +kernel
theorem dX3_take_7 : decode cX3_take 7 = .ok (.bipush 57, 2) := by decide +kernel
theorem dX3_take_9 : decode cX3_take 9 = .ok (.if_icmp .gt 12, 3) := by decide +kernel
theorem dX3_take_12 : decode cX3_take 12 = .ok (.aload_n 0, 1) := by decide +kernel
theorem dX3_take_13 : decode cX3_take 13 = .ok (.iload_n 1, 1) := by decide +kernel
theorem dX3_take_14 : decode cX3_take 14 = .ok (.bipush 48, 2) := by decide +kernel
theorem dX3_take_16 : decode cX3_take 16 = .ok (.isub, 1) := by decide +kernel
theorem dX3_take_17 : decode cX3_take 17 = .ok (.invokevirtual 39, 3) := by decide +kernel
theorem dX3_take_20 : decode cX3_take 20 = .ok (.ireturn, 1) := by decide +kernel
theorem dX3_take_21 : decode cX3_take 21 = .ok (.aload_n 0, 1) := by decide +kernel
theorem dX3_take_22 : decode cX3_take 22 = .ok (.getfield 28, 3) := by decide +kernel
theorem dX3_take_25 : decode cX3_take 25 = .ok (.iconst (-1), 1) := by decide +kernel
theorem dX3_take_26 : decode cX3_take 26 = .ok (.if_icmp .ne 7, 3) := by decide +kernel
theorem dX3_take_29 : decode cX3_take 29 = .ok (.iconst (-1), 1) := by decide +kernel
theorem dX3_take_30 : decode cX3_take 30 = .ok (.goto 11, 3) := by decide +kernel
theorem dX3_take_33 : decode cX3_take 33 = .ok (.aload_n 0, 1) := by decide +kernel
theorem dX3_take_34 : decode cX3_take 34 = .ok (.getfield 25, 3) := by decide +kernel
theorem dX3_take_37 : decode cX3_take 37 = .ok (.iload_n 1, 1) := by decide +kernel
theorem dX3_take_38 : decode cX3_take 38 = .ok (.invokestatic 42, 3) := by decide +kernel
theorem dX3_take_41 : decode cX3_take 41 = .ok (.istore_n 2, 1) := by decide +kernel
theorem dX3_take_42 : decode cX3_take 42 = .ok (.iload_n 2, 1) := by decide +kernel
theorem dX3_take_43 : decode cX3_take 43 = .ok (.iconst (-1), 1) := by decide +kernel
theorem dX3_take_44 : decode cX3_take 44 = .ok (.if_icmp .ne 5, 3) := by decide +kernel
theorem dX3_take_47 : decode cX3_take 47 = .ok (.iconst 0, 1) := by decide +kernel
theorem dX3_take_48 : decode cX3_take 48 = .ok (.ireturn, 1) := by decide +kernel
theorem dX3_take_49 : decode cX3_take 49 = .ok (.iload_n 2, 1) := by decide +kernel
theorem dX3_take_50 : decode cX3_take 50 = .ok (.ifCond .ne 8, 3) := by decide +kernel
theorem dX3_take_53 : decode cX3_take 53 = .ok (.aload_n 0, 1) := by decide +kernel
theorem dX3_take_54 : decode cX3_take 54 = .ok (.invokevirtual 31, 3) := by decide +kernel
theorem dX3_take_57 : decode cX3_take 57 = .ok (.ireturn, 1) := by decide +kernel
theorem dX3_take_58 : decode cX3_take 58 = .ok (.aload_n 0, 1) := by decide +kernel
theorem dX3_take_59 : decode cX3_take 59 = .ok (.iload_n 2, 1) := by decide +kernel
theorem dX3_take_60 : decode cX3_take 60 = .ok (.putfield 25, 3) := by decide +kernel
theorem dX3_take_63 : decode cX3_take 63 = .ok (.aload_n 0, 1) := by decide +kernel
theorem dX3_take_64 : decode cX3_take 64 = .ok (.iconst (-1), 1) := by decide +kernel
theorem dX3_take_65 : decode cX3_take 65 = .ok (.putfield 28, 3) := by decide +kernel
theorem dX3_take_68 : decode cX3_take 68 = .ok (.iconst 1, 1) := by decide +kernel
theorem dX3_take_69 : decode cX3_take 69 = .ok (.ireturn, 1) := by decide +kernel
theorem dX3_takeDigit_0 : decode cX3_takeDigit 0 = .ok (.aload_n 0, 1) := by decide +kernel
theorem dX3_takeDigit_1 : decode cX3_takeDigit 1 = .ok (.getfield 28, 3) := by decide +kernel
theorem dX3_takeDigit_4 : decode cX3_takeDigit 4 = .ok (.ifCond .ne 5, 3) := by decide +kernel
theorem dX3_takeDigit_7 : decode cX3_takeDigit 7 = .ok (.iconst 0, 1) := by decide +kernel
theorem dX3_takeDigit_8 : decode cX3_takeDigit 8 = .ok (.ireturn, 1) := by decide +kernel
theorem dX3_takeDigit_9 : decode cX3_takeDigit 9 = .ok (.aload_n 0, 1) := by decide +kernel
theorem dX3_takeDigit_10 : decode cX3_takeDigit 10 = .ok (.getfield 28, 3) := by decide +kernel
theorem dX3_takeDigit_13 : decode cX3_takeDigit 13 = .ok (.iconst (-1), 1) := by decide +kernel
theorem dX3_takeDigit_14 : decode cX3_takeDigit 14 = .ok (.if_icmp .ne 7, 3) := by decide +kernel
theorem dX3_takeDigit_17 : decode cX3_takeDigit 17 = .ok (.iload_n 1, 1) := by decide +kernel
theorem dX3_takeDigit_18 : decode cX3_takeDigit 18 = .ok (.goto 12, 3) := by decide +kernel
theorem dX3_takeDigit_21 : decode cX3_takeDigit 21 = .ok (.aload_n 0, 1) := by decide +kernel
theorem dX3_takeDigit_22 : decode cX3_takeDigit 22 = .ok (.getfield 28, 3) := by decide +kernel
theorem dX3_takeDigit_25 : decode cX3_takeDigit 25 = .ok (.bipush 10, 2) := by decide +kernel
theorem dX3_takeDigit_27 : decode cX3_takeDigit 27 = .ok (.imul, 1) := by decide +kernel
theorem dX3_takeDigit_28 : decode cX3_takeDigit 28 = .ok (.iload_n 1, 1) := by decide +kernel
theorem dX3_takeDigit_29 : decode cX3_takeDigit 29 = .ok (.iadd, 1) := by decide +kernel
theorem dX3_takeDigit_30 : decode cX3_takeDigit 30 = .ok (.istore_n 2, 1) := by decide +kernel
theorem dX3_takeDigit_31 : decode cX3_takeDigit 31 = .ok (.iload_n 2, 1) := by decide +kernel
theorem dX3_takeDigit_32 : decode cX3_takeDigit 32 = .ok (.getstatic 46, 3) := by decide +kernel
theorem dX3_takeDigit_35 : decode cX3_takeDigit 35 = .ok (.aload_n 0, 1) := by decide +kernel
theorem dX3_takeDigit_36 : decode cX3_takeDigit 36 = .ok (.getfield 25, 3) := by decide +kernel
theorem dX3_takeDigit_39 : decode cX3_takeDigit 39 = .ok (.iaload, 1) := by decide +kernel
theorem dX3_takeDigit_40 : decode cX3_takeDigit 40 = .ok (.if_icmp .lt 15, 3) := by decide +kernel
theorem dX3_takeDigit_43 : decode cX3_takeDigit 43 = .ok (.iload_n 2, 1) := by decide +kernel
theorem dX3_takeDigit_44 : decode cX3_takeDigit 44 = .ok (.getstatic 49, 3) := by decide +kernel
theorem dX3_takeDigit_47 : decode cX3_takeDigit 47 = .ok (.aload_n 0, 1) := by decide +kernel
theorem dX3_takeDigit_48 : decode cX3_takeDigit 48 = .ok (.getfield 25, 3) := by decide +kernel
theorem dX3_takeDigit_51 : decode cX3_takeDigit 51 = .ok (.iaload, 1) := by decide +kernel
theorem dX3_takeDigit_52 : decode cX3_takeDigit 52 = .ok (.if_icmp .le 5, 3) := by decide +kernel
theorem dX3_takeDigit_55 : decode cX3_takeDigit 55 = .ok (.iconst 0, 1) := by decide +kernel
theorem dX3_takeDigit_56 : decode cX3_takeDigit 56 = .ok (.ireturn, 1) := by decide +kernel
theorem dX3_takeDigit_57 : decode cX3_takeDigit 57 = .ok (.aload_n 0, 1) := by decide +kernel
theorem dX3_takeDigit_58 : decode cX3_takeDigit 58 = .ok (.iload_n 2, 1) := by decide +kernel
theorem dX3_takeDigit_59 : decode cX3_takeDigit 59 = .ok (.putfield 28, 3) := by decide +kernel
theorem dX3_takeDigit_62 : decode cX3_takeDigit 62 = .ok (.aload_n 0, 1) := by decide +kernel
theorem dX3_takeDigit_63 : decode cX3_takeDigit 63 = .ok (.getfield 19, 3) := by decide +kernel
theorem dX3_takeDigit_66 : decode cX3_takeDigit 66 = .ok (.aload_n 0, 1) := by decide +kernel
theorem dX3_takeDigit_67 : decode cX3_takeDigit 67 = .ok (.getfield 22, 3) := by decide +kernel
theorem dX3_takeDigit_70 : decode cX3_takeDigit 70 = .ok (.iconst 5, 1) := by decide +kernel
theorem dX3_takeDigit_71 : decode cX3_takeDigit 71 = .ok (.imul, 1) := by decide +kernel
theorem dX3_takeDigit_72 : decode cX3_takeDigit 72 = .ok (.aload_n 0, 1) := by decide +kernel
theorem dX3_takeDigit_73 : decode cX3_takeDigit 73 = .ok (.getfield 25, 3) := by decide +kernel
theorem dX3_takeDigit_76 : decode cX3_takeDigit 76 = .ok (.iadd, 1) := by decide +kernel
theorem dX3_takeDigit_77 : decode cX3_takeDigit 77 = .ok (.aload_n 0, 1) := by decide +kernel
theorem dX3_takeDigit_78 : decode cX3_takeDigit 78 = .ok (.getfield 28, 3) := by decide +kernel
theorem dX3_takeDigit_81 : decode cX3_takeDigit 81 = .ok (.iastore, 1) := by decide +kernel
theorem dX3_takeDigit_82 : decode cX3_takeDigit 82 = .ok (.iconst 1, 1) := by decide +kernel
theorem dX3_takeDigit_83 : decode cX3_takeDigit 83 = .ok (.ireturn, 1) := by decide +kernel
theorem dX3_beginPoint_0 : decode cX3_beginPoint 0 = .ok (.aload_n 0, 1) := by decide +kernel
theorem dX3_beginPoint_1 : decode cX3_beginPoint 1 = .ok (.getfield 22, 3) := by decide +kernel
theorem dX3_beginPoint_4 : decode cX3_beginPoint 4 = .ok (.iconst 1, 1) := by decide +kernel
theorem dX3_beginPoint_5 : decode cX3_beginPoint 5 = .ok (.iadd, 1) := by decide +kernel
theorem dX3_beginPoint_6 : decode cX3_beginPoint 6 = .ok (.bipush 8, 2) := by decide +kernel
theorem dX3_beginPoint_8 : decode cX3_beginPoint 8 = .ok (.if_icmp .lt 5, 3) := by decide +kernel
theorem dX3_beginPoint_11 : decode cX3_beginPoint 11 = .ok (.iconst 0, 1) := by decide +kernel
theorem dX3_beginPoint_12 : decode cX3_beginPoint 12 = .ok (.ireturn, 1) := by decide +kernel
theorem dX3_beginPoint_13 : decode cX3_beginPoint 13 = .ok (.aload_n 0, 1) := by decide +kernel
theorem dX3_beginPoint_14 : decode cX3_beginPoint 14 = .ok (.dup, 1) := by decide +kernel
theorem dX3_beginPoint_15 : decode cX3_beginPoint 15 = .ok (.getfield 22, 3) := by decide +kernel
theorem dX3_beginPoint_18 : decode cX3_beginPoint 18 = .ok (.iconst 1, 1) := by decide +kernel
theorem dX3_beginPoint_19 : decode cX3_beginPoint 19 = .ok (.iadd, 1) := by decide +kernel
theorem dX3_beginPoint_20 : decode cX3_beginPoint 20 = .ok (.putfield 22, 3) := by decide +kernel
theorem dX3_beginPoint_23 : decode cX3_beginPoint 23 = .ok (.aload_n 0, 1) := by decide +kernel
theorem dX3_beginPoint_24 : decode cX3_beginPoint 24 = .ok (.getfield 19, 3) := by decide +kernel
theorem dX3_beginPoint_27 : decode cX3_beginPoint 27 = .ok (.aload_n 0, 1) := by decide +kernel
theorem dX3_beginPoint_28 : decode cX3_beginPoint 28 = .ok (.getfield 22, 3) := by decide +kernel
theorem dX3_beginPoint_31 : decode cX3_beginPoint 31 = .ok (.iconst 5, 1) := by decide +kernel
theorem dX3_beginPoint_32 : decode cX3_beginPoint 32 = .ok (.imul, 1) := by decide +kernel
theorem dX3_beginPoint_33 : decode cX3_beginPoint 33 = .ok (.iconst 4, 1) := by decide +kernel
theorem dX3_beginPoint_34 : decode cX3_beginPoint 34 = .ok (.iadd, 1) := by decide +kernel
theorem dX3_beginPoint_35 : decode cX3_beginPoint 35 = .ok (.iconst 1, 1) := by decide +kernel
theorem dX3_beginPoint_36 : decode cX3_beginPoint 36 = .ok (.iastore, 1) := by decide +kernel
theorem dX3_beginPoint_37 : decode cX3_beginPoint 37 = .ok (.aload_n 0, 1) := by decide +kernel
theorem dX3_beginPoint_38 : decode cX3_beginPoint 38 = .ok (.iconst 0, 1) := by decide +kernel
theorem dX3_beginPoint_39 : decode cX3_beginPoint 39 = .ok (.putfield 25, 3) := by decide +kernel
theorem dX3_beginPoint_42 : decode cX3_beginPoint 42 = .ok (.aload_n 0, 1) := by decide +kernel
theorem dX3_beginPoint_43 : decode cX3_beginPoint 43 = .ok (.iconst (-1), 1) := by decide +kernel
theorem dX3_beginPoint_44 : decode cX3_beginPoint 44 = .ok (.putfield 28, 3) := by decide +kernel
theorem dX3_beginPoint_47 : decode cX3_beginPoint 47 = .ok (.iconst 1, 1) := by decide +kernel
theorem dX3_beginPoint_48 : decode cX3_beginPoint 48 = .ok (.ireturn, 1) := by decide +kernel
theorem dX3_partAfter_0 : decode cX3_partAfter 0 = .ok (.iload_n 0, 1) := by decide +kernel
theorem dX3_partAfter_1 : decode cX3_partAfter 1 = .ok (.tableswitch 89 0 3 #[31, 43, 55, 67], 31) := by decide +kernel
theorem dX3_partAfter_32 : decode cX3_partAfter 32 = .ok (.iload_n 1, 1) := by decide +kernel
theorem dX3_partAfter_33 : decode cX3_partAfter 33 = .ok (.bipush 44, 2) := by decide +kernel
theorem dX3_partAfter_35 : decode cX3_partAfter 35 = .ok (.if_icmp .ne 7, 3) := by decide +kernel
theorem dX3_partAfter_38 : decode cX3_partAfter 38 = .ok (.iconst 1, 1) := by decide +kernel
theorem dX3_partAfter_39 : decode cX3_partAfter 39 = .ok (.goto 4, 3) := by decide +kernel
theorem dX3_partAfter_42 : decode cX3_partAfter 42 = .ok (.iconst (-1), 1) := by decide +kernel
theorem dX3_partAfter_43 : decode cX3_partAfter 43 = .ok (.ireturn, 1) := by decide +kernel
theorem dX3_partAfter_44 : decode cX3_partAfter 44 = .ok (.iload_n 1, 1) := by decide +kernel
theorem dX3_partAfter_45 : decode cX3_partAfter 45 = .ok (.bipush 58, 2) := by decide +kernel
theorem dX3_partAfter_47 : decode cX3_partAfter 47 = .ok (.if_icmp .ne 7, 3) := by decide +kernel
theorem dX3_partAfter_50 : decode cX3_partAfter 50 = .ok (.iconst 2, 1) := by decide +kernel
theorem dX3_partAfter_51 : decode cX3_partAfter 51 = .ok (.goto 4, 3) := by decide +kernel
theorem dX3_partAfter_54 : decode cX3_partAfter 54 = .ok (.iconst (-1), 1) := by decide +kernel
theorem dX3_partAfter_55 : decode cX3_partAfter 55 = .ok (.ireturn, 1) := by decide +kernel
theorem dX3_partAfter_56 : decode cX3_partAfter 56 = .ok (.iload_n 1, 1) := by decide +kernel
theorem dX3_partAfter_57 : decode cX3_partAfter 57 = .ok (.bipush 120, 2) := by decide +kernel
theorem dX3_partAfter_59 : decode cX3_partAfter 59 = .ok (.if_icmp .ne 7, 3) := by decide +kernel
theorem dX3_partAfter_62 : decode cX3_partAfter 62 = .ok (.iconst 3, 1) := by decide +kernel
theorem dX3_partAfter_63 : decode cX3_partAfter 63 = .ok (.goto 4, 3) := by decide +kernel
theorem dX3_partAfter_66 : decode cX3_partAfter 66 = .ok (.iconst (-1), 1) := by decide +kernel
theorem dX3_partAfter_67 : decode cX3_partAfter 67 = .ok (.ireturn, 1) := by decide +kernel
theorem dX3_partAfter_68 : decode cX3_partAfter 68 = .ok (.iload_n 1, 1) := by decide +kernel
theorem dX3_partAfter_69 : decode cX3_partAfter 69 = .ok (.bipush 42, 2) := by decide +kernel
theorem dX3_partAfter_71 : decode cX3_partAfter 71 = .ok (.if_icmp .ne 7, 3) := by decide +kernel
theorem dX3_partAfter_74 : decode cX3_partAfter 74 = .ok (.iconst 4, 1) := by decide +kernel
theorem dX3_partAfter_75 : decode cX3_partAfter 75 = .ok (.goto 14, 3) := by decide +kernel
theorem dX3_partAfter_78 : decode cX3_partAfter 78 = .ok (.iload_n 1, 1) := by decide +kernel
theorem dX3_partAfter_79 : decode cX3_partAfter 79 = .ok (.bipush 59, 2) := by decide +kernel
theorem dX3_partAfter_81 : decode cX3_partAfter 81 = .ok (.if_icmp .ne 7, 3) := by decide +kernel
theorem dX3_partAfter_84 : decode cX3_partAfter 84 = .ok (.iconst 0, 1) := by decide +kernel
theorem dX3_partAfter_85 : decode cX3_partAfter 85 = .ok (.goto 4, 3) := by decide +kernel
theorem dX3_partAfter_88 : decode cX3_partAfter 88 = .ok (.iconst (-1), 1) := by decide +kernel
theorem dX3_partAfter_89 : decode cX3_partAfter 89 = .ok (.ireturn, 1) := by decide +kernel
theorem dX3_partAfter_90 : decode cX3_partAfter 90 = .ok (.iload_n 1, 1) := by decide +kernel
theorem dX3_partAfter_91 : decode cX3_partAfter 91 = .ok (.bipush 59, 2) := by decide +kernel
theorem dX3_partAfter_93 : decode cX3_partAfter 93 = .ok (.if_icmp .ne 7, 3) := by decide +kernel
theorem dX3_partAfter_96 : decode cX3_partAfter 96 = .ok (.iconst 0, 1) := by decide +kernel
theorem dX3_partAfter_97 : decode cX3_partAfter 97 = .ok (.goto 4, 3) := by decide +kernel
theorem dX3_partAfter_100 : decode cX3_partAfter 100 = .ok (.iconst (-1), 1) := by decide +kernel
theorem dX3_partAfter_101 : decode cX3_partAfter 101 = .ok (.ireturn, 1) := by decide +kernel
