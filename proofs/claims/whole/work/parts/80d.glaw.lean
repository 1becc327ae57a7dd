theorem gi_cons {big l : List Cond} {x : Cond} (h0 : GoodIn big [x]) (h : GoodIn big l) : GoodIn big (x :: l) := fun w hw => (List.mem_cons.mp hw).elim (fun e => h0 w (by rw [e]; exact List.mem_cons_self ..)) (h w)
set_option maxRecDepth 20000 in
theorem ggL_law_X4_digest_0 : GoodIn wsL_law [.code yX4_digest cX4_digest 4 (some .long)] := goodIn_r _ [843] (by decide +kernel) (by decide +kernel)
set_option maxRecDepth 20000 in
theorem ggL_law_X4_digest_r1 : GoodIn wsL_law wsX4_digest_r1 := goodIn_r _ [844, 28, 16, 845, 684, 685, 686, 2, 687, 410, 20, 600, 477, 478, 479, 15, 480, 34, 136, 137, 138, 139, 33, 688] (by decide +kernel) (by decide +kernel)
set_option maxRecDepth 20000 in
theorem ggL_law_X4_digest_r2 : GoodIn wsL_law wsX4_digest_r2 := goodIn_r _ [689, 690, 691, 692, 693, 694, 695, 696, 697, 698, 699, 700, 701, 702, 703, 230, 231, 232, 233, 234, 235, 236, 237, 144] (by decide +kernel) (by decide +kernel)
set_option maxRecDepth 20000 in
theorem ggL_law_X4_digest_r3 : GoodIn wsL_law wsX4_digest_r3 := goodIn_r _ [145, 146, 147, 148, 149, 150, 151, 373, 374, 375, 27, 376, 377, 53, 54, 55, 378, 56, 57, 379, 380, 381, 382, 383] (by decide +kernel) (by decide +kernel)
set_option maxRecDepth 20000 in
theorem ggL_law_X4_digest_r4 : GoodIn wsL_law wsX4_digest_r4 := goodIn_r _ [315, 316, 384, 322, 323, 324, 325, 326, 327, 328, 329, 330, 331, 332, 333, 334, 704, 705, 706, 707, 708, 709, 710, 711] (by decide +kernel) (by decide +kernel)
set_option maxRecDepth 20000 in
theorem ggL_law_X4_digest_r5 : GoodIn wsL_law wsX4_digest_r5 := goodIn_r _ [712, 621, 622, 623, 624, 625, 626, 627, 628, 629, 630, 631, 846, 847, 848, 849, 753, 754, 755, 756, 69, 66, 68, 405] (by decide +kernel) (by decide +kernel)
set_option maxRecDepth 20000 in
theorem ggL_law_X4_digest_r6 : GoodIn wsL_law wsX4_digest_r6 := goodIn_r _ [120, 121, 122, 757, 386, 387, 388, 58, 61, 62, 389, 390, 391, 392, 64, 59, 63, 67, 393, 394, 395, 396, 397, 398] (by decide +kernel) (by decide +kernel)
set_option maxRecDepth 20000 in
theorem ggL_law_X4_digest_r7 : GoodIn wsL_law wsX4_digest_r7 := goodIn_r _ [399, 400, 65, 401, 402, 403, 404, 811, 812, 813, 814, 70, 850, 851, 852, 853, 752, 819, 616, 617, 618, 619, 283, 295] (by decide +kernel) (by decide +kernel)
set_option maxRecDepth 20000 in
theorem ggL_law_X4_digest_r8 : GoodIn wsL_law wsX4_digest_r8 := goodIn_r _ [311, 312, 313, 314, 317, 318, 319, 320, 321, 620, 457, 458, 459, 460, 854, 855, 856, 857, 655, 792, 793, 794, 795, 796] (by decide +kernel) (by decide +kernel)
set_option maxRecDepth 20000 in
theorem ggL_law_X4_digest_r9 : GoodIn wsL_law wsX4_digest_r9 := goodIn_r _ [797, 798, 815, 816, 817, 818, 858, 829, 830, 831, 859, 860, 861, 862, 863, 864, 865, 866, 867, 868, 24, 496, 869, 870] (by decide +kernel) (by decide +kernel)
set_option maxRecDepth 20000 in
theorem ggL_law_X4_digest_r10 : GoodIn wsL_law wsX4_digest_r10 := goodIn_r _ [871, 23, 872, 44] (by decide +kernel) (by decide +kernel)
set_option maxRecDepth 20000 in
theorem ggL_law_X4_digest_X4 : GoodIn wsL_law wsX40 := goodIn_r _ [896, 897, 898, 899] (by decide +kernel) (by decide +kernel)
set_option maxRecDepth 20000 in
theorem ggL_law_X4_digest_X2 : GoodIn wsL_law wsX20 := goodIn_r _ [927, 928, 929, 930, 931, 932, 933, 934, 935, 936, 937, 938, 939, 940, 941, 942, 943] (by decide +kernel) (by decide +kernel)
set_option maxRecDepth 20000 in
theorem ggL_law_X4_digest_X0 : GoodIn wsL_law wsX00 := goodIn_r _ [916, 917] (by decide +kernel) (by decide +kernel)
set_option maxRecDepth 20000 in
theorem ggL_law_X4_digest_X1 : GoodIn wsL_law wsX10 := goodIn_r _ [918, 919, 920] (by decide +kernel) (by decide +kernel)
set_option maxRecDepth 20000 in
theorem ggL_law_X4_digest_X3 : GoodIn wsL_law wsX30 := goodIn_r _ [921, 922, 923, 924, 925, 926] (by decide +kernel) (by decide +kernel)
set_option maxRecDepth 20000 in
theorem ggL_law_X4_digest : GoodIn wsL_law wsX4_digest := gi_cons ggL_law_X4_digest_0 (goodIn_app (goodIn_app (goodIn_app (goodIn_app (goodIn_app (goodIn_app ggL_law_X4_digest_r1 (goodIn_app ggL_law_X4_digest_r2 (goodIn_app ggL_law_X4_digest_r3 (goodIn_app ggL_law_X4_digest_r4 (goodIn_app ggL_law_X4_digest_r5 (goodIn_app ggL_law_X4_digest_r6 (goodIn_app ggL_law_X4_digest_r7 (goodIn_app ggL_law_X4_digest_r8 (goodIn_app ggL_law_X4_digest_r9 (ggL_law_X4_digest_r10)))))))))) ggL_law_X4_digest_X4) ggL_law_X4_digest_X2) ggL_law_X4_digest_X0) ggL_law_X4_digest_X1) ggL_law_X4_digest_X3)
set_option maxRecDepth 20000 in
theorem gL_law_X4_digest : GoodIn wsL_law (wsV RL 167 RX4 yX4_digest wsX4_digest) := goodIn_app (goodIn_of _ (by decide +kernel)) ggL_law_X4_digest
