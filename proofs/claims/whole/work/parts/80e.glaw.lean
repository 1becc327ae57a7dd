set_option maxRecDepth 20000 in
theorem ggL_law_X5_digest_0 : GoodIn wsL_law [.code yX5_digest cX5_digest 3 (some .long)] := goodIn_r _ [876] (by decide +kernel) (by decide +kernel)
set_option maxRecDepth 20000 in
theorem ggL_law_X5_digest_r1 : GoodIn wsL_law wsX5_digest_r1 := goodIn_r _ [82, 877, 878, 75, 505, 77, 717, 718, 719, 5, 720, 175, 485, 486, 487, 488, 180, 181, 182, 183, 167, 168, 169, 170] (by decide +kernel) (by decide +kernel)
set_option maxRecDepth 20000 in
theorem ggL_law_X5_digest_r2 : GoodIn wsL_law wsX5_digest_r2 := goodIn_r _ [721, 722, 723, 724, 725, 726, 727, 728, 729, 730, 731, 732, 265, 266, 267, 268, 269, 270, 271, 272, 188, 189, 190, 191] (by decide +kernel) (by decide +kernel)
set_option maxRecDepth 20000 in
theorem ggL_law_X5_digest_r3 : GoodIn wsL_law wsX5_digest_r3 := goodIn_r _ [192, 193, 194, 195, 196, 197, 198, 199, 200, 201, 202, 203, 184, 185, 186, 187, 160, 161, 162, 733, 734, 735, 736, 737] (by decide +kernel) (by decide +kernel)
set_option maxRecDepth 20000 in
theorem ggL_law_X5_digest_r4 : GoodIn wsL_law wsX5_digest_r4 := goodIn_r _ [738, 739, 740, 348, 349, 350, 351, 352, 353, 354, 355, 356, 357, 741, 742, 743, 744, 644, 645, 646, 647, 879, 880, 881] (by decide +kernel) (by decide +kernel)
set_option maxRecDepth 20000 in
theorem ggL_law_X5_digest_r5 : GoodIn wsL_law wsX5_digest_r5 := goodIn_r _ [882, 883, 636, 637, 638, 639, 640, 641, 642, 643, 344, 345, 346, 347, 762, 763, 764, 765, 80, 416, 417, 418, 419, 79] (by decide +kernel) (by decide +kernel)
set_option maxRecDepth 20000 in
theorem ggL_law_X5_digest_r6 : GoodIn wsL_law wsX5_digest_r6 := goodIn_r _ [420, 421, 422, 423, 424, 425, 78, 426, 427, 428, 429, 430, 431, 432, 433, 434, 435, 436, 437, 438, 439, 440, 441, 442] (by decide +kernel) (by decide +kernel)
set_option maxRecDepth 20000 in
theorem ggL_law_X5_digest_r7 : GoodIn wsL_law wsX5_digest_r7 := goodIn_r _ [443, 444, 445, 465, 466, 467, 468, 803, 804, 805, 806, 824, 825, 826, 827, 836, 837, 838, 839, 884, 885, 886, 887, 888] (by decide +kernel) (by decide +kernel)
set_option maxRecDepth 20000 in
theorem ggL_law_X5_digest_r8 : GoodIn wsL_law wsX5_digest_r8 := goodIn_r _ [889, 890, 891, 892, 893, 894, 895] (by decide +kernel) (by decide +kernel)
set_option maxRecDepth 20000 in
theorem ggL_law_X5_digest_X5 : GoodIn wsL_law wsX50 := goodIn_r _ [900, 901, 902, 903, 904, 905, 906, 907, 908, 909, 910, 911, 912, 913, 914, 915] (by decide +kernel) (by decide +kernel)
set_option maxRecDepth 20000 in
theorem ggL_law_X5_digest : GoodIn wsL_law wsX5_digest := gi_cons ggL_law_X5_digest_0 (goodIn_app (goodIn_app ggL_law_X5_digest_r1 (goodIn_app ggL_law_X5_digest_r2 (goodIn_app ggL_law_X5_digest_r3 (goodIn_app ggL_law_X5_digest_r4 (goodIn_app ggL_law_X5_digest_r5 (goodIn_app ggL_law_X5_digest_r6 (goodIn_app ggL_law_X5_digest_r7 (ggL_law_X5_digest_r8)))))))) ggL_law_X5_digest_X5)
set_option maxRecDepth 20000 in
theorem gL_law_X5_digest : GoodIn wsL_law (wsV RL 171 RX5 yX5_digest wsX5_digest) := goodIn_app (goodIn_of _ (by decide +kernel)) ggL_law_X5_digest
