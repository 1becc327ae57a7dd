set_option maxRecDepth 20000 in
theorem ggL_law_X4_firstError : GoodIn wsL_law wsX4_firstError := goodIn_r _ [517, 24, 518, 519, 520, 23, 521, 47, 45, 44, 522, 523, 524, 525, 46, 48, 49, 526, 527, 528, 529, 530, 531, 532, 533, 534, 535, 536, 537, 538, 896, 897, 898, 899, 921, 922, 923, 924, 925, 926] (by decide +kernel) (by decide +kernel)
set_option maxRecDepth 20000 in
theorem gL_law_X4_firstError : GoodIn wsL_law (wsV RL 121 RX4 yX4_firstError wsX4_firstError) := goodIn_app (goodIn_of _ (by decide +kernel)) ggL_law_X4_firstError
set_option maxRecDepth 20000 in
theorem ggL_law_X5_firstError : GoodIn wsL_law wsX5_firstError := goodIn_r _ [542, 82, 543, 544, 545, 546, 5, 547, 548, 549, 505, 550, 551, 552, 553, 81, 554, 555, 556, 557, 558, 559, 560, 561, 77, 160, 161, 162, 562, 563, 564, 565, 900, 901, 902, 903, 904, 905, 906, 907, 908, 909, 910, 911, 912, 913, 914, 915] (by decide +kernel) (by decide +kernel)
set_option maxRecDepth 20000 in
theorem gL_law_X5_firstError : GoodIn wsL_law (wsV RL 124 RX5 yX5_firstError wsX5_firstError) := goodIn_app (goodIn_of _ (by decide +kernel)) ggL_law_X5_firstError
set_option maxRecDepth 20000 in
theorem ggL_law_L_read : GoodIn wsL_law wsL_read := goodIn_ca (goodIn_r _ [568, 87, 569, 570, 571, 2, 572, 93, 94, 24, 496, 20, 16, 518, 519, 520, 23, 521, 47, 45, 44, 522, 523, 524, 525, 46, 48, 49, 526, 527, 528, 529, 530, 531, 532, 533, 534, 535, 536, 537, 538, 573, 574, 575, 576, 114, 115, 116, 19, 117, 40, 118, 38, 119, 120, 121, 122, 39, 123, 124, 125, 126, 127, 577, 578, 579, 580, 581, 582, 583, 584, 585, 586, 587, 588, 106, 107, 108, 15, 109, 34, 110, 111, 112, 113, 33, 128, 129, 130, 131, 132, 133, 134, 135, 136, 137, 138, 139, 140, 141, 142, 143, 144, 145, 146, 147, 148, 149, 150, 151, 896, 897, 898, 899, 921, 922, 923, 924, 925, 926, 918, 919, 920, 916, 917] (by decide +kernel) (by decide +kernel)) (goodIn_sub (fun _ h => List.mem_append_left _ (List.mem_append_left _ (List.mem_append_right _ h))) (by decide +kernel))
set_option maxRecDepth 20000 in
theorem gL_law_L_read : GoodIn wsL_law (va_wsS RL 125 yL_read wsL_read) := goodIn_app (goodIn_of _ (by decide +kernel)) ggL_law_L_read
set_option maxRecDepth 20000 in
theorem ggL_law_X5_read : GoodIn wsL_law wsX5_read := goodIn_r _ [592, 82, 548, 505, 549, 81, 544, 545, 546, 5, 547, 543, 550, 551, 552, 553, 554, 555, 556, 557, 558, 559, 560, 561, 77, 160, 161, 162, 562, 563, 564, 565, 257, 258, 259, 260, 171, 172, 173, 174, 175, 76, 75, 156, 157, 158, 159, 163, 164, 165, 166, 167, 168, 169, 170, 176, 177, 178, 179, 180, 181, 182, 183, 184, 185, 186, 187, 188, 189, 190, 191, 192, 193, 194, 195, 196, 197, 198, 199, 200, 201, 202, 203, 204, 205, 206, 207, 900, 901, 902, 903, 904, 905, 906, 907, 908, 909, 910, 911, 912, 913, 914, 915] (by decide +kernel) (by decide +kernel)
set_option maxRecDepth 20000 in
theorem gL_law_X5_read : GoodIn wsL_law (wsV RL 128 RX5 yX5_read wsX5_read) := goodIn_app (goodIn_of _ (by decide +kernel)) ggL_law_X5_read
set_option maxRecDepth 20000 in
theorem ggL_law_L_undo : GoodIn wsL_law wsL_undo := goodIn_ca (goodIn_r _ [595, 88, 596, 597, 598, 2, 599, 95, 96, 20, 600, 16, 601, 602, 603, 19, 604, 40, 38, 118, 119, 120, 121, 122, 39, 123, 896, 897, 898, 899, 918, 919, 920, 916, 917] (by decide +kernel) (by decide +kernel)) (goodIn_sub (fun _ h => List.mem_append_left _ (List.mem_append_right _ h)) (by decide +kernel))
set_option maxRecDepth 20000 in
theorem gL_law_L_undo : GoodIn wsL_law (va_wsS RL 129 yL_undo wsL_undo) := goodIn_app (goodIn_of _ (by decide +kernel)) ggL_law_L_undo
set_option maxRecDepth 20000 in
theorem ggL_law_X5_undo : GoodIn wsL_law wsX5_undo := goodIn_r _ [608, 82, 175, 75, 76, 257, 258, 259, 5, 260, 900, 901, 902, 903, 904, 905, 906, 907, 908, 909, 910, 911, 912, 913, 914, 915] (by decide +kernel) (by decide +kernel)
set_option maxRecDepth 20000 in
theorem gL_law_X5_undo : GoodIn wsL_law (wsV RL 131 RX5 yX5_undo wsX5_undo) := goodIn_app (goodIn_of _ (by decide +kernel)) ggL_law_X5_undo
set_option maxRecDepth 20000 in
theorem ggL_law_L_point : GoodIn wsL_law wsL_point := goodIn_ca (goodIn_ca (goodIn_r _ [611, 215, 87, 612, 613, 614, 2, 615, 220, 221, 93, 94, 16, 222, 223, 224, 15, 225, 34, 616, 617, 618, 619, 283, 295, 231, 232, 233, 234, 235, 236, 237, 33, 144, 145, 146, 147, 148, 149, 150, 151, 311, 312, 313, 314, 230, 315, 316, 317, 318, 319, 320, 136, 137, 138, 139, 321, 322, 323, 324, 325, 326, 327, 328, 329, 330, 331, 332, 333, 334, 620, 621, 622, 623, 624, 625, 626, 627, 628, 629, 630, 631, 896, 897, 898, 899, 916, 917] (by decide +kernel) (by decide +kernel)) (goodIn_sub (fun _ h => List.mem_append_right _ h) (by decide +kernel))) (goodIn_sub (fun _ h => List.mem_append_left _ (List.mem_append_left _ (List.mem_append_right _ h))) (by decide +kernel))
set_option maxRecDepth 20000 in
theorem gL_law_L_point : GoodIn wsL_law (va_wsS RL 132 yL_point wsL_point) := goodIn_app (goodIn_of _ (by decide +kernel)) ggL_law_L_point
set_option maxRecDepth 20000 in
theorem ggL_law_X5_point : GoodIn wsL_law wsX5_point := goodIn_r _ [635, 82, 253, 254, 255, 5, 256, 75, 160, 161, 162, 257, 258, 259, 260, 636, 637, 638, 639, 180, 181, 182, 183, 167, 168, 169, 170, 265, 266, 267, 268, 269, 270, 271, 272, 188, 189, 190, 191, 192, 193, 194, 195, 196, 197, 198, 199, 200, 201, 202, 203, 184, 185, 186, 187, 640, 641, 642, 643, 344, 345, 346, 347, 348, 349, 350, 351, 352, 353, 354, 355, 356, 357, 644, 645, 646, 647, 900, 901, 902, 903, 904, 905, 906, 907, 908, 909, 910, 911, 912, 913, 914, 915] (by decide +kernel) (by decide +kernel)
set_option maxRecDepth 20000 in
theorem gL_law_X5_point : GoodIn wsL_law (wsV RL 134 RX5 yX5_point wsX5_point) := goodIn_app (goodIn_of _ (by decide +kernel)) ggL_law_X5_point
set_option maxRecDepth 20000 in
theorem ggL_law_L_clash : GoodIn wsL_law wsL_clash := goodIn_ca (goodIn_ca (goodIn_r _ [650, 215, 87, 651, 652, 653, 2, 654, 220, 221, 93, 94, 16, 222, 223, 224, 15, 225, 34, 308, 309, 310, 655, 322, 323, 324, 33, 144, 145, 146, 147, 325, 326, 327, 328, 329, 330, 331, 332, 333, 334, 148, 149, 150, 151, 896, 897, 898, 899, 916, 917] (by decide +kernel) (by decide +kernel)) (goodIn_sub (fun _ h => List.mem_append_right _ h) (by decide +kernel))) (goodIn_sub (fun _ h => List.mem_append_left _ (List.mem_append_left _ (List.mem_append_right _ h))) (by decide +kernel))
set_option maxRecDepth 20000 in
theorem gL_law_L_clash : GoodIn wsL_law (va_wsS RL 135 yL_clash wsL_clash) := goodIn_app (goodIn_of _ (by decide +kernel)) ggL_law_L_clash
set_option maxRecDepth 20000 in
theorem ggL_law_X5_clash : GoodIn wsL_law wsX5_clash := goodIn_r _ [659, 82, 253, 254, 255, 5, 256, 75, 160, 161, 162, 257, 258, 259, 260, 348, 349, 350, 351, 192, 193, 194, 195, 188, 189, 190, 191, 167, 168, 169, 170, 352, 353, 354, 355, 356, 357, 200, 201, 202, 203, 196, 197, 198, 199, 900, 901, 902, 903, 904, 905, 906, 907, 908, 909, 910, 911, 912, 913, 914, 915] (by decide +kernel) (by decide +kernel)
set_option maxRecDepth 20000 in
theorem gL_law_X5_clash : GoodIn wsL_law (wsV RL 138 RX5 yX5_clash wsX5_clash) := goodIn_app (goodIn_of _ (by decide +kernel)) ggL_law_X5_clash
set_option maxRecDepth 20000 in
theorem ggL_law_L_at : GoodIn wsL_law wsL_at := goodIn_ca (goodIn_r _ [662, 87, 663, 664, 665, 2, 666, 93, 94, 16, 97, 98, 99, 667, 111, 112, 15, 113, 34, 33, 668, 133, 134, 135, 136, 137, 138, 139, 140, 141, 142, 143, 144, 145, 146, 147, 148, 149, 150, 151, 896, 897, 898, 899, 916, 917] (by decide +kernel) (by decide +kernel)) (goodIn_sub (fun _ h => List.mem_append_left _ (List.mem_append_left _ (List.mem_append_right _ h))) (by decide +kernel))
set_option maxRecDepth 20000 in
theorem gL_law_L_at : GoodIn wsL_law (va_wsS RL 139 yL_at wsL_at) := goodIn_app (goodIn_of _ (by decide +kernel)) ggL_law_L_at
set_option maxRecDepth 20000 in
theorem ggL_law_X5_at : GoodIn wsL_law wsX5_at := goodIn_r _ [672, 82, 160, 161, 5, 162, 673, 674, 675, 676, 75, 180, 181, 182, 183, 167, 168, 169, 170, 184, 185, 186, 187, 188, 189, 190, 191, 192, 193, 194, 195, 196, 197, 198, 199, 200, 201, 202, 203, 163, 164, 165, 166, 257, 258, 259, 260, 900, 901, 902, 903, 904, 905, 906, 907, 908, 909, 910, 911, 912, 913, 914, 915] (by decide +kernel) (by decide +kernel)
set_option maxRecDepth 20000 in
theorem gL_law_X5_at : GoodIn wsL_law (wsV RL 141 RX5 yX5_at wsX5_at) := goodIn_app (goodIn_of _ (by decide +kernel)) ggL_law_X5_at
set_option maxRecDepth 20000 in
theorem ggL_law_L_count : GoodIn wsL_law wsL_count := goodIn_ca (goodIn_r _ [679, 87, 680, 681, 682, 2, 683, 93, 94, 684, 685, 686, 687, 16, 410, 28, 20, 600, 477, 478, 479, 15, 480, 34, 136, 137, 138, 139, 33, 688, 689, 690, 691, 692, 693, 694, 695, 696, 697, 698, 699, 700, 701, 702, 703, 230, 231, 232, 233, 234, 235, 236, 237, 144, 145, 146, 147, 148, 149, 150, 151, 373, 374, 375, 27, 376, 377, 53, 54, 55, 378, 56, 57, 379, 380, 381, 382, 383, 315, 316, 384, 322, 323, 324, 325, 326, 327, 328, 329, 330, 331, 332, 333, 334, 704, 705, 706, 707, 708, 709, 710, 711, 712, 621, 622, 623, 624, 625, 626, 627, 628, 629, 630, 631, 896, 897, 898, 899, 916, 917, 918, 919, 920, 927, 928, 929, 930, 931, 932, 933, 934, 935, 936, 937, 938, 939, 940, 941, 942, 943] (by decide +kernel) (by decide +kernel)) (goodIn_sub (fun _ h => List.mem_append_left _ (List.mem_append_left _ (List.mem_append_right _ h))) (by decide +kernel))
set_option maxRecDepth 20000 in
theorem gL_law_L_count : GoodIn wsL_law (va_wsS RL 142 yL_count wsL_count) := goodIn_app (goodIn_of _ (by decide +kernel)) ggL_law_L_count
set_option maxRecDepth 20000 in
theorem ggL_law_X5_count : GoodIn wsL_law wsX5_count := goodIn_r _ [716, 82, 160, 161, 5, 162, 717, 718, 719, 720, 75, 175, 485, 486, 487, 488, 180, 181, 182, 183, 167, 168, 169, 170, 721, 722, 723, 724, 725, 726, 727, 728, 729, 730, 731, 732, 265, 266, 267, 268, 269, 270, 271, 272, 188, 189, 190, 191, 192, 193, 194, 195, 196, 197, 198, 199, 200, 201, 202, 203, 184, 185, 186, 187, 733, 734, 735, 736, 737, 738, 739, 740, 348, 349, 350, 351, 352, 353, 354, 355, 356, 357, 741, 742, 743, 744, 644, 645, 646, 647, 257, 258, 259, 260, 900, 901, 902, 903, 904, 905, 906, 907, 908, 909, 910, 911, 912, 913, 914, 915] (by decide +kernel) (by decide +kernel)
set_option maxRecDepth 20000 in
theorem gL_law_X5_count : GoodIn wsL_law (wsV RL 144 RX5 yX5_count wsX5_count) := goodIn_app (goodIn_of _ (by decide +kernel)) ggL_law_X5_count
set_option maxRecDepth 20000 in
theorem ggL_law_L_best : GoodIn wsL_law wsL_best := goodIn_ca (goodIn_r _ [747, 215, 748, 749, 750, 2, 751, 220, 221, 16, 28, 752, 222, 223, 224, 15, 225, 34, 373, 374, 375, 27, 376, 377, 53, 54, 55, 378, 56, 57, 379, 231, 232, 233, 234, 235, 236, 237, 33, 144, 145, 146, 147, 148, 149, 150, 151, 380, 381, 382, 383, 315, 316, 384, 322, 323, 324, 325, 326, 327, 328, 329, 330, 331, 332, 333, 334, 753, 754, 755, 756, 69, 66, 68, 405, 120, 121, 122, 757, 386, 387, 388, 58, 61, 62, 389, 390, 391, 392, 64, 59, 63, 67, 393, 394, 395, 396, 397, 398, 399, 400, 65, 401, 402, 403, 404, 896, 897, 898, 899, 927, 928, 929, 930, 931, 932, 933, 934, 935, 936, 937, 938, 939, 940, 941, 942, 943, 916, 917] (by decide +kernel) (by decide +kernel)) (goodIn_sub (fun _ h => List.mem_append_right _ h) (by decide +kernel))
set_option maxRecDepth 20000 in
theorem gL_law_L_best : GoodIn wsL_law (va_wsS RL 145 yL_best wsL_best) := goodIn_app (goodIn_of _ (by decide +kernel)) ggL_law_L_best
set_option maxRecDepth 20000 in
theorem ggL_law_X5_best : GoodIn wsL_law wsX5_best := goodIn_r _ [761, 82, 253, 254, 255, 5, 256, 75, 160, 161, 162, 762, 763, 764, 765, 80, 416, 417, 418, 419, 79, 265, 266, 267, 268, 269, 270, 271, 272, 188, 189, 190, 191, 167, 168, 169, 170, 192, 193, 194, 195, 196, 197, 198, 199, 200, 201, 202, 203, 184, 185, 186, 187, 420, 421, 422, 423, 424, 425, 78, 426, 427, 428, 429, 430, 431, 432, 433, 434, 435, 436, 437, 180, 181, 182, 183, 438, 439, 440, 441, 442, 443, 444, 445, 348, 349, 350, 351, 352, 353, 354, 355, 356, 357, 257, 258, 259, 260, 900, 901, 902, 903, 904, 905, 906, 907, 908, 909, 910, 911, 912, 913, 914, 915] (by decide +kernel) (by decide +kernel)
set_option maxRecDepth 20000 in
theorem gL_law_X5_best : GoodIn wsL_law (wsV RL 147 RX5 yX5_best wsX5_best) := goodIn_app (goodIn_of _ (by decide +kernel)) ggL_law_X5_best
set_option maxRecDepth 20000 in
theorem ggL_law_L_bestWeight : GoodIn wsL_law wsL_bestWeight := goodIn_ca (goodIn_r _ [768, 215, 769, 770, 771, 2, 772, 220, 221, 16, 28, 222, 223, 224, 15, 225, 34, 373, 374, 375, 27, 376, 377, 53, 54, 55, 378, 56, 57, 379, 231, 232, 233, 234, 235, 236, 237, 33, 144, 145, 146, 147, 148, 149, 150, 151, 380, 381, 382, 383, 315, 316, 384, 322, 323, 324, 325, 326, 327, 328, 329, 330, 331, 332, 333, 334, 385, 386, 387, 388, 58, 61, 62, 389, 390, 391, 392, 64, 59, 63, 67, 393, 394, 395, 396, 397, 398, 399, 400, 65, 401, 402, 403, 404, 66, 405, 120, 121, 122, 896, 897, 898, 899, 916, 917, 927, 928, 929, 930, 931, 932, 933, 934, 935, 936, 937, 938, 939, 940, 941, 942, 943] (by decide +kernel) (by decide +kernel)) (goodIn_sub (fun _ h => List.mem_append_right _ h) (by decide +kernel))
set_option maxRecDepth 20000 in
theorem gL_law_L_bestWeight : GoodIn wsL_law (va_wsS RL 148 yL_bestWeight wsL_bestWeight) := goodIn_app (goodIn_of _ (by decide +kernel)) ggL_law_L_bestWeight
set_option maxRecDepth 20000 in
theorem ggL_law_X5_bestWeight : GoodIn wsL_law wsX5_bestWeight := goodIn_r _ [776, 82, 253, 254, 255, 5, 256, 75, 160, 161, 162, 416, 417, 418, 419, 79, 265, 266, 267, 268, 269, 270, 271, 272, 188, 189, 190, 191, 167, 168, 169, 170, 192, 193, 194, 195, 196, 197, 198, 199, 200, 201, 202, 203, 184, 185, 186, 187, 420, 421, 422, 423, 424, 425, 78, 426, 427, 428, 429, 80, 430, 431, 432, 433, 434, 435, 436, 437, 180, 181, 182, 183, 438, 439, 440, 441, 442, 443, 444, 445, 348, 349, 350, 351, 352, 353, 354, 355, 356, 357, 257, 258, 259, 260, 900, 901, 902, 903, 904, 905, 906, 907, 908, 909, 910, 911, 912, 913, 914, 915] (by decide +kernel) (by decide +kernel)
set_option maxRecDepth 20000 in
theorem gL_law_X5_bestWeight : GoodIn wsL_law (wsV RL 150 RX5 yX5_bestWeight wsX5_bestWeight) := goodIn_app (goodIn_of _ (by decide +kernel)) ggL_law_X5_bestWeight
set_option maxRecDepth 20000 in
theorem ggL_law_L_ifPushed : GoodIn wsL_law wsL_ifPushed := goodIn_ca (goodIn_r _ [779, 215, 780, 781, 782, 2, 783, 220, 221, 16, 28, 222, 223, 224, 15, 225, 34, 373, 374, 375, 27, 376, 377, 53, 54, 55, 378, 56, 57, 379, 231, 232, 233, 234, 235, 236, 237, 33, 144, 145, 146, 147, 148, 149, 150, 151, 380, 381, 382, 383, 315, 316, 384, 322, 323, 324, 325, 326, 327, 328, 329, 330, 331, 332, 333, 334, 457, 458, 459, 460, 58, 61, 62, 389, 390, 391, 392, 64, 59, 63, 67, 393, 394, 395, 396, 397, 398, 399, 400, 65, 401, 402, 403, 404, 66, 405, 120, 121, 122, 896, 897, 898, 899, 916, 917, 927, 928, 929, 930, 931, 932, 933, 934, 935, 936, 937, 938, 939, 940, 941, 942, 943] (by decide +kernel) (by decide +kernel)) (goodIn_sub (fun _ h => List.mem_append_right _ h) (by decide +kernel))
set_option maxRecDepth 20000 in
theorem gL_law_L_ifPushed : GoodIn wsL_law (va_wsS RL 151 yL_ifPushed wsL_ifPushed) := goodIn_app (goodIn_of _ (by decide +kernel)) ggL_law_L_ifPushed
set_option maxRecDepth 20000 in
theorem ggL_law_X5_ifPushed : GoodIn wsL_law wsX5_ifPushed := goodIn_r _ [787, 82, 253, 254, 255, 5, 256, 75, 160, 161, 162, 465, 466, 467, 468, 79, 180, 181, 182, 183, 167, 168, 169, 170, 265, 266, 267, 268, 269, 270, 271, 272, 188, 189, 190, 191, 192, 193, 194, 195, 196, 197, 198, 199, 200, 201, 202, 203, 184, 185, 186, 187, 420, 421, 422, 423, 424, 425, 78, 426, 427, 428, 429, 80, 430, 431, 432, 433, 434, 435, 436, 437, 438, 439, 440, 441, 442, 443, 444, 445, 348, 349, 350, 351, 352, 353, 354, 355, 356, 357, 257, 258, 259, 260, 900, 901, 902, 903, 904, 905, 906, 907, 908, 909, 910, 911, 912, 913, 914, 915] (by decide +kernel) (by decide +kernel)
set_option maxRecDepth 20000 in
theorem gL_law_X5_ifPushed : GoodIn wsL_law (wsV RL 153 RX5 yX5_ifPushed wsX5_ifPushed) := goodIn_app (goodIn_of _ (by decide +kernel)) ggL_law_X5_ifPushed
set_option maxRecDepth 20000 in
theorem ggL_law_X4_fullPlans : GoodIn wsL_law wsX4_fullPlans := goodIn_r _ [791, 28, 16, 373, 374, 375, 27, 376, 377, 53, 54, 55, 378, 56, 57, 379, 231, 232, 15, 233, 234, 235, 236, 237, 33, 34, 144, 145, 146, 147, 148, 149, 150, 151, 380, 381, 382, 383, 315, 2, 316, 384, 322, 323, 324, 325, 326, 327, 328, 329, 330, 331, 332, 333, 334, 792, 793, 794, 795, 796, 797, 798, 896, 897, 898, 899, 916, 917, 927, 928, 929, 930, 931, 932, 933, 934, 935, 936, 937, 938, 939, 940, 941, 942, 943] (by decide +kernel) (by decide +kernel)
set_option maxRecDepth 20000 in
theorem gL_law_X4_fullPlans : GoodIn wsL_law (wsV RL 154 RX4 yX4_fullPlans wsX4_fullPlans) := goodIn_app (goodIn_of _ (by decide +kernel)) ggL_law_X4_fullPlans
set_option maxRecDepth 20000 in
theorem ggL_law_X5_fullPlans : GoodIn wsL_law wsX5_fullPlans := goodIn_r _ [802, 82, 803, 804, 805, 5, 806, 75, 79, 265, 266, 267, 268, 269, 270, 271, 272, 188, 189, 190, 191, 167, 168, 169, 170, 192, 193, 194, 195, 196, 197, 198, 199, 200, 201, 202, 203, 184, 185, 186, 187, 160, 161, 162, 420, 421, 422, 423, 424, 425, 78, 426, 427, 428, 429, 80, 430, 431, 432, 433, 434, 435, 436, 437, 180, 181, 182, 183, 438, 439, 440, 441, 442, 443, 444, 445, 348, 349, 350, 351, 352, 353, 354, 355, 356, 357, 900, 901, 902, 903, 904, 905, 906, 907, 908, 909, 910, 911, 912, 913, 914, 915] (by decide +kernel) (by decide +kernel)
set_option maxRecDepth 20000 in
theorem gL_law_X5_fullPlans : GoodIn wsL_law (wsV RL 157 RX5 yX5_fullPlans wsX5_fullPlans) := goodIn_app (goodIn_of _ (by decide +kernel)) ggL_law_X5_fullPlans
set_option maxRecDepth 20000 in
theorem ggL_law_X4_dearest : GoodIn wsL_law wsX4_dearest := goodIn_r _ [810, 28, 16, 373, 374, 375, 27, 376, 377, 53, 54, 55, 378, 56, 57, 379, 231, 232, 15, 233, 234, 235, 236, 237, 33, 34, 144, 145, 146, 147, 148, 149, 150, 151, 380, 381, 382, 383, 315, 2, 316, 384, 322, 323, 324, 325, 326, 327, 328, 329, 330, 331, 332, 333, 334, 811, 812, 813, 814, 70, 757, 386, 387, 388, 58, 61, 62, 389, 390, 391, 392, 64, 59, 63, 67, 393, 394, 395, 396, 397, 398, 399, 400, 65, 401, 402, 403, 404, 66, 405, 120, 121, 122, 815, 816, 817, 818, 410, 283, 819, 896, 897, 898, 899, 916, 917, 927, 928, 929, 930, 931, 932, 933, 934, 935, 936, 937, 938, 939, 940, 941, 942, 943] (by decide +kernel) (by decide +kernel)
set_option maxRecDepth 20000 in
theorem gL_law_X4_dearest : GoodIn wsL_law (wsV RL 158 RX4 yX4_dearest wsX4_dearest) := goodIn_app (goodIn_of _ (by decide +kernel)) ggL_law_X4_dearest
set_option maxRecDepth 20000 in
theorem ggL_law_X5_dearest : GoodIn wsL_law wsX5_dearest := goodIn_r _ [823, 82, 824, 825, 826, 5, 827, 75, 167, 168, 169, 170, 416, 417, 418, 419, 79, 265, 266, 267, 268, 269, 270, 271, 272, 188, 189, 190, 191, 192, 193, 194, 195, 196, 197, 198, 199, 200, 201, 202, 203, 184, 185, 186, 187, 160, 161, 162, 420, 421, 422, 423, 424, 425, 78, 426, 427, 428, 429, 80, 430, 431, 432, 433, 434, 435, 436, 437, 180, 181, 182, 183, 438, 439, 440, 441, 442, 443, 444, 445, 348, 349, 350, 351, 352, 353, 354, 355, 356, 357, 900, 901, 902, 903, 904, 905, 906, 907, 908, 909, 910, 911, 912, 913, 914, 915] (by decide +kernel) (by decide +kernel)
set_option maxRecDepth 20000 in
theorem gL_law_X5_dearest : GoodIn wsL_law (wsV RL 161 RX5 yX5_dearest wsX5_dearest) := goodIn_app (goodIn_of _ (by decide +kernel)) ggL_law_X5_dearest
set_option maxRecDepth 20000 in
theorem ggL_law_X4_standingShare : GoodIn wsL_law wsX4_standingShare := goodIn_r _ [831, 16, 692, 693, 694, 15, 695, 34, 33, 688, 689, 690, 691, 136, 137, 138, 139, 896, 897, 898, 899, 916, 917] (by decide +kernel) (by decide +kernel)
set_option maxRecDepth 20000 in
theorem gL_law_X4_standingShare : GoodIn wsL_law (wsV RL 162 RX4 yX4_standingShare wsX4_standingShare) := goodIn_app (goodIn_of _ (by decide +kernel)) ggL_law_X4_standingShare
set_option maxRecDepth 20000 in
theorem ggL_law_X5_standingShare : GoodIn wsL_law wsX5_standingShare := goodIn_r _ [835, 82, 836, 837, 838, 5, 839, 721, 722, 723, 724, 75, 180, 181, 182, 183, 167, 168, 169, 170, 900, 901, 902, 903, 904, 905, 906, 907, 908, 909, 910, 911, 912, 913, 914, 915] (by decide +kernel) (by decide +kernel)
set_option maxRecDepth 20000 in
theorem gL_law_X5_standingShare : GoodIn wsL_law (wsV RL 166 RX5 yX5_standingShare wsX5_standingShare) := goodIn_app (goodIn_of _ (by decide +kernel)) ggL_law_X5_standingShare
