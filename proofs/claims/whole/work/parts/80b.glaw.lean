set_option maxRecDepth 20000 in
theorem ggL_law_X4_init : GoodIn wsL_law wsX4_init := goodIn_r _ [9, 10, 11, 12, 13, 14, 15, 16, 17, 18, 19, 20, 21, 22, 23, 24, 25, 26, 27, 28, 29, 30, 31, 32, 33, 34, 35, 36, 37, 38, 39, 40, 41, 42, 43, 44, 45, 46, 47, 48, 49, 50, 51, 52, 53, 54, 55, 56, 57, 58, 59, 60, 61, 62, 63, 64, 65, 66, 67, 68, 69, 70, 916, 917, 896, 897, 898, 899, 918, 919, 920, 921, 922, 923, 924, 925, 926, 927, 928, 929, 930, 931, 932, 933, 934, 935, 936, 937, 938, 939, 940, 941, 942, 943] (by decide +kernel) (by decide +kernel)
set_option maxRecDepth 20000 in
theorem gL_law_X4_init : GoodIn wsL_law (wsX4_init) := ggL_law_X4_init
set_option maxRecDepth 20000 in
theorem ggL_law_X5_init : GoodIn wsL_law wsX5_init := goodIn_r _ [73, 74, 11, 12, 32, 75, 76, 77, 78, 79, 80, 81, 82, 900, 901, 902, 903, 904, 905, 906, 907, 908, 909, 910, 911, 912, 913, 914, 915] (by decide +kernel) (by decide +kernel)
set_option maxRecDepth 20000 in
theorem gL_law_X5_init : GoodIn wsL_law (wsX5_init) := ggL_law_X5_init
set_option maxRecDepth 20000 in
theorem ggL_law_L_add : GoodIn wsL_law wsL_add := goodIn_ca (goodIn_ca (goodIn_r _ [86, 87, 88, 89, 90, 91, 2, 92, 93, 94, 95, 96, 16, 20, 97, 98, 99, 100, 101, 102, 103, 104, 105, 106, 107, 108, 15, 109, 34, 110, 111, 112, 113, 33, 114, 115, 116, 19, 117, 40, 118, 38, 119, 120, 121, 122, 39, 123, 124, 125, 126, 127, 128, 129, 130, 131, 132, 133, 134, 135, 136, 137, 138, 139, 140, 141, 142, 143, 144, 145, 146, 147, 148, 149, 150, 151, 896, 897, 898, 899, 916, 917, 918, 919, 920] (by decide +kernel) (by decide +kernel)) (goodIn_sub (fun _ h => List.mem_append_left _ (List.mem_append_left _ (List.mem_append_right _ h))) (by decide +kernel))) (goodIn_sub (fun _ h => List.mem_append_left _ (List.mem_append_right _ h)) (by decide +kernel))
set_option maxRecDepth 20000 in
theorem gL_law_L_add : GoodIn wsL_law (va_wsS RL 76 yL_add wsL_add) := goodIn_app (goodIn_of _ (by decide +kernel)) ggL_law_L_add
set_option maxRecDepth 20000 in
theorem ggL_law_X5_add : GoodIn wsL_law wsX5_add := goodIn_r _ [155, 82, 75, 156, 157, 158, 5, 159, 160, 161, 162, 163, 164, 165, 166, 167, 168, 169, 170, 171, 172, 173, 174, 175, 76, 176, 177, 178, 179, 180, 181, 182, 183, 184, 185, 186, 187, 188, 189, 190, 191, 192, 193, 194, 195, 196, 197, 198, 199, 200, 201, 202, 203, 204, 205, 206, 207, 900, 901, 902, 903, 904, 905, 906, 907, 908, 909, 910, 911, 912, 913, 914, 915] (by decide +kernel) (by decide +kernel)
set_option maxRecDepth 20000 in
theorem gL_law_X5_add : GoodIn wsL_law (wsV RL 81 RX5 yX5_add wsX5_add) := goodIn_app (goodIn_of _ (by decide +kernel)) ggL_law_X5_add
set_option maxRecDepth 20000 in
theorem ggL_law_X5_thrown : GoodIn wsL_law wsX5_thrown := goodIn_r _ [211, 82, 900, 901, 902, 903, 904, 905, 906, 907, 908, 909, 910, 911, 912, 913, 914, 915] (by decide +kernel) (by decide +kernel)
set_option maxRecDepth 20000 in
theorem gL_law_X5_thrown : GoodIn wsL_law (wsV RL 82 RX5 yX5_thrown wsX5_thrown) := goodIn_app (goodIn_of _ (by decide +kernel)) ggL_law_X5_thrown
set_option maxRecDepth 20000 in
theorem ggL_law_L_remove : GoodIn wsL_law wsL_remove := goodIn_ca (goodIn_r _ [214, 215, 216, 217, 218, 2, 219, 220, 221, 16, 20, 222, 223, 224, 15, 225, 34, 114, 115, 116, 19, 117, 40, 118, 38, 119, 120, 121, 122, 39, 123, 124, 125, 126, 127, 226, 227, 228, 229, 230, 231, 232, 233, 234, 235, 236, 237, 33, 144, 145, 146, 147, 148, 149, 150, 151, 238, 239, 240, 241, 242, 243, 244, 245, 246, 247, 248, 896, 897, 898, 899, 916, 917, 918, 919, 920] (by decide +kernel) (by decide +kernel)) (goodIn_sub (fun _ h => List.mem_append_right _ h) (by decide +kernel))
set_option maxRecDepth 20000 in
theorem gL_law_L_remove : GoodIn wsL_law (va_wsS RL 85 yL_remove wsL_remove) := goodIn_app (goodIn_of _ (by decide +kernel)) ggL_law_L_remove
set_option maxRecDepth 20000 in
theorem ggL_law_X5_remove : GoodIn wsL_law wsX5_remove := goodIn_r _ [252, 82, 75, 253, 254, 255, 5, 256, 160, 161, 162, 257, 258, 259, 260, 171, 172, 173, 174, 175, 76, 261, 262, 263, 264, 265, 266, 267, 268, 269, 270, 271, 272, 188, 189, 190, 191, 167, 168, 169, 170, 192, 193, 194, 195, 196, 197, 198, 199, 200, 201, 202, 203, 184, 185, 186, 187, 273, 274, 275, 900, 901, 902, 903, 904, 905, 906, 907, 908, 909, 910, 911, 912, 913, 914, 915] (by decide +kernel) (by decide +kernel)
set_option maxRecDepth 20000 in
theorem gL_law_X5_remove : GoodIn wsL_law (wsV RL 88 RX5 yX5_remove wsX5_remove) := goodIn_app (goodIn_of _ (by decide +kernel)) ggL_law_X5_remove
set_option maxRecDepth 20000 in
theorem ggL_law_L_weigh : GoodIn wsL_law wsL_weigh := goodIn_ca (goodIn_ca (goodIn_r _ [278, 215, 87, 279, 280, 281, 2, 282, 220, 221, 93, 94, 16, 20, 283, 222, 223, 224, 15, 225, 34, 103, 104, 105, 114, 115, 116, 19, 117, 40, 118, 38, 119, 120, 121, 122, 39, 123, 124, 125, 126, 127, 896, 897, 898, 899, 916, 917, 918, 919, 920] (by decide +kernel) (by decide +kernel)) (goodIn_sub (fun _ h => List.mem_append_right _ h) (by decide +kernel))) (goodIn_sub (fun _ h => List.mem_append_left _ (List.mem_append_left _ (List.mem_append_right _ h))) (by decide +kernel))
set_option maxRecDepth 20000 in
theorem gL_law_L_weigh : GoodIn wsL_law (va_wsS RL 89 yL_weigh wsL_weigh) := goodIn_app (goodIn_of _ (by decide +kernel)) ggL_law_L_weigh
set_option maxRecDepth 20000 in
theorem ggL_law_X5_weigh : GoodIn wsL_law wsX5_weigh := goodIn_r _ [287, 82, 75, 253, 254, 255, 5, 256, 160, 161, 162, 257, 258, 259, 260, 171, 172, 173, 174, 175, 76, 167, 168, 169, 170, 900, 901, 902, 903, 904, 905, 906, 907, 908, 909, 910, 911, 912, 913, 914, 915] (by decide +kernel) (by decide +kernel)
set_option maxRecDepth 20000 in
theorem gL_law_X5_weigh : GoodIn wsL_law (wsV RL 92 RX5 yX5_weigh wsX5_weigh) := goodIn_app (goodIn_of _ (by decide +kernel)) ggL_law_X5_weigh
set_option maxRecDepth 20000 in
theorem ggL_law_L_resize : GoodIn wsL_law wsL_resize := goodIn_ca (goodIn_ca (goodIn_r _ [290, 215, 87, 291, 292, 293, 2, 294, 220, 221, 93, 94, 16, 20, 283, 222, 223, 224, 15, 225, 34, 100, 101, 102, 114, 115, 116, 19, 117, 40, 118, 38, 119, 120, 121, 122, 39, 123, 124, 125, 126, 127, 295, 231, 232, 233, 234, 235, 236, 237, 33, 144, 145, 146, 147, 148, 149, 150, 151, 296, 239, 240, 241, 242, 243, 244, 896, 897, 898, 899, 916, 917, 918, 919, 920] (by decide +kernel) (by decide +kernel)) (goodIn_sub (fun _ h => List.mem_append_right _ h) (by decide +kernel))) (goodIn_sub (fun _ h => List.mem_append_left _ (List.mem_append_left _ (List.mem_append_right _ h))) (by decide +kernel))
set_option maxRecDepth 20000 in
theorem gL_law_L_resize : GoodIn wsL_law (va_wsS RL 93 yL_resize wsL_resize) := goodIn_app (goodIn_of _ (by decide +kernel)) ggL_law_L_resize
set_option maxRecDepth 20000 in
theorem ggL_law_X5_resize : GoodIn wsL_law wsX5_resize := goodIn_r _ [300, 82, 75, 253, 254, 255, 5, 256, 160, 161, 162, 257, 258, 259, 260, 171, 172, 173, 174, 175, 76, 204, 205, 206, 207, 265, 266, 267, 268, 269, 270, 271, 272, 188, 189, 190, 191, 167, 168, 169, 170, 192, 193, 194, 195, 196, 197, 198, 199, 200, 201, 202, 203, 184, 185, 186, 187, 273, 274, 275, 900, 901, 902, 903, 904, 905, 906, 907, 908, 909, 910, 911, 912, 913, 914, 915] (by decide +kernel) (by decide +kernel)
set_option maxRecDepth 20000 in
theorem gL_law_X5_resize : GoodIn wsL_law (wsV RL 96 RX5 yX5_resize wsX5_resize) := goodIn_app (goodIn_of _ (by decide +kernel)) ggL_law_X5_resize
set_option maxRecDepth 20000 in
theorem ggL_law_L_place : GoodIn wsL_law wsL_place := goodIn_ca (goodIn_ca (goodIn_ca (goodIn_r _ [303, 215, 87, 88, 304, 305, 306, 2, 307, 220, 221, 93, 94, 95, 96, 16, 20, 222, 223, 224, 15, 225, 34, 308, 309, 310, 311, 312, 313, 314, 230, 231, 232, 233, 234, 235, 236, 237, 33, 144, 145, 146, 147, 148, 149, 150, 151, 315, 316, 317, 318, 319, 320, 136, 137, 138, 139, 321, 322, 323, 324, 325, 326, 327, 328, 329, 330, 331, 332, 333, 334, 335, 114, 115, 116, 19, 117, 40, 118, 38, 119, 120, 121, 122, 39, 123, 124, 125, 126, 127, 336, 337, 338, 339, 283, 896, 897, 898, 899, 916, 917, 918, 919, 920] (by decide +kernel) (by decide +kernel)) (goodIn_sub (fun _ h => List.mem_append_right _ h) (by decide +kernel))) (goodIn_sub (fun _ h => List.mem_append_left _ (List.mem_append_left _ (List.mem_append_right _ h))) (by decide +kernel))) (goodIn_sub (fun _ h => List.mem_append_left _ (List.mem_append_right _ h)) (by decide +kernel))
set_option maxRecDepth 20000 in
theorem gL_law_L_place : GoodIn wsL_law (va_wsS RL 97 yL_place wsL_place) := goodIn_app (goodIn_of _ (by decide +kernel)) ggL_law_L_place
set_option maxRecDepth 20000 in
theorem ggL_law_X5_place : GoodIn wsL_law wsX5_place := goodIn_r _ [343, 82, 253, 254, 255, 5, 256, 75, 160, 161, 162, 257, 258, 259, 260, 344, 345, 346, 347, 269, 270, 271, 272, 188, 189, 190, 191, 167, 168, 169, 170, 192, 193, 194, 195, 196, 197, 198, 199, 200, 201, 202, 203, 184, 185, 186, 187, 180, 181, 182, 183, 348, 349, 350, 351, 352, 353, 354, 355, 356, 357, 171, 172, 173, 174, 175, 76, 204, 205, 206, 207, 900, 901, 902, 903, 904, 905, 906, 907, 908, 909, 910, 911, 912, 913, 914, 915] (by decide +kernel) (by decide +kernel)
set_option maxRecDepth 20000 in
theorem gL_law_X5_place : GoodIn wsL_law (wsV RL 99 RX5 yX5_place wsX5_place) := goodIn_app (goodIn_of _ (by decide +kernel)) ggL_law_X5_place
set_option maxRecDepth 20000 in
theorem ggL_law_L_drop : GoodIn wsL_law wsL_drop := goodIn_ca (goodIn_r _ [360, 215, 361, 362, 363, 2, 364, 220, 221, 16, 20, 222, 223, 224, 15, 225, 34, 114, 115, 116, 19, 117, 40, 118, 38, 119, 120, 121, 122, 39, 123, 124, 125, 126, 127, 336, 337, 338, 339, 283, 896, 897, 898, 899, 916, 917, 918, 919, 920] (by decide +kernel) (by decide +kernel)) (goodIn_sub (fun _ h => List.mem_append_right _ h) (by decide +kernel))
set_option maxRecDepth 20000 in
theorem gL_law_L_drop : GoodIn wsL_law (va_wsS RL 100 yL_drop wsL_drop) := goodIn_app (goodIn_of _ (by decide +kernel)) ggL_law_L_drop
set_option maxRecDepth 20000 in
theorem ggL_law_X5_drop : GoodIn wsL_law wsX5_drop := goodIn_r _ [368, 82, 253, 254, 255, 5, 256, 75, 160, 161, 162, 257, 258, 259, 260, 171, 172, 173, 174, 175, 76, 180, 181, 182, 183, 167, 168, 169, 170, 204, 205, 206, 207, 900, 901, 902, 903, 904, 905, 906, 907, 908, 909, 910, 911, 912, 913, 914, 915] (by decide +kernel) (by decide +kernel)
set_option maxRecDepth 20000 in
theorem gL_law_X5_drop : GoodIn wsL_law (wsV RL 102 RX5 yX5_drop wsX5_drop) := goodIn_app (goodIn_of _ (by decide +kernel)) ggL_law_X5_drop
set_option maxRecDepth 20000 in
theorem ggL_law_X4_solve : GoodIn wsL_law wsX4_solve := goodIn_r _ [372, 20, 16, 28, 114, 115, 116, 19, 117, 40, 118, 38, 119, 120, 121, 122, 39, 123, 124, 125, 126, 127, 373, 374, 375, 27, 376, 377, 53, 54, 55, 378, 56, 57, 379, 231, 232, 15, 233, 234, 235, 236, 237, 33, 34, 144, 145, 146, 147, 148, 149, 150, 151, 380, 381, 382, 383, 315, 2, 316, 384, 322, 323, 324, 325, 326, 327, 328, 329, 330, 331, 332, 333, 334, 385, 386, 387, 388, 58, 61, 62, 389, 390, 391, 392, 64, 59, 63, 67, 393, 394, 395, 396, 397, 398, 399, 400, 65, 401, 402, 403, 404, 66, 405, 406, 407, 408, 409, 410, 283, 411, 896, 897, 898, 899, 918, 919, 920, 916, 917, 927, 928, 929, 930, 931, 932, 933, 934, 935, 936, 937, 938, 939, 940, 941, 942, 943] (by decide +kernel) (by decide +kernel)
set_option maxRecDepth 20000 in
theorem gL_law_X4_solve : GoodIn wsL_law (wsV RL 103 RX4 yX4_solve wsX4_solve) := goodIn_app (goodIn_of _ (by decide +kernel)) ggL_law_X4_solve
set_option maxRecDepth 20000 in
theorem ggL_law_X5_solve : GoodIn wsL_law wsX5_solve := goodIn_r _ [415, 82, 171, 172, 173, 5, 174, 175, 76, 75, 416, 417, 418, 419, 79, 265, 266, 267, 268, 269, 270, 271, 272, 188, 189, 190, 191, 167, 168, 169, 170, 192, 193, 194, 195, 196, 197, 198, 199, 200, 201, 202, 203, 184, 185, 186, 187, 160, 161, 162, 420, 421, 422, 423, 424, 425, 78, 426, 427, 428, 429, 80, 430, 431, 432, 433, 434, 435, 436, 437, 180, 181, 182, 183, 438, 439, 440, 441, 442, 443, 444, 445, 348, 349, 350, 351, 352, 353, 354, 355, 356, 357, 446, 447, 448, 449, 204, 205, 206, 207, 900, 901, 902, 903, 904, 905, 906, 907, 908, 909, 910, 911, 912, 913, 914, 915] (by decide +kernel) (by decide +kernel)
set_option maxRecDepth 20000 in
theorem gL_law_X5_solve : GoodIn wsL_law (wsV RL 106 RX5 yX5_solve wsX5_solve) := goodIn_app (goodIn_of _ (by decide +kernel)) ggL_law_X5_solve
set_option maxRecDepth 20000 in
theorem ggL_law_L_push : GoodIn wsL_law wsL_push := goodIn_ca (goodIn_ca (goodIn_r _ [452, 215, 88, 453, 454, 455, 2, 456, 220, 221, 95, 96, 16, 28, 20, 222, 223, 224, 15, 225, 34, 373, 374, 375, 27, 376, 377, 53, 54, 55, 378, 56, 57, 379, 231, 232, 233, 234, 235, 236, 237, 33, 144, 145, 146, 147, 148, 149, 150, 151, 380, 381, 382, 383, 315, 316, 384, 322, 323, 324, 325, 326, 327, 328, 329, 330, 331, 332, 333, 334, 457, 458, 459, 460, 58, 61, 62, 389, 390, 391, 392, 64, 59, 63, 67, 393, 394, 395, 396, 397, 398, 399, 400, 65, 401, 402, 403, 404, 66, 405, 120, 121, 122, 114, 115, 116, 19, 117, 40, 118, 38, 119, 39, 123, 124, 125, 126, 127, 406, 407, 408, 409, 410, 283, 411, 896, 897, 898, 899, 916, 917, 927, 928, 929, 930, 931, 932, 933, 934, 935, 936, 937, 938, 939, 940, 941, 942, 943, 918, 919, 920] (by decide +kernel) (by decide +kernel)) (goodIn_sub (fun _ h => List.mem_append_right _ h) (by decide +kernel))) (goodIn_sub (fun _ h => List.mem_append_left _ (List.mem_append_right _ h)) (by decide +kernel))
set_option maxRecDepth 20000 in
theorem gL_law_L_push : GoodIn wsL_law (va_wsS RL 107 yL_push wsL_push) := goodIn_app (goodIn_of _ (by decide +kernel)) ggL_law_L_push
set_option maxRecDepth 20000 in
theorem ggL_law_X5_push : GoodIn wsL_law wsX5_push := goodIn_r _ [464, 82, 253, 254, 255, 5, 256, 75, 160, 161, 162, 257, 258, 259, 260, 465, 466, 467, 468, 79, 180, 181, 182, 183, 167, 168, 169, 170, 265, 266, 267, 268, 269, 270, 271, 272, 188, 189, 190, 191, 192, 193, 194, 195, 196, 197, 198, 199, 200, 201, 202, 203, 184, 185, 186, 187, 420, 421, 422, 423, 424, 425, 78, 426, 427, 428, 429, 80, 430, 431, 432, 433, 434, 435, 436, 437, 438, 439, 440, 441, 442, 443, 444, 445, 348, 349, 350, 351, 352, 353, 354, 355, 356, 357, 171, 172, 173, 174, 175, 76, 446, 447, 448, 449, 204, 205, 206, 207, 900, 901, 902, 903, 904, 905, 906, 907, 908, 909, 910, 911, 912, 913, 914, 915] (by decide +kernel) (by decide +kernel)
set_option maxRecDepth 20000 in
theorem gL_law_X5_push : GoodIn wsL_law (wsV RL 109 RX5 yX5_push wsX5_push) := goodIn_app (goodIn_of _ (by decide +kernel)) ggL_law_X5_push
set_option maxRecDepth 20000 in
theorem ggL_law_X4_mirror : GoodIn wsL_law wsX4_mirror := goodIn_r _ [472, 20, 16, 114, 115, 116, 19, 117, 40, 118, 38, 119, 120, 121, 122, 39, 123, 124, 125, 126, 127, 473, 474, 475, 15, 476, 34, 33, 136, 137, 138, 139, 477, 478, 479, 480, 896, 897, 898, 899, 918, 919, 920, 916, 917] (by decide +kernel) (by decide +kernel)
set_option maxRecDepth 20000 in
theorem gL_law_X4_mirror : GoodIn wsL_law (wsV RL 110 RX4 yX4_mirror wsX4_mirror) := goodIn_app (goodIn_of _ (by decide +kernel)) ggL_law_X4_mirror
set_option maxRecDepth 20000 in
theorem ggL_law_X5_mirror : GoodIn wsL_law wsX5_mirror := goodIn_r _ [484, 82, 75, 171, 172, 173, 5, 174, 175, 76, 167, 168, 169, 170, 180, 181, 182, 183, 204, 205, 206, 207, 485, 486, 487, 488, 900, 901, 902, 903, 904, 905, 906, 907, 908, 909, 910, 911, 912, 913, 914, 915] (by decide +kernel) (by decide +kernel)
set_option maxRecDepth 20000 in
theorem gL_law_X5_mirror : GoodIn wsL_law (wsV RL 113 RX5 yX5_mirror wsX5_mirror) := goodIn_app (goodIn_of _ (by decide +kernel)) ggL_law_X5_mirror
set_option maxRecDepth 20000 in
theorem ggL_law_L_append : GoodIn wsL_law wsL_append := goodIn_ca (goodIn_ca (goodIn_r _ [491, 87, 88, 492, 493, 494, 2, 495, 93, 94, 95, 96, 24, 496, 497, 498, 499, 23, 500, 44, 45, 896, 897, 898, 899, 921, 922, 923, 924, 925, 926] (by decide +kernel) (by decide +kernel)) (goodIn_sub (fun _ h => List.mem_append_left _ (List.mem_append_left _ (List.mem_append_right _ h))) (by decide +kernel))) (goodIn_sub (fun _ h => List.mem_append_left _ (List.mem_append_right _ h)) (by decide +kernel))
set_option maxRecDepth 20000 in
theorem gL_law_L_append : GoodIn wsL_law (va_wsS RL 114 yL_append wsL_append) := goodIn_app (goodIn_of _ (by decide +kernel)) ggL_law_L_append
set_option maxRecDepth 20000 in
theorem ggL_law_X5_append : GoodIn wsL_law wsX5_append := goodIn_r _ [504, 82, 505, 77, 160, 161, 5, 162, 257, 258, 259, 260, 900, 901, 902, 903, 904, 905, 906, 907, 908, 909, 910, 911, 912, 913, 914, 915] (by decide +kernel) (by decide +kernel)
set_option maxRecDepth 20000 in
theorem gL_law_X5_append : GoodIn wsL_law (wsV RL 116 RX5 yX5_append wsX5_append) := goodIn_app (goodIn_of _ (by decide +kernel)) ggL_law_X5_append
set_option maxRecDepth 20000 in
theorem ggL_law_X4_clearBuffer : GoodIn wsL_law wsX4_clearBuffer := goodIn_r _ [509, 24, 496, 896, 897, 898, 899, 921, 922, 923, 924, 925, 926] (by decide +kernel) (by decide +kernel)
set_option maxRecDepth 20000 in
theorem gL_law_X4_clearBuffer : GoodIn wsL_law (wsV RL 117 RX4 yX4_clearBuffer wsX4_clearBuffer) := goodIn_app (goodIn_of _ (by decide +kernel)) ggL_law_X4_clearBuffer
set_option maxRecDepth 20000 in
theorem ggL_law_X5_clearBuffer : GoodIn wsL_law wsX5_clearBuffer := goodIn_r _ [513, 82, 505, 900, 901, 902, 903, 904, 905, 906, 907, 908, 909, 910, 911, 912, 913, 914, 915] (by decide +kernel) (by decide +kernel)
set_option maxRecDepth 20000 in
theorem gL_law_X5_clearBuffer : GoodIn wsL_law (wsV RL 120 RX5 yX5_clearBuffer wsX5_clearBuffer) := goodIn_app (goodIn_of _ (by decide +kernel)) ggL_law_X5_clearBuffer
