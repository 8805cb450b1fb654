set_option maxRecDepth 20000 in
theorem ggL_law_X5_init : GoodIn wsL_law wsX5_init := goodIn_r _ [9, 10, 11, 12, 13, 14, 15, 16, 17, 18, 19, 20, 21, 22, 23, 24, 25, 26, 27, 28, 29, 30, 31, 32, 33, 34, 35, 36, 37, 38, 39, 40, 41, 42, 43, 44, 45, 46, 47, 48, 49, 50, 51, 52, 53, 54, 55, 56, 57, 58, 59, 60, 61, 62, 63, 64, 65, 66, 911, 912, 913, 914, 915, 880, 881, 882, 883, 884, 885, 916, 917, 918, 919, 920, 921, 922] (by decide +kernel) (by decide +kernel)
set_option maxRecDepth 20000 in
theorem gL_law_X5_init : GoodIn wsL_law (wsX5_init) := ggL_law_X5_init
set_option maxRecDepth 20000 in
theorem ggL_law_X6_init : GoodIn wsL_law wsX6_init := goodIn_r _ [69, 70, 11, 12, 71, 36, 72, 38, 73, 74, 75, 76, 77, 78, 79, 80, 81, 82, 83, 84, 85, 86, 87, 88, 89, 90, 91, 92, 93, 94, 886, 887, 888, 889, 890, 891, 892, 893, 894, 895, 896, 897, 898, 899, 900, 901, 902, 903, 904, 905, 906, 907, 908, 909, 910] (by decide +kernel) (by decide +kernel)
set_option maxRecDepth 20000 in
theorem gL_law_X6_init : GoodIn wsL_law (wsX6_init) := ggL_law_X6_init
set_option maxRecDepth 20000 in
theorem ggL_law_X5_ground : GoodIn wsL_law wsX5_ground := goodIn_r _ [98, 16, 99, 100, 101, 102, 15, 103, 35, 37, 39, 40, 42, 104, 105, 49, 106, 47, 48, 50, 107, 108, 109, 21, 110, 46, 111, 880, 881, 882, 883, 884, 885, 911, 912, 913, 914, 915, 916] (by decide +kernel) (by decide +kernel)
set_option maxRecDepth 20000 in
theorem gL_law_X5_ground : GoodIn wsL_law (wsV RL 13 RX5 yX5_ground wsX5_ground) := goodIn_app (goodIn_of _ (by decide +kernel)) ggL_law_X5_ground
set_option maxRecDepth 20000 in
theorem ggL_law_X6_ground : GoodIn wsL_law wsX6_ground := goodIn_r _ [115, 116, 71, 73, 72, 74, 75, 117, 118, 5, 119, 886, 887, 888, 889, 890, 891, 892, 893, 894, 895, 896, 897, 898, 899, 900, 901, 902, 903, 904, 905, 906, 907, 908, 909, 910] (by decide +kernel) (by decide +kernel)
set_option maxRecDepth 20000 in
theorem gL_law_X6_ground : GoodIn wsL_law (wsV RL 17 RX6 yX6_ground wsX6_ground) := goodIn_app (goodIn_of _ (by decide +kernel)) ggL_law_X6_ground
set_option maxRecDepth 20000 in
theorem ggL_law_X5_tell : GoodIn wsL_law wsX5_tell := goodIn_r _ [123, 16, 124, 125, 126, 127, 2, 128, 129, 130, 131, 132, 99, 133, 134, 135, 15, 136, 37, 39, 137, 138, 139, 140, 141, 142, 143, 144, 145, 146, 147, 880, 881, 882, 883, 884, 885, 911, 912, 913, 914, 915] (by decide +kernel) (by decide +kernel)
set_option maxRecDepth 20000 in
theorem gL_law_X5_tell : GoodIn wsL_law (wsV RL 18 RX5 yX5_tell wsX5_tell) := goodIn_app (goodIn_of _ (by decide +kernel)) ggL_law_X5_tell
set_option maxRecDepth 20000 in
theorem ggL_law_X6_tell : GoodIn wsL_law wsX6_tell := goodIn_r _ [151, 73, 72, 152, 153, 5, 154, 155, 117, 118, 119, 156, 157, 158, 159, 71, 160, 161, 162, 163, 886, 887, 888, 889, 890, 891, 892, 893, 894, 895, 896, 897, 898, 899, 900, 901, 902, 903, 904, 905, 906, 907, 908, 909, 910] (by decide +kernel) (by decide +kernel)
set_option maxRecDepth 20000 in
theorem gL_law_X6_tell : GoodIn wsL_law (wsV RL 22 RX6 yX6_tell wsX6_tell) := goodIn_app (goodIn_of _ (by decide +kernel)) ggL_law_X6_tell
set_option maxRecDepth 20000 in
theorem ggL_law_X5_sized : GoodIn wsL_law wsX5_sized := goodIn_r _ [167, 16, 99, 126, 127, 2, 128, 168, 169, 146, 170, 171, 172, 173, 174, 175, 176, 177, 133, 134, 135, 15, 136, 37, 39, 137, 138, 139, 140, 141, 142, 143, 880, 881, 882, 883, 884, 885, 911, 912, 913, 914, 915] (by decide +kernel) (by decide +kernel)
set_option maxRecDepth 20000 in
theorem gL_law_X5_sized : GoodIn wsL_law (wsV RL 23 RX5 yX5_sized wsX5_sized) := goodIn_app (goodIn_of _ (by decide +kernel)) ggL_law_X5_sized
set_option maxRecDepth 20000 in
theorem ggL_law_X6_sized : GoodIn wsL_law wsX6_sized := goodIn_r _ [181, 71, 152, 153, 5, 154, 155, 117, 118, 119, 182, 183, 184, 185, 186, 187, 188, 73, 72, 189, 190, 191, 192, 886, 887, 888, 889, 890, 891, 892, 893, 894, 895, 896, 897, 898, 899, 900, 901, 902, 903, 904, 905, 906, 907, 908, 909, 910] (by decide +kernel) (by decide +kernel)
set_option maxRecDepth 20000 in
theorem gL_law_X6_sized : GoodIn wsL_law (wsV RL 26 RX6 yX6_sized wsX6_sized) := goodIn_app (goodIn_of _ (by decide +kernel)) ggL_law_X6_sized
set_option maxRecDepth 20000 in
theorem ggL_law_X5_tabled : GoodIn wsL_law wsX5_tabled := goodIn_r _ [196, 16, 99, 126, 127, 2, 128, 197, 198, 199, 200, 22, 201, 202, 203, 204, 21, 205, 46, 206, 207, 208, 209, 210, 211, 212, 213, 214, 215, 216, 217, 218, 219, 220, 221, 222, 223, 224, 225, 226, 227, 228, 229, 230, 231, 232, 233, 133, 134, 135, 15, 136, 37, 39, 137, 138, 139, 140, 141, 142, 143, 880, 881, 882, 883, 884, 885, 911, 912, 913, 914, 915, 916] (by decide +kernel) (by decide +kernel)
set_option maxRecDepth 20000 in
theorem gL_law_X5_tabled : GoodIn wsL_law (wsV RL 27 RX5 yX5_tabled wsX5_tabled) := goodIn_app (goodIn_of _ (by decide +kernel)) ggL_law_X5_tabled
set_option maxRecDepth 20000 in
theorem ggL_law_X6_tabled : GoodIn wsL_law wsX6_tabled := goodIn_r _ [237, 71, 152, 153, 5, 154, 155, 117, 118, 119, 238, 239, 240, 241, 242, 86, 243, 244, 245, 246, 88, 75, 87, 247, 248, 249, 250, 251, 252, 253, 254, 255, 256, 257, 258, 259, 260, 261, 262, 263, 264, 185, 186, 187, 188, 73, 72, 189, 190, 191, 192, 886, 887, 888, 889, 890, 891, 892, 893, 894, 895, 896, 897, 898, 899, 900, 901, 902, 903, 904, 905, 906, 907, 908, 909, 910] (by decide +kernel) (by decide +kernel)
set_option maxRecDepth 20000 in
theorem gL_law_X6_tabled : GoodIn wsL_law (wsV RL 30 RX6 yX6_tabled wsX6_tabled) := goodIn_app (goodIn_of _ (by decide +kernel)) ggL_law_X6_tabled
set_option maxRecDepth 20000 in
theorem ggL_law_X5_twist : GoodIn wsL_law wsX5_twist := goodIn_r _ [268, 16, 124, 126, 127, 2, 128, 129, 130, 131, 132, 99, 269, 270, 271, 15, 272, 39, 273, 274, 146, 275, 276, 277, 278, 279, 133, 134, 135, 136, 37, 137, 138, 139, 140, 141, 142, 143, 880, 881, 882, 883, 884, 885, 911, 912, 913, 914, 915] (by decide +kernel) (by decide +kernel)
set_option maxRecDepth 20000 in
theorem gL_law_X5_twist : GoodIn wsL_law (wsV RL 31 RX5 yX5_twist wsX5_twist) := goodIn_app (goodIn_of _ (by decide +kernel)) ggL_law_X5_twist
set_option maxRecDepth 20000 in
theorem ggL_law_X6_twist : GoodIn wsL_law wsX6_twist := goodIn_r _ [283, 73, 72, 152, 153, 5, 154, 155, 117, 118, 119, 156, 157, 158, 159, 71, 284, 285, 286, 287, 185, 186, 187, 188, 189, 190, 191, 192, 886, 887, 888, 889, 890, 891, 892, 893, 894, 895, 896, 897, 898, 899, 900, 901, 902, 903, 904, 905, 906, 907, 908, 909, 910] (by decide +kernel) (by decide +kernel)
set_option maxRecDepth 20000 in
theorem gL_law_X6_twist : GoodIn wsL_law (wsV RL 34 RX6 yX6_twist wsX6_twist) := goodIn_app (goodIn_of _ (by decide +kernel)) ggL_law_X6_twist
set_option maxRecDepth 20000 in
theorem ggL_law_X5_dual : GoodIn wsL_law wsX5_dual := goodIn_r _ [291, 16, 99, 124, 126, 127, 2, 128, 269, 270, 271, 15, 272, 39, 273, 274, 146, 275, 276, 277, 278, 279, 133, 134, 135, 136, 37, 137, 138, 139, 140, 141, 142, 143, 880, 881, 882, 883, 884, 885, 911, 912, 913, 914, 915] (by decide +kernel) (by decide +kernel)
set_option maxRecDepth 20000 in
theorem gL_law_X5_dual : GoodIn wsL_law (wsV RL 35 RX5 yX5_dual wsX5_dual) := goodIn_app (goodIn_of _ (by decide +kernel)) ggL_law_X5_dual
set_option maxRecDepth 20000 in
theorem ggL_law_X6_dual : GoodIn wsL_law wsX6_dual := goodIn_r _ [295, 73, 72, 71, 152, 153, 5, 154, 155, 117, 118, 119, 284, 285, 286, 287, 185, 186, 187, 188, 189, 190, 191, 192, 886, 887, 888, 889, 890, 891, 892, 893, 894, 895, 896, 897, 898, 899, 900, 901, 902, 903, 904, 905, 906, 907, 908, 909, 910] (by decide +kernel) (by decide +kernel)
set_option maxRecDepth 20000 in
theorem gL_law_X6_dual : GoodIn wsL_law (wsV RL 39 RX6 yX6_dual wsX6_dual) := goodIn_app (goodIn_of _ (by decide +kernel)) ggL_law_X6_dual
set_option maxRecDepth 20000 in
theorem ggL_law_X5_reduce : GoodIn wsL_law wsX5_reduce := goodIn_r _ [299, 16, 124, 126, 127, 2, 128, 300, 301, 302, 303, 99, 269, 270, 271, 15, 272, 39, 304, 305, 146, 306, 279, 307, 308, 309, 133, 134, 135, 136, 37, 137, 138, 139, 140, 141, 142, 143, 880, 881, 882, 883, 884, 885, 911, 912, 913, 914, 915] (by decide +kernel) (by decide +kernel)
set_option maxRecDepth 20000 in
theorem gL_law_X5_reduce : GoodIn wsL_law (wsV RL 40 RX5 yX5_reduce wsX5_reduce) := goodIn_app (goodIn_of _ (by decide +kernel)) ggL_law_X5_reduce
set_option maxRecDepth 20000 in
theorem ggL_law_X6_reduce : GoodIn wsL_law wsX6_reduce := goodIn_r _ [313, 73, 71, 72, 152, 153, 5, 154, 155, 117, 118, 119, 314, 315, 316, 317, 185, 186, 187, 188, 189, 190, 191, 192, 886, 887, 888, 889, 890, 891, 892, 893, 894, 895, 896, 897, 898, 899, 900, 901, 902, 903, 904, 905, 906, 907, 908, 909, 910] (by decide +kernel) (by decide +kernel)
set_option maxRecDepth 20000 in
theorem gL_law_X6_reduce : GoodIn wsL_law (wsV RL 44 RX6 yX6_reduce wsX6_reduce) := goodIn_app (goodIn_of _ (by decide +kernel)) ggL_law_X6_reduce
set_option maxRecDepth 20000 in
theorem ggL_law_X5_clear : GoodIn wsL_law wsX5_clear := goodIn_r _ [321, 16, 124, 126, 127, 2, 128, 269, 270, 271, 15, 272, 39, 322, 138, 139, 140, 141, 142, 143, 133, 134, 135, 136, 37, 137, 880, 881, 882, 883, 884, 885, 911, 912, 913, 914, 915] (by decide +kernel) (by decide +kernel)
set_option maxRecDepth 20000 in
theorem gL_law_X5_clear : GoodIn wsL_law (wsV RL 45 RX5 yX5_clear wsX5_clear) := goodIn_app (goodIn_of _ (by decide +kernel)) ggL_law_X5_clear
set_option maxRecDepth 20000 in
theorem ggL_law_X6_clear : GoodIn wsL_law wsX6_clear := goodIn_r _ [326, 73, 72, 152, 153, 5, 154, 155, 117, 118, 119, 189, 190, 191, 192, 886, 887, 888, 889, 890, 891, 892, 893, 894, 895, 896, 897, 898, 899, 900, 901, 902, 903, 904, 905, 906, 907, 908, 909, 910] (by decide +kernel) (by decide +kernel)
set_option maxRecDepth 20000 in
theorem gL_law_X6_clear : GoodIn wsL_law (wsV RL 48 RX6 yX6_clear wsX6_clear) := goodIn_app (goodIn_of _ (by decide +kernel)) ggL_law_X6_clear
set_option maxRecDepth 20000 in
theorem ggL_law_X5_has : GoodIn wsL_law wsX5_has := goodIn_r _ [330, 16, 124, 126, 127, 2, 128, 129, 130, 131, 132, 99, 269, 270, 271, 15, 272, 39, 144, 145, 146, 147, 880, 881, 882, 883, 884, 885, 911, 912, 913, 914, 915] (by decide +kernel) (by decide +kernel)
set_option maxRecDepth 20000 in
theorem gL_law_X5_has : GoodIn wsL_law (wsV RL 49 RX5 yX5_has wsX5_has) := goodIn_app (goodIn_of _ (by decide +kernel)) ggL_law_X5_has
set_option maxRecDepth 20000 in
theorem ggL_law_X6_has : GoodIn wsL_law wsX6_has := goodIn_r _ [334, 73, 152, 153, 5, 154, 155, 117, 118, 119, 156, 157, 158, 159, 71, 160, 161, 162, 163, 72, 886, 887, 888, 889, 890, 891, 892, 893, 894, 895, 896, 897, 898, 899, 900, 901, 902, 903, 904, 905, 906, 907, 908, 909, 910] (by decide +kernel) (by decide +kernel)
set_option maxRecDepth 20000 in
theorem gL_law_X6_has : GoodIn wsL_law (wsV RL 52 RX6 yX6_has wsX6_has) := goodIn_app (goodIn_of _ (by decide +kernel)) ggL_law_X6_has
set_option maxRecDepth 20000 in
theorem ggL_law_X5_member : GoodIn wsL_law wsX5_member := goodIn_r _ [338, 16, 124, 126, 127, 2, 128, 269, 270, 271, 15, 272, 39, 322, 138, 139, 140, 141, 142, 143, 339, 340, 146, 341, 342, 343, 344, 345, 880, 881, 882, 883, 884, 885, 911, 912, 913, 914, 915] (by decide +kernel) (by decide +kernel)
set_option maxRecDepth 20000 in
theorem gL_law_X5_member : GoodIn wsL_law (wsV RL 53 RX5 yX5_member wsX5_member) := goodIn_app (goodIn_of _ (by decide +kernel)) ggL_law_X5_member
set_option maxRecDepth 20000 in
theorem ggL_law_X6_member : GoodIn wsL_law wsX6_member := goodIn_r _ [349, 73, 72, 71, 152, 153, 5, 154, 155, 117, 118, 119, 189, 190, 191, 192, 160, 161, 162, 163, 886, 887, 888, 889, 890, 891, 892, 893, 894, 895, 896, 897, 898, 899, 900, 901, 902, 903, 904, 905, 906, 907, 908, 909, 910] (by decide +kernel) (by decide +kernel)
set_option maxRecDepth 20000 in
theorem gL_law_X6_member : GoodIn wsL_law (wsV RL 56 RX6 yX6_member wsX6_member) := goodIn_app (goodIn_of _ (by decide +kernel)) ggL_law_X6_member
set_option maxRecDepth 20000 in
theorem ggL_law_X5_of : GoodIn wsL_law wsX5_of := goodIn_r _ [353, 16, 124, 354, 99, 126, 127, 2, 128, 269, 270, 271, 15, 272, 39, 355, 356, 146, 357, 358, 145, 147, 171, 172, 173, 174, 175, 176, 177, 359, 360, 361, 362, 363, 364, 365, 366, 367, 368, 369, 370, 371, 372, 373, 374, 375, 376, 279, 377, 378, 379, 380, 381, 382, 383, 384, 385, 386, 387, 388, 389, 390, 391, 392, 880, 881, 882, 883, 884, 885, 911, 912, 913, 914, 915] (by decide +kernel) (by decide +kernel)
set_option maxRecDepth 20000 in
theorem gL_law_X5_of : GoodIn wsL_law (wsV RL 57 RX5 yX5_of wsX5_of) := goodIn_app (goodIn_of _ (by decide +kernel)) ggL_law_X5_of
set_option maxRecDepth 20000 in
theorem ggL_law_X6_of : GoodIn wsL_law wsX6_of := goodIn_r _ [396, 397, 73, 72, 152, 153, 5, 154, 155, 117, 118, 119, 398, 399, 400, 401, 71, 160, 161, 162, 163, 402, 403, 404, 405, 406, 407, 408, 409, 182, 183, 184, 410, 411, 412, 413, 414, 415, 416, 417, 886, 887, 888, 889, 890, 891, 892, 893, 894, 895, 896, 897, 898, 899, 900, 901, 902, 903, 904, 905, 906, 907, 908, 909, 910] (by decide +kernel) (by decide +kernel)
set_option maxRecDepth 20000 in
theorem gL_law_X6_of : GoodIn wsL_law (wsV RL 60 RX6 yX6_of wsX6_of) := goodIn_app (goodIn_of _ (by decide +kernel)) ggL_law_X6_of
set_option maxRecDepth 20000 in
theorem ggL_law_X5_taken : GoodIn wsL_law wsX5_taken := goodIn_r _ [421, 16, 354, 124, 126, 127, 2, 128, 269, 270, 271, 15, 272, 39, 422, 423, 424, 425, 322, 138, 139, 140, 141, 142, 143, 880, 881, 882, 883, 884, 885, 911, 912, 913, 914, 915] (by decide +kernel) (by decide +kernel)
set_option maxRecDepth 20000 in
theorem gL_law_X5_taken : GoodIn wsL_law (wsV RL 61 RX5 yX5_taken wsX5_taken) := goodIn_app (goodIn_of _ (by decide +kernel)) ggL_law_X5_taken
set_option maxRecDepth 20000 in
theorem ggL_law_X6_taken : GoodIn wsL_law wsX6_taken := goodIn_r _ [429, 155, 73, 72, 152, 153, 5, 154, 117, 118, 119, 189, 190, 191, 192, 886, 887, 888, 889, 890, 891, 892, 893, 894, 895, 896, 897, 898, 899, 900, 901, 902, 903, 904, 905, 906, 907, 908, 909, 910] (by decide +kernel) (by decide +kernel)
set_option maxRecDepth 20000 in
theorem gL_law_X6_taken : GoodIn wsL_law (wsV RL 64 RX6 yX6_taken wsX6_taken) := goodIn_app (goodIn_of _ (by decide +kernel)) ggL_law_X6_taken
set_option maxRecDepth 20000 in
theorem ggL_law_X5_fails : GoodIn wsL_law wsX5_fails := goodIn_r _ [433, 16, 124, 99, 126, 127, 2, 128, 269, 270, 271, 15, 272, 39, 434, 363, 146, 364, 358, 145, 147, 365, 366, 367, 368, 369, 370, 371, 372, 373, 374, 375, 376, 279, 435, 436, 437, 342, 343, 344, 345, 138, 139, 140, 141, 142, 143, 438, 439, 440, 880, 881, 882, 883, 884, 885, 911, 912, 913, 914, 915] (by decide +kernel) (by decide +kernel)
set_option maxRecDepth 20000 in
theorem gL_law_X5_fails : GoodIn wsL_law (wsV RL 65 RX5 yX5_fails wsX5_fails) := goodIn_app (goodIn_of _ (by decide +kernel)) ggL_law_X5_fails
set_option maxRecDepth 20000 in
theorem ggL_law_X6_fails : GoodIn wsL_law wsX6_fails := goodIn_r _ [444, 445, 73, 152, 153, 5, 154, 155, 117, 118, 119, 398, 399, 400, 401, 71, 160, 161, 162, 163, 72, 402, 403, 404, 405, 886, 887, 888, 889, 890, 891, 892, 893, 894, 895, 896, 897, 898, 899, 900, 901, 902, 903, 904, 905, 906, 907, 908, 909, 910] (by decide +kernel) (by decide +kernel)
set_option maxRecDepth 20000 in
theorem gL_law_X6_fails : GoodIn wsL_law (wsV RL 68 RX6 yX6_fails wsX6_fails) := goodIn_app (goodIn_of _ (by decide +kernel)) ggL_law_X6_fails
set_option maxRecDepth 20000 in
theorem ggL_law_X5_partner : GoodIn wsL_law wsX5_partner := goodIn_r _ [449, 16, 124, 99, 126, 127, 2, 128, 129, 130, 131, 132, 300, 301, 302, 303, 269, 270, 271, 15, 272, 39, 144, 145, 146, 147, 450, 372, 373, 358, 387, 388, 389, 380, 172, 173, 174, 175, 176, 177, 880, 881, 882, 883, 884, 885, 911, 912, 913, 914, 915] (by decide +kernel) (by decide +kernel)
set_option maxRecDepth 20000 in
theorem gL_law_X5_partner : GoodIn wsL_law (wsV RL 69 RX5 yX5_partner wsX5_partner) := goodIn_app (goodIn_of _ (by decide +kernel)) ggL_law_X5_partner
set_option maxRecDepth 20000 in
theorem ggL_law_X6_partner : GoodIn wsL_law wsX6_partner := goodIn_r _ [454, 73, 152, 153, 5, 154, 155, 117, 118, 119, 156, 157, 158, 159, 71, 314, 315, 316, 317, 160, 161, 162, 163, 72, 402, 403, 404, 405, 886, 887, 888, 889, 890, 891, 892, 893, 894, 895, 896, 897, 898, 899, 900, 901, 902, 903, 904, 905, 906, 907, 908, 909, 910] (by decide +kernel) (by decide +kernel)
set_option maxRecDepth 20000 in
theorem gL_law_X6_partner : GoodIn wsL_law (wsV RL 72 RX6 yX6_partner wsX6_partner) := goodIn_app (goodIn_of _ (by decide +kernel)) ggL_law_X6_partner
set_option maxRecDepth 20000 in
theorem ggL_law_X5_near : GoodIn wsL_law wsX5_near := goodIn_r _ [458, 16, 124, 126, 127, 2, 128, 129, 130, 131, 132, 99, 269, 270, 271, 15, 272, 39, 273, 274, 146, 275, 276, 277, 278, 279, 355, 356, 357, 358, 145, 147, 171, 172, 173, 174, 175, 176, 177, 387, 388, 389, 380, 880, 881, 882, 883, 884, 885, 911, 912, 913, 914, 915] (by decide +kernel) (by decide +kernel)
set_option maxRecDepth 20000 in
theorem gL_law_X5_near : GoodIn wsL_law (wsV RL 73 RX5 yX5_near wsX5_near) := goodIn_app (goodIn_of _ (by decide +kernel)) ggL_law_X5_near
set_option maxRecDepth 20000 in
theorem ggL_law_X6_near : GoodIn wsL_law wsX6_near := goodIn_r _ [462, 73, 71, 152, 153, 5, 154, 155, 117, 118, 119, 156, 157, 158, 159, 160, 161, 162, 163, 72, 182, 183, 184, 886, 887, 888, 889, 890, 891, 892, 893, 894, 895, 896, 897, 898, 899, 900, 901, 902, 903, 904, 905, 906, 907, 908, 909, 910] (by decide +kernel) (by decide +kernel)
set_option maxRecDepth 20000 in
theorem gL_law_X6_near : GoodIn wsL_law (wsV RL 76 RX6 yX6_near wsX6_near) := goodIn_app (goodIn_of _ (by decide +kernel)) ggL_law_X6_near
set_option maxRecDepth 20000 in
theorem ggL_law_X5_apart : GoodIn wsL_law wsX5_apart := goodIn_r _ [466, 16, 124, 99, 126, 127, 2, 128, 129, 130, 131, 132, 269, 270, 271, 15, 272, 39, 144, 145, 146, 147, 467, 468, 469, 358, 470, 471, 472, 473, 474, 475, 276, 277, 278, 279, 880, 881, 882, 883, 884, 885, 911, 912, 913, 914, 915] (by decide +kernel) (by decide +kernel)
set_option maxRecDepth 20000 in
theorem gL_law_X5_apart : GoodIn wsL_law (wsV RL 77 RX5 yX5_apart wsX5_apart) := goodIn_app (goodIn_of _ (by decide +kernel)) ggL_law_X5_apart
set_option maxRecDepth 20000 in
theorem ggL_law_X6_apart : GoodIn wsL_law wsX6_apart := goodIn_r _ [479, 73, 84, 85, 71, 152, 153, 5, 154, 155, 117, 118, 119, 156, 157, 158, 159, 160, 161, 162, 163, 72, 182, 183, 184, 886, 887, 888, 889, 890, 891, 892, 893, 894, 895, 896, 897, 898, 899, 900, 901, 902, 903, 904, 905, 906, 907, 908, 909, 910] (by decide +kernel) (by decide +kernel)
set_option maxRecDepth 20000 in
theorem gL_law_X6_apart : GoodIn wsL_law (wsV RL 80 RX6 yX6_apart wsX6_apart) := goodIn_app (goodIn_of _ (by decide +kernel)) ggL_law_X6_apart
set_option maxRecDepth 20000 in
theorem ggL_law_X5_weight : GoodIn wsL_law wsX5_weight := goodIn_r _ [483, 16, 484, 300, 301, 302, 2, 303, 99, 880, 881, 882, 883, 884, 885, 911, 912, 913, 914, 915] (by decide +kernel) (by decide +kernel)
set_option maxRecDepth 20000 in
theorem gL_law_X5_weight : GoodIn wsL_law (wsV RL 81 RX5 yX5_weight wsX5_weight) := goodIn_app (goodIn_of _ (by decide +kernel)) ggL_law_X5_weight
set_option maxRecDepth 20000 in
theorem ggL_law_X6_weight : GoodIn wsL_law wsX6_weight := goodIn_r _ [488, 489, 490, 74, 314, 315, 316, 5, 317, 71, 117, 118, 119, 886, 887, 888, 889, 890, 891, 892, 893, 894, 895, 896, 897, 898, 899, 900, 901, 902, 903, 904, 905, 906, 907, 908, 909, 910] (by decide +kernel) (by decide +kernel)
set_option maxRecDepth 20000 in
theorem gL_law_X6_weight : GoodIn wsL_law (wsV RL 84 RX6 yX6_weight wsX6_weight) := goodIn_app (goodIn_of _ (by decide +kernel)) ggL_law_X6_weight
set_option maxRecDepth 20000 in
theorem ggL_law_X5_weighs : GoodIn wsL_law wsX5_weighs := goodIn_r _ [494, 16, 129, 130, 131, 2, 132, 99, 495, 496, 497, 15, 498, 35, 40, 880, 881, 882, 883, 884, 885, 911, 912, 913, 914, 915] (by decide +kernel) (by decide +kernel)
set_option maxRecDepth 20000 in
theorem gL_law_X5_weighs : GoodIn wsL_law (wsV RL 85 RX5 yX5_weighs wsX5_weighs) := goodIn_app (goodIn_of _ (by decide +kernel)) ggL_law_X5_weighs
