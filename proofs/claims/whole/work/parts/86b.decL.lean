set_option maxRecDepth 20000 in
theorem ggL_law_X6_weighs : GoodIn wsL_law wsX6_weighs := goodIn_r _ [502, 156, 157, 158, 5, 159, 71, 117, 118, 119, 503, 504, 505, 506, 74, 886, 887, 888, 889, 890, 891, 892, 893, 894, 895, 896, 897, 898, 899, 900, 901, 902, 903, 904, 905, 906, 907, 908, 909, 910] (by decide +kernel) (by decide +kernel)
set_option maxRecDepth 20000 in
theorem gL_law_X6_weighs : GoodIn wsL_law (wsV RL 88 RX6 yX6_weighs wsX6_weighs) := goodIn_app (goodIn_of _ (by decide +kernel)) ggL_law_X6_weighs
set_option maxRecDepth 20000 in
theorem ggL_law_X5_greed : GoodIn wsL_law wsX5_greed := goodIn_r _ [510, 16, 124, 126, 127, 2, 128, 269, 270, 271, 15, 272, 39, 511, 512, 513, 514, 35, 515, 40, 516, 517, 518, 519, 520, 521, 522, 523, 880, 881, 882, 883, 884, 885, 911, 912, 913, 914, 915] (by decide +kernel) (by decide +kernel)
set_option maxRecDepth 20000 in
theorem gL_law_X5_greed : GoodIn wsL_law (wsV RL 89 RX5 yX5_greed wsX5_greed) := goodIn_app (goodIn_of _ (by decide +kernel)) ggL_law_X5_greed
set_option maxRecDepth 20000 in
theorem ggL_law_X6_greed : GoodIn wsL_law wsX6_greed := goodIn_r _ [527, 73, 72, 71, 74, 152, 153, 5, 154, 155, 117, 118, 119, 528, 529, 530, 531, 532, 533, 534, 535, 160, 161, 162, 163, 886, 887, 888, 889, 890, 891, 892, 893, 894, 895, 896, 897, 898, 899, 900, 901, 902, 903, 904, 905, 906, 907, 908, 909, 910] (by decide +kernel) (by decide +kernel)
set_option maxRecDepth 20000 in
theorem gL_law_X6_greed : GoodIn wsL_law (wsV RL 92 RX6 yX6_greed wsX6_greed) := goodIn_app (goodIn_of _ (by decide +kernel)) ggL_law_X6_greed
set_option maxRecDepth 20000 in
theorem ggL_law_X5_best : GoodIn wsL_law wsX5_best := goodIn_r _ [539, 16, 124, 126, 127, 2, 128, 269, 270, 271, 15, 272, 39, 540, 541, 542, 543, 35, 544, 145, 146, 147, 545, 496, 497, 498, 40, 880, 881, 882, 883, 884, 885, 911, 912, 913, 914, 915] (by decide +kernel) (by decide +kernel)
set_option maxRecDepth 20000 in
theorem gL_law_X5_best : GoodIn wsL_law (wsV RL 93 RX5 yX5_best wsX5_best) := goodIn_app (goodIn_of _ (by decide +kernel)) ggL_law_X5_best
set_option maxRecDepth 20000 in
theorem ggL_law_X6_best : GoodIn wsL_law wsX6_best := goodIn_r _ [549, 73, 71, 152, 153, 5, 154, 155, 117, 118, 119, 160, 161, 162, 163, 72, 503, 504, 505, 506, 74, 886, 887, 888, 889, 890, 891, 892, 893, 894, 895, 896, 897, 898, 899, 900, 901, 902, 903, 904, 905, 906, 907, 908, 909, 910] (by decide +kernel) (by decide +kernel)
set_option maxRecDepth 20000 in
theorem gL_law_X6_best : GoodIn wsL_law (wsV RL 96 RX6 yX6_best wsX6_best) := goodIn_app (goodIn_of _ (by decide +kernel)) ggL_law_X6_best
set_option maxRecDepth 20000 in
theorem ggL_law_X5_entry : GoodIn wsL_law wsX5_entry := goodIn_r _ [553, 16, 201, 300, 301, 302, 2, 303, 99, 554, 219, 220, 21, 221, 46, 555, 227, 228, 229, 230, 231, 232, 233, 880, 881, 882, 883, 884, 885, 911, 912, 913, 914, 915, 916] (by decide +kernel) (by decide +kernel)
set_option maxRecDepth 20000 in
theorem gL_law_X5_entry : GoodIn wsL_law (wsV RL 97 RX5 yX5_entry wsX5_entry) := goodIn_app (goodIn_of _ (by decide +kernel)) ggL_law_X5_entry
set_option maxRecDepth 20000 in
theorem ggL_law_X6_entry : GoodIn wsL_law wsX6_entry := goodIn_r _ [559, 116, 75, 314, 315, 316, 5, 317, 71, 117, 118, 119, 251, 252, 253, 886, 887, 888, 889, 890, 891, 892, 893, 894, 895, 896, 897, 898, 899, 900, 901, 902, 903, 904, 905, 906, 907, 908, 909, 910] (by decide +kernel) (by decide +kernel)
set_option maxRecDepth 20000 in
theorem gL_law_X6_entry : GoodIn wsL_law (wsV RL 100 RX6 yX6_entry wsX6_entry) := goodIn_app (goodIn_of _ (by decide +kernel)) ggL_law_X6_entry
set_option maxRecDepth 20000 in
theorem ggL_law_X5_entryOf : GoodIn wsL_law wsX5_entryOf := goodIn_r _ [563, 16, 201, 300, 301, 302, 2, 303, 99, 554, 219, 220, 21, 221, 46, 880, 881, 882, 883, 884, 885, 911, 912, 913, 914, 915, 916] (by decide +kernel) (by decide +kernel)
set_option maxRecDepth 20000 in
theorem gL_law_X5_entryOf : GoodIn wsL_law (wsV RL 101 RX5 yX5_entryOf wsX5_entryOf) := goodIn_app (goodIn_of _ (by decide +kernel)) ggL_law_X5_entryOf
set_option maxRecDepth 20000 in
theorem ggL_law_X6_entryOf : GoodIn wsL_law wsX6_entryOf := goodIn_r _ [567, 75, 314, 315, 316, 5, 317, 71, 117, 118, 119, 886, 887, 888, 889, 890, 891, 892, 893, 894, 895, 896, 897, 898, 899, 900, 901, 902, 903, 904, 905, 906, 907, 908, 909, 910] (by decide +kernel) (by decide +kernel)
set_option maxRecDepth 20000 in
theorem gL_law_X6_entryOf : GoodIn wsL_law (wsV RL 104 RX6 yX6_entryOf wsX6_entryOf) := goodIn_app (goodIn_of _ (by decide +kernel)) ggL_law_X6_entryOf
set_option maxRecDepth 20000 in
theorem ggL_law_X5_whole : GoodIn wsL_law wsX5_whole := goodIn_r _ [571, 129, 130, 131, 2, 132, 16, 99, 197, 198, 199, 200, 22, 201, 202, 203, 204, 21, 205, 46, 206, 207, 208, 209, 210, 211, 212, 213, 214, 215, 216, 217, 218, 219, 220, 221, 222, 223, 224, 225, 226, 227, 228, 229, 230, 231, 232, 233, 880, 881, 882, 883, 884, 885, 911, 912, 913, 914, 915, 916] (by decide +kernel) (by decide +kernel)
set_option maxRecDepth 20000 in
theorem gL_law_X5_whole : GoodIn wsL_law (wsV RL 105 RX5 yX5_whole wsX5_whole) := goodIn_app (goodIn_of _ (by decide +kernel)) ggL_law_X5_whole
set_option maxRecDepth 20000 in
theorem ggL_law_X6_whole : GoodIn wsL_law wsX6_whole := goodIn_r _ [575, 156, 157, 158, 5, 159, 71, 117, 118, 119, 238, 239, 240, 241, 242, 86, 243, 244, 245, 246, 88, 75, 87, 247, 248, 249, 250, 251, 252, 253, 254, 255, 256, 257, 258, 259, 260, 261, 262, 263, 264, 886, 887, 888, 889, 890, 891, 892, 893, 894, 895, 896, 897, 898, 899, 900, 901, 902, 903, 904, 905, 906, 907, 908, 909, 910] (by decide +kernel) (by decide +kernel)
set_option maxRecDepth 20000 in
theorem gL_law_X6_whole : GoodIn wsL_law (wsV RL 108 RX6 yX6_whole wsX6_whole) := goodIn_app (goodIn_of _ (by decide +kernel)) ggL_law_X6_whole
set_option maxRecDepth 20000 in
theorem ggL_law_X5_pivot : GoodIn wsL_law wsX5_pivot := goodIn_r _ [579, 16, 201, 129, 130, 131, 2, 132, 99, 197, 198, 199, 200, 22, 202, 203, 204, 21, 205, 46, 206, 207, 208, 209, 210, 211, 212, 213, 214, 215, 216, 217, 218, 219, 220, 221, 222, 223, 224, 225, 226, 227, 228, 229, 230, 231, 232, 233, 580, 581, 582, 583, 880, 881, 882, 883, 884, 885, 911, 912, 913, 914, 915, 916] (by decide +kernel) (by decide +kernel)
set_option maxRecDepth 20000 in
theorem gL_law_X5_pivot : GoodIn wsL_law (wsV RL 109 RX5 yX5_pivot wsX5_pivot) := goodIn_app (goodIn_of _ (by decide +kernel)) ggL_law_X5_pivot
set_option maxRecDepth 20000 in
theorem ggL_law_X6_pivot : GoodIn wsL_law wsX6_pivot := goodIn_r _ [587, 89, 75, 90, 242, 88, 87, 71, 156, 157, 158, 5, 159, 117, 118, 119, 238, 239, 240, 241, 86, 243, 244, 245, 246, 247, 248, 249, 250, 251, 252, 253, 254, 255, 256, 257, 258, 259, 260, 261, 262, 263, 264, 588, 589, 590, 591, 592, 593, 594, 595, 596, 597, 598, 599, 600, 601, 602, 603, 886, 887, 888, 889, 890, 891, 892, 893, 894, 895, 896, 897, 898, 899, 900, 901, 902, 903, 904, 905, 906, 907, 908, 909, 910] (by decide +kernel) (by decide +kernel)
set_option maxRecDepth 20000 in
theorem gL_law_X6_pivot : GoodIn wsL_law (wsV RL 112 RX6 yX6_pivot wsX6_pivot) := goodIn_app (goodIn_of _ (by decide +kernel)) ggL_law_X6_pivot
set_option maxRecDepth 20000 in
theorem ggL_law_X5_jumps : GoodIn wsL_law wsX5_jumps := goodIn_r _ [607, 16, 26, 124, 99, 126, 127, 2, 128, 269, 270, 271, 15, 272, 39, 608, 609, 610, 25, 611, 55, 56, 612, 105, 49, 106, 613, 145, 146, 147, 614, 615, 616, 617, 618, 619, 620, 621, 622, 138, 139, 140, 141, 142, 143, 623, 624, 625, 626, 627, 628, 629, 630, 631, 632, 633, 634, 635, 636, 637, 638, 639, 640, 641, 642, 643, 644, 645, 646, 647, 375, 376, 279, 648, 649, 650, 651, 57, 652, 653, 654, 655, 656, 657, 522, 658, 880, 881, 882, 883, 884, 885, 911, 912, 913, 914, 915, 917, 918, 919] (by decide +kernel) (by decide +kernel)
set_option maxRecDepth 20000 in
theorem gL_law_X5_jumps : GoodIn wsL_law (wsV RL 113 RX5 yX5_jumps wsX5_jumps) := goodIn_app (goodIn_of _ (by decide +kernel)) ggL_law_X5_jumps
set_option maxRecDepth 20000 in
theorem ggL_law_X6_jumps : GoodIn wsL_law wsX6_jumps := goodIn_r _ [662, 663, 73, 664, 92, 152, 153, 5, 154, 155, 117, 118, 119, 665, 666, 667, 668, 71, 669, 670, 671, 160, 161, 162, 163, 72, 672, 673, 674, 675, 676, 677, 678, 679, 680, 681, 682, 683, 684, 685, 886, 887, 888, 889, 890, 891, 892, 893, 894, 895, 896, 897, 898, 899, 900, 901, 902, 903, 904, 905, 906, 907, 908, 909, 910] (by decide +kernel) (by decide +kernel)
set_option maxRecDepth 20000 in
theorem gL_law_X6_jumps : GoodIn wsL_law (wsV RL 116 RX6 yX6_jumps wsX6_jumps) := goodIn_app (goodIn_of _ (by decide +kernel)) ggL_law_X6_jumps
set_option maxRecDepth 20000 in
theorem ggL_law_X5_jump : GoodIn wsL_law wsX5_jump := goodIn_r _ [689, 16, 99, 26, 124, 126, 127, 2, 128, 690, 59, 25, 60, 269, 270, 271, 15, 272, 39, 608, 609, 610, 611, 55, 56, 612, 105, 49, 106, 613, 145, 146, 147, 614, 615, 616, 617, 691, 692, 693, 694, 627, 628, 629, 630, 880, 881, 882, 883, 884, 885, 911, 912, 913, 914, 915, 917, 918, 919] (by decide +kernel) (by decide +kernel)
set_option maxRecDepth 20000 in
theorem gL_law_X5_jump : GoodIn wsL_law (wsV RL 117 RX5 yX5_jump wsX5_jump) := goodIn_app (goodIn_of _ (by decide +kernel)) ggL_law_X5_jump
set_option maxRecDepth 20000 in
theorem ggL_law_X6_jump : GoodIn wsL_law wsX6_jump := goodIn_r _ [698, 71, 73, 92, 152, 153, 5, 154, 155, 117, 118, 119, 669, 670, 671, 665, 666, 667, 668, 664, 160, 161, 162, 163, 72, 672, 673, 674, 886, 887, 888, 889, 890, 891, 892, 893, 894, 895, 896, 897, 898, 899, 900, 901, 902, 903, 904, 905, 906, 907, 908, 909, 910] (by decide +kernel) (by decide +kernel)
set_option maxRecDepth 20000 in
theorem gL_law_X6_jump : GoodIn wsL_law (wsV RL 120 RX6 yX6_jump wsX6_jump) := goodIn_app (goodIn_of _ (by decide +kernel)) ggL_law_X6_jump
set_option maxRecDepth 20000 in
theorem ggL_law_X5_same : GoodIn wsL_law wsX5_same := goodIn_r _ [702, 16, 124, 99, 126, 127, 2, 128, 269, 270, 271, 15, 272, 39, 703, 704, 146, 705, 706, 274, 275, 276, 277, 278, 279, 707, 708, 709, 710, 711, 712, 880, 881, 882, 883, 884, 885, 911, 912, 913, 914, 915] (by decide +kernel) (by decide +kernel)
set_option maxRecDepth 20000 in
theorem gL_law_X5_same : GoodIn wsL_law (wsV RL 121 RX5 yX5_same wsX5_same) := goodIn_app (goodIn_of _ (by decide +kernel)) ggL_law_X5_same
set_option maxRecDepth 20000 in
theorem ggL_law_X6_same : GoodIn wsL_law wsX6_same := goodIn_r _ [716, 445, 73, 72, 152, 153, 5, 154, 155, 117, 118, 119, 717, 718, 719, 720, 71, 284, 285, 286, 287, 721, 722, 723, 724, 93, 725, 726, 727, 728, 160, 161, 162, 163, 886, 887, 888, 889, 890, 891, 892, 893, 894, 895, 896, 897, 898, 899, 900, 901, 902, 903, 904, 905, 906, 907, 908, 909, 910] (by decide +kernel) (by decide +kernel)
set_option maxRecDepth 20000 in
theorem gL_law_X6_same : GoodIn wsL_law (wsV RL 124 RX6 yX6_same wsX6_same) := goodIn_app (goodIn_of _ (by decide +kernel)) ggL_law_X6_same
set_option maxRecDepth 20000 in
theorem ggL_law_X5_row : GoodIn wsL_law wsX5_row := goodIn_r _ [732, 28, 733, 734, 2, 735, 736, 737, 738, 30, 739, 64, 65, 66, 740, 105, 49, 106, 880, 881, 882, 883, 884, 885, 920, 921, 922] (by decide +kernel) (by decide +kernel)
set_option maxRecDepth 20000 in
theorem gL_law_X5_row : GoodIn wsL_law (wsV RL 125 RX5 yX5_row wsX5_row) := goodIn_app (goodIn_of _ (by decide +kernel)) ggL_law_X5_row
set_option maxRecDepth 20000 in
theorem ggL_law_X6_row : GoodIn wsL_law wsX6_row := goodIn_r _ [744, 745, 663, 746, 747, 5, 748, 117, 118, 119, 749, 750, 751, 752, 81, 82, 83, 886, 887, 888, 889, 890, 891, 892, 893, 894, 895, 896, 897, 898, 899, 900, 901, 902, 903, 904, 905, 906, 907, 908, 909, 910] (by decide +kernel) (by decide +kernel)
set_option maxRecDepth 20000 in
theorem gL_law_X6_row : GoodIn wsL_law (wsV RL 128 RX6 yX6_row wsX6_row) := goodIn_app (goodIn_of _ (by decide +kernel)) ggL_law_X6_row
set_option maxRecDepth 20000 in
theorem ggL_law_X5_put : GoodIn wsL_law wsX5_put := goodIn_r _ [756, 28, 733, 734, 2, 735, 757, 758, 759, 30, 760, 64, 761, 762, 763, 764, 65, 765, 766, 767, 768, 66, 769, 770, 771, 772, 880, 881, 882, 883, 884, 885, 920, 921, 922] (by decide +kernel) (by decide +kernel)
set_option maxRecDepth 20000 in
theorem gL_law_X5_put : GoodIn wsL_law (wsV RL 131 RX5 yX5_put wsX5_put) := goodIn_app (goodIn_of _ (by decide +kernel)) ggL_law_X5_put
set_option maxRecDepth 20000 in
theorem ggL_law_X6_put : GoodIn wsL_law wsX6_put := goodIn_r _ [776, 81, 82, 83, 746, 747, 5, 748, 663, 117, 118, 119, 777, 778, 779, 886, 887, 888, 889, 890, 891, 892, 893, 894, 895, 896, 897, 898, 899, 900, 901, 902, 903, 904, 905, 906, 907, 908, 909, 910] (by decide +kernel) (by decide +kernel)
set_option maxRecDepth 20000 in
theorem gL_law_X6_put : GoodIn wsL_law (wsV RL 135 RX6 yX6_put wsX6_put) := goodIn_app (goodIn_of _ (by decide +kernel)) ggL_law_X6_put
set_option maxRecDepth 20000 in
theorem ggL_law_X5_get : GoodIn wsL_law wsX5_get := goodIn_r _ [783, 28, 784, 785, 733, 734, 2, 735, 757, 758, 759, 30, 760, 64, 761, 762, 763, 764, 65, 880, 881, 882, 883, 884, 885, 920, 921, 922] (by decide +kernel) (by decide +kernel)
set_option maxRecDepth 20000 in
theorem gL_law_X5_get : GoodIn wsL_law (wsV RL 136 RX5 yX5_get wsX5_get) := goodIn_app (goodIn_of _ (by decide +kernel)) ggL_law_X5_get
set_option maxRecDepth 20000 in
theorem ggL_law_X6_get : GoodIn wsL_law wsX6_get := goodIn_r _ [789, 82, 83, 790, 746, 747, 5, 748, 663, 117, 118, 119, 886, 887, 888, 889, 890, 891, 892, 893, 894, 895, 896, 897, 898, 899, 900, 901, 902, 903, 904, 905, 906, 907, 908, 909, 910] (by decide +kernel) (by decide +kernel)
set_option maxRecDepth 20000 in
theorem gL_law_X6_get : GoodIn wsL_law (wsV RL 140 RX6 yX6_get wsX6_get) := goodIn_app (goodIn_of _ (by decide +kernel)) ggL_law_X6_get
set_option maxRecDepth 20000 in
theorem ggL_law_X5_copy : GoodIn wsL_law wsX5_copy := goodIn_r _ [794, 28, 795, 785, 796, 207, 208, 209, 733, 734, 2, 735, 757, 758, 759, 30, 760, 64, 797, 798, 799, 800, 65, 880, 881, 882, 883, 884, 885, 920, 921, 922] (by decide +kernel) (by decide +kernel)
set_option maxRecDepth 20000 in
theorem gL_law_X5_copy : GoodIn wsL_law (wsV RL 141 RX5 yX5_copy wsX5_copy) := goodIn_app (goodIn_of _ (by decide +kernel)) ggL_law_X5_copy
set_option maxRecDepth 20000 in
theorem ggL_law_X6_copy : GoodIn wsL_law wsX6_copy := goodIn_r _ [804, 81, 82, 94, 83, 746, 747, 5, 748, 663, 117, 118, 119, 886, 887, 888, 889, 890, 891, 892, 893, 894, 895, 896, 897, 898, 899, 900, 901, 902, 903, 904, 905, 906, 907, 908, 909, 910] (by decide +kernel) (by decide +kernel)
set_option maxRecDepth 20000 in
theorem gL_law_X6_copy : GoodIn wsL_law (wsV RL 145 RX6 yX6_copy wsX6_copy) := goodIn_app (goodIn_of _ (by decide +kernel)) ggL_law_X6_copy
set_option maxRecDepth 20000 in
theorem ggL_law_X5_lay : GoodIn wsL_law wsX5_lay := goodIn_r _ [808, 28, 16, 99, 126, 127, 2, 128, 733, 734, 735, 757, 758, 759, 30, 760, 64, 809, 810, 811, 812, 65, 66, 133, 134, 135, 15, 136, 37, 39, 137, 138, 139, 140, 141, 142, 143, 880, 881, 882, 883, 884, 885, 911, 912, 913, 914, 915, 920, 921, 922] (by decide +kernel) (by decide +kernel)
set_option maxRecDepth 20000 in
theorem gL_law_X5_lay : GoodIn wsL_law (wsV RL 146 RX5 yX5_lay wsX5_lay) := goodIn_app (goodIn_of _ (by decide +kernel)) ggL_law_X5_lay
set_option maxRecDepth 20000 in
theorem ggL_law_X6_lay : GoodIn wsL_law wsX6_lay := goodIn_r _ [816, 81, 82, 83, 71, 152, 153, 5, 154, 155, 117, 118, 119, 746, 747, 748, 663, 185, 186, 187, 188, 73, 72, 189, 190, 191, 192, 886, 887, 888, 889, 890, 891, 892, 893, 894, 895, 896, 897, 898, 899, 900, 901, 902, 903, 904, 905, 906, 907, 908, 909, 910] (by decide +kernel) (by decide +kernel)
set_option maxRecDepth 20000 in
theorem gL_law_X6_lay : GoodIn wsL_law (wsV RL 149 RX6 yX6_lay wsX6_lay) := goodIn_app (goodIn_of _ (by decide +kernel)) ggL_law_X6_lay
set_option maxRecDepth 20000 in
theorem ggL_law_X5_film : GoodIn wsL_law wsX5_film := goodIn_r _ [820, 16, 28, 124, 821, 126, 127, 2, 128, 733, 734, 735, 269, 270, 271, 15, 272, 39, 822, 823, 824, 30, 825, 65, 826, 138, 139, 140, 141, 142, 143, 827, 737, 738, 739, 64, 66, 740, 105, 49, 106, 828, 145, 146, 147, 829, 766, 767, 768, 769, 770, 771, 772, 880, 881, 882, 883, 884, 885, 911, 912, 913, 914, 915, 920, 921, 922] (by decide +kernel) (by decide +kernel)
set_option maxRecDepth 20000 in
theorem gL_law_X5_film : GoodIn wsL_law (wsV RL 150 RX5 yX5_film wsX5_film) := goodIn_app (goodIn_of _ (by decide +kernel)) ggL_law_X5_film
set_option maxRecDepth 20000 in
theorem ggL_law_X6_film : GoodIn wsL_law wsX6_film := goodIn_r _ [833, 663, 73, 72, 71, 83, 152, 153, 5, 154, 155, 117, 118, 119, 746, 747, 748, 189, 190, 191, 192, 749, 750, 751, 752, 81, 82, 160, 161, 162, 163, 886, 887, 888, 889, 890, 891, 892, 893, 894, 895, 896, 897, 898, 899, 900, 901, 902, 903, 904, 905, 906, 907, 908, 909, 910] (by decide +kernel) (by decide +kernel)
set_option maxRecDepth 20000 in
theorem gL_law_X6_film : GoodIn wsL_law (wsV RL 153 RX6 yX6_film wsX6_film) := goodIn_app (goodIn_of _ (by decide +kernel)) ggL_law_X6_film
set_option maxRecDepth 20000 in
theorem ggL_law_X5_image : GoodIn wsL_law wsX5_image := goodIn_r _ [837, 17, 16, 18, 838, 839, 840, 15, 841, 35, 37, 842, 207, 208, 209, 39, 40, 42, 843, 203, 204, 21, 205, 46, 206, 844, 845, 846, 847, 848, 270, 271, 272, 380, 172, 173, 174, 175, 176, 177, 880, 881, 882, 883, 884, 885, 911, 912, 913, 914, 915, 916] (by decide +kernel) (by decide +kernel)
set_option maxRecDepth 20000 in
theorem gL_law_X5_image : GoodIn wsL_law (wsV RL 154 RX5 yX5_image wsX5_image) := goodIn_app (goodIn_of _ (by decide +kernel)) ggL_law_X5_image
set_option maxRecDepth 20000 in
theorem ggL_law_X6_image : GoodIn wsL_law wsX6_image := goodIn_r _ [852, 71, 76, 77, 72, 73, 78, 74, 79, 75, 80, 853, 854, 5, 855, 856, 857, 858, 859, 182, 183, 184, 886, 887, 888, 889, 890, 891, 892, 893, 894, 895, 896, 897, 898, 899, 900, 901, 902, 903, 904, 905, 906, 907, 908, 909, 910] (by decide +kernel) (by decide +kernel)
set_option maxRecDepth 20000 in
theorem gL_law_X6_image : GoodIn wsL_law (wsV RL 158 RX6 yX6_image wsX6_image) := goodIn_app (goodIn_of _ (by decide +kernel)) ggL_law_X6_image
set_option maxRecDepth 20000 in
theorem ggL_law_X5_back : GoodIn wsL_law wsX5_back := goodIn_r _ [863, 18, 16, 17, 838, 839, 840, 15, 841, 35, 37, 842, 207, 208, 209, 39, 40, 42, 843, 203, 204, 21, 205, 46, 206, 844, 845, 846, 847, 848, 270, 271, 272, 380, 172, 173, 174, 175, 176, 177, 880, 881, 882, 883, 884, 885, 911, 912, 913, 914, 915, 916] (by decide +kernel) (by decide +kernel)
set_option maxRecDepth 20000 in
theorem gL_law_X5_back : GoodIn wsL_law (wsV RL 159 RX5 yX5_back wsX5_back) := goodIn_app (goodIn_of _ (by decide +kernel)) ggL_law_X5_back
set_option maxRecDepth 20000 in
theorem ggL_law_X6_back : GoodIn wsL_law wsX6_back := goodIn_r _ [867, 76, 71, 72, 77, 78, 73, 79, 74, 80, 75, 853, 854, 5, 855, 856, 857, 858, 859, 182, 183, 184, 886, 887, 888, 889, 890, 891, 892, 893, 894, 895, 896, 897, 898, 899, 900, 901, 902, 903, 904, 905, 906, 907, 908, 909, 910] (by decide +kernel) (by decide +kernel)
set_option maxRecDepth 20000 in
theorem gL_law_X6_back : GoodIn wsL_law (wsV RL 162 RX6 yX6_back wsX6_back) := goodIn_app (goodIn_of _ (by decide +kernel)) ggL_law_X6_back
set_option maxRecDepth 20000 in
theorem ggL_law_X5_count : GoodIn wsL_law wsX5_count := goodIn_r _ [871, 16, 99, 201, 844, 845, 846, 15, 847, 848, 270, 271, 272, 39, 872, 873, 874, 2, 875, 28, 757, 758, 759, 30, 760, 64, 580, 581, 582, 21, 583, 46, 880, 881, 882, 883, 884, 885, 911, 912, 913, 914, 915, 920, 921, 922, 916] (by decide +kernel) (by decide +kernel)
set_option maxRecDepth 20000 in
theorem gL_law_X5_count : GoodIn wsL_law (wsV RL 163 RX5 yX5_count wsX5_count) := goodIn_app (goodIn_of _ (by decide +kernel)) ggL_law_X5_count
set_option maxRecDepth 20000 in
theorem ggL_law_X6_count : GoodIn wsL_law wsX6_count := goodIn_r _ [879, 71, 81, 856, 857, 858, 5, 859, 73, 600, 601, 602, 603, 75, 886, 887, 888, 889, 890, 891, 892, 893, 894, 895, 896, 897, 898, 899, 900, 901, 902, 903, 904, 905, 906, 907, 908, 909, 910] (by decide +kernel) (by decide +kernel)
set_option maxRecDepth 20000 in
theorem gL_law_X6_count : GoodIn wsL_law (wsV RL 166 RX6 yX6_count wsX6_count) := goodIn_app (goodIn_of _ (by decide +kernel)) ggL_law_X6_count
