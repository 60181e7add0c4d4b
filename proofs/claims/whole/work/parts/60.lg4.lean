set_option maxRecDepth 20000 in
theorem ggL_law_X4_span : GoodIn wsL_law wsX4_span := goodIn_r _ [669, 172, 597, 176, 177, 5, 178, 182, 183, 184, 185, 598, 599, 600, 601, 354, 355, 356, 70, 71, 72, 300, 301, 302, 303, 304, 305, 306, 307, 308, 309, 310, 311, 312, 313, 190, 191, 192, 193, 65, 194, 195, 196, 314, 315, 316, 317, 357, 358, 359, 360, 361, 670, 671, 672, 673, 602, 603, 604, 605, 606, 607, 608, 865, 866, 867, 868, 869, 870, 871, 872, 873, 874, 875, 876, 877, 878, 879, 880, 881, 882, 883, 884, 885, 886] (by decide +kernel) (by decide +kernel)
set_option maxRecDepth 20000 in
theorem gL_law_X4_span : GoodIn wsL_law (wsV RL 150 RX4 yX4_span wsX4_span) := goodIn_app (goodIn_of _ (by decide +kernel)) ggL_law_X4_span
set_option maxRecDepth 20000 in
theorem ggL_law_L_count : GoodIn wsL_law wsL_count := goodIn_ca (goodIn_r _ [676, 77, 677, 678, 679, 2, 680, 83, 84, 17, 325, 24, 373, 20, 509, 510, 511, 16, 512, 36, 681, 682, 683, 684, 40, 624, 625, 626, 627, 88, 89, 857, 858, 859, 860, 861, 862, 863, 864, 887, 888, 889, 890, 891, 892, 893, 894, 895, 896, 897, 898, 899, 900] (by decide +kernel) (by decide +kernel)) (goodIn_sub (fun _ h => List.mem_append_left _ (List.mem_append_left _ (List.mem_append_right _ h))) (by decide +kernel))
set_option maxRecDepth 20000 in
theorem gL_law_L_count : GoodIn wsL_law (va_wsS RL 151 yL_count wsL_count) := goodIn_app (goodIn_of _ (by decide +kernel)) ggL_law_L_count
set_option maxRecDepth 20000 in
theorem ggL_law_X4_count : GoodIn wsL_law wsX4_count := goodIn_r _ [688, 172, 176, 177, 5, 178, 689, 690, 691, 692, 65, 597, 201, 598, 599, 600, 601, 354, 355, 356, 70, 71, 72, 300, 301, 302, 303, 304, 305, 306, 307, 308, 309, 310, 311, 312, 313, 190, 191, 192, 193, 194, 195, 196, 314, 315, 316, 317, 357, 358, 359, 360, 361, 529, 530, 531, 532, 693, 694, 695, 696, 182, 183, 184, 185, 865, 866, 867, 868, 869, 870, 871, 872, 873, 874, 875, 876, 877, 878, 879, 880, 881, 882, 883, 884, 885, 886] (by decide +kernel) (by decide +kernel)
set_option maxRecDepth 20000 in
theorem gL_law_X4_count : GoodIn wsL_law (wsV RL 153 RX4 yX4_count wsX4_count) := goodIn_app (goodIn_of _ (by decide +kernel)) ggL_law_X4_count
set_option maxRecDepth 20000 in
theorem ggL_law_L_setting : GoodIn wsL_law wsL_setting := goodIn_ca (goodIn_r _ [699, 213, 700, 412, 413, 2, 414, 218, 219, 17, 409, 410, 857, 858, 859, 860, 861, 862, 863, 864, 887, 888, 889, 890, 891, 892, 893, 894] (by decide +kernel) (by decide +kernel)) (goodIn_sub (fun _ h => List.mem_append_right _ h) (by decide +kernel))
set_option maxRecDepth 20000 in
theorem gL_law_L_setting : GoodIn wsL_law (va_wsS RL 154 yL_setting wsL_setting) := goodIn_app (goodIn_of _ (by decide +kernel)) ggL_law_L_setting
set_option maxRecDepth 20000 in
theorem ggL_law_X4_setting : GoodIn wsL_law wsX4_setting := goodIn_r _ [704, 172, 65, 176, 177, 5, 178, 182, 183, 184, 185, 865, 866, 867, 868, 869, 870, 871, 872, 873, 874, 875, 876, 877, 878, 879, 880, 881, 882, 883, 884, 885, 886] (by decide +kernel) (by decide +kernel)
set_option maxRecDepth 20000 in
theorem gL_law_X4_setting : GoodIn wsL_law (wsV RL 156 RX4 yX4_setting wsX4_setting) := goodIn_app (goodIn_of _ (by decide +kernel)) ggL_law_X4_setting
set_option maxRecDepth 20000 in
theorem ggL_law_L_leaderAfter : GoodIn wsL_law wsL_leaderAfter := goodIn_ca (goodIn_r _ [707, 77, 708, 709, 710, 2, 711, 83, 84, 24, 87, 88, 89, 330, 331, 332, 23, 333, 51, 49, 50, 281, 282, 283, 284, 48, 285, 286, 287, 288, 857, 858, 859, 860, 861, 862, 863, 864, 895, 896, 897, 898, 899, 900] (by decide +kernel) (by decide +kernel)) (goodIn_sub (fun _ h => List.mem_append_left _ (List.mem_append_left _ (List.mem_append_right _ h))) (by decide +kernel))
set_option maxRecDepth 20000 in
theorem gL_law_L_leaderAfter : GoodIn wsL_law (va_wsS RL 157 yL_leaderAfter wsL_leaderAfter) := goodIn_app (goodIn_of _ (by decide +kernel)) ggL_law_L_leaderAfter
set_option maxRecDepth 20000 in
theorem ggL_law_X4_leaderAfter : GoodIn wsL_law wsX4_leaderAfter := goodIn_r _ [715, 172, 176, 177, 5, 178, 304, 305, 306, 307, 308, 309, 310, 311, 312, 313, 190, 191, 192, 193, 65, 194, 195, 196, 314, 315, 316, 317, 182, 183, 184, 185, 865, 866, 867, 868, 869, 870, 871, 872, 873, 874, 875, 876, 877, 878, 879, 880, 881, 882, 883, 884, 885, 886] (by decide +kernel) (by decide +kernel)
set_option maxRecDepth 20000 in
theorem gL_law_X4_leaderAfter : GoodIn wsL_law (wsV RL 159 RX4 yX4_leaderAfter wsX4_leaderAfter) := goodIn_app (goodIn_of _ (by decide +kernel)) ggL_law_X4_leaderAfter
set_option maxRecDepth 20000 in
theorem ggL_law_L_overtakes : GoodIn wsL_law wsL_overtakes := goodIn_ca (goodIn_ca (goodIn_r _ [718, 213, 77, 719, 720, 721, 2, 722, 218, 219, 83, 84, 17, 325, 220, 132, 133, 16, 134, 36, 723, 556, 557, 558, 135, 136, 137, 138, 38, 139, 140, 141, 142, 143, 144, 145, 146, 37, 147, 148, 149, 150, 42, 241, 221, 724, 166, 167, 857, 858, 859, 860, 861, 862, 863, 864, 887, 888, 889, 890, 891, 892, 893, 894] (by decide +kernel) (by decide +kernel)) (goodIn_sub (fun _ h => List.mem_append_right _ h) (by decide +kernel))) (goodIn_sub (fun _ h => List.mem_append_left _ (List.mem_append_left _ (List.mem_append_right _ h))) (by decide +kernel))
set_option maxRecDepth 20000 in
theorem gL_law_L_overtakes : GoodIn wsL_law (va_wsS RL 160 yL_overtakes wsL_overtakes) := goodIn_app (goodIn_of _ (by decide +kernel)) ggL_law_L_overtakes
set_option maxRecDepth 20000 in
theorem ggL_law_X4_overtakes : GoodIn wsL_law wsX4_overtakes := goodIn_r _ [728, 172, 230, 231, 232, 5, 233, 176, 177, 178, 190, 191, 192, 193, 65, 194, 195, 196, 182, 183, 184, 185, 729, 730, 731, 732, 314, 315, 316, 317, 602, 603, 604, 605, 606, 607, 608, 865, 866, 867, 868, 869, 870, 871, 872, 873, 874, 875, 876, 877, 878, 879, 880, 881, 882, 883, 884, 885, 886] (by decide +kernel) (by decide +kernel)
set_option maxRecDepth 20000 in
theorem gL_law_X4_overtakes : GoodIn wsL_law (wsV RL 163 RX4 yX4_overtakes wsX4_overtakes) := goodIn_app (goodIn_of _ (by decide +kernel)) ggL_law_X4_overtakes
