set_option maxRecDepth 20000 in
theorem ggL_law_X3_init : GoodIn wsL_law wsX3_init := goodIn_r _ [10, 11, 12, 13, 14, 15, 16, 17, 18, 19, 20, 21, 22, 23, 24, 25, 26, 27, 28, 29, 30, 31, 32, 33, 34, 35, 36, 37, 38, 39, 40, 41, 42, 43, 44, 45, 46, 47, 48, 49, 50, 51, 52, 53, 54, 55, 56, 57, 58, 59, 60, 887, 888, 889, 890, 891, 892, 893, 894, 857, 858, 859, 860, 861, 862, 863, 864, 895, 896, 897, 898, 899, 900, 901, 902, 903] (by decide +kernel) (by decide +kernel)
set_option maxRecDepth 20000 in
theorem gL_law_X3_init : GoodIn wsL_law (wsX3_init) := ggL_law_X3_init
set_option maxRecDepth 20000 in
theorem ggL_law_X4_init : GoodIn wsL_law wsX4_init := goodIn_r _ [63, 64, 12, 13, 26, 65, 66, 67, 68, 69, 70, 71, 72, 865, 866, 867, 868, 869, 870, 871, 872, 873, 874, 875, 876, 877, 878, 879, 880, 881, 882, 883, 884, 885, 886] (by decide +kernel) (by decide +kernel)
set_option maxRecDepth 20000 in
theorem gL_law_X4_init : GoodIn wsL_law (wsX4_init) := ggL_law_X4_init
set_option maxRecDepth 20000 in
theorem ggL_law_L_add : GoodIn wsL_law wsL_add := goodIn_ca (goodIn_ca (goodIn_r _ [76, 77, 78, 79, 80, 81, 2, 82, 83, 84, 85, 86, 17, 87, 88, 89, 90, 91, 92, 93, 94, 95, 16, 96, 36, 97, 98, 99, 100, 20, 19, 101, 102, 103, 104, 18, 105, 106, 107, 108, 37, 38, 39, 40, 41, 42, 43, 109, 110, 111, 112, 113, 114, 115, 116, 117, 118, 119, 120, 121, 122, 24, 25, 123, 124, 125, 23, 126, 51, 52, 53, 127, 128, 129, 130, 131, 132, 133, 134, 135, 136, 137, 138, 139, 140, 141, 142, 143, 144, 145, 146, 147, 148, 149, 150, 151, 152, 153, 154, 48, 49, 50, 155, 156, 157, 158, 159, 160, 161, 162, 163, 164, 165, 166, 167, 857, 858, 859, 860, 861, 862, 863, 864, 887, 888, 889, 890, 891, 892, 893, 894, 895, 896, 897, 898, 899, 900] (by decide +kernel) (by decide +kernel)) (goodIn_sub (fun _ h => List.mem_append_left _ (List.mem_append_left _ (List.mem_append_right _ h))) (by decide +kernel))) (goodIn_sub (fun _ h => List.mem_append_left _ (List.mem_append_right _ h)) (by decide +kernel))
set_option maxRecDepth 20000 in
theorem gL_law_L_add : GoodIn wsL_law (va_wsS RL 90 yL_add wsL_add) := goodIn_app (goodIn_of _ (by decide +kernel)) ggL_law_L_add
set_option maxRecDepth 20000 in
theorem ggL_law_X4_add : GoodIn wsL_law wsX4_add := goodIn_r _ [171, 172, 173, 174, 5, 175, 176, 177, 178, 179, 180, 181, 182, 183, 184, 185, 186, 187, 188, 189, 190, 191, 192, 193, 65, 194, 195, 196, 197, 198, 199, 200, 201, 66, 202, 203, 204, 205, 865, 866, 867, 868, 869, 870, 871, 872, 873, 874, 875, 876, 877, 878, 879, 880, 881, 882, 883, 884, 885, 886] (by decide +kernel) (by decide +kernel)
set_option maxRecDepth 20000 in
theorem gL_law_X4_add : GoodIn wsL_law (wsV RL 95 RX4 yX4_add wsX4_add) := goodIn_app (goodIn_of _ (by decide +kernel)) ggL_law_X4_add
set_option maxRecDepth 20000 in
theorem ggL_law_X4_thrown : GoodIn wsL_law wsX4_thrown := goodIn_r _ [209, 172, 865, 866, 867, 868, 869, 870, 871, 872, 873, 874, 875, 876, 877, 878, 879, 880, 881, 882, 883, 884, 885, 886] (by decide +kernel) (by decide +kernel)
set_option maxRecDepth 20000 in
theorem gL_law_X4_thrown : GoodIn wsL_law (wsV RL 96 RX4 yX4_thrown wsX4_thrown) := goodIn_app (goodIn_of _ (by decide +kernel)) ggL_law_X4_thrown
set_option maxRecDepth 20000 in
theorem ggL_law_L_remove : GoodIn wsL_law wsL_remove := goodIn_ca (goodIn_r _ [212, 213, 214, 215, 216, 2, 217, 218, 219, 17, 220, 132, 133, 16, 134, 36, 97, 98, 99, 100, 20, 19, 101, 102, 103, 104, 18, 105, 106, 107, 108, 37, 38, 39, 40, 41, 42, 43, 221, 144, 145, 146, 222, 223, 224, 225, 113, 114, 87, 88, 89, 115, 116, 117, 118, 119, 120, 121, 122, 24, 25, 123, 124, 125, 23, 126, 51, 52, 53, 127, 128, 129, 130, 131, 135, 136, 137, 138, 139, 140, 141, 142, 143, 147, 148, 149, 150, 151, 152, 153, 154, 48, 49, 50, 155, 156, 157, 158, 159, 160, 161, 162, 163, 164, 165, 166, 167, 857, 858, 859, 860, 861, 862, 863, 864, 887, 888, 889, 890, 891, 892, 893, 894, 895, 896, 897, 898, 899, 900] (by decide +kernel) (by decide +kernel)) (goodIn_sub (fun _ h => List.mem_append_right _ h) (by decide +kernel))
set_option maxRecDepth 20000 in
theorem gL_law_L_remove : GoodIn wsL_law (va_wsS RL 99 yL_remove wsL_remove) := goodIn_app (goodIn_of _ (by decide +kernel)) ggL_law_L_remove
set_option maxRecDepth 20000 in
theorem ggL_law_X4_remove : GoodIn wsL_law wsX4_remove := goodIn_r _ [229, 172, 65, 230, 231, 232, 5, 233, 176, 177, 178, 190, 191, 192, 193, 194, 195, 196, 182, 183, 184, 185, 197, 198, 199, 200, 201, 66, 865, 866, 867, 868, 869, 870, 871, 872, 873, 874, 875, 876, 877, 878, 879, 880, 881, 882, 883, 884, 885, 886] (by decide +kernel) (by decide +kernel)
set_option maxRecDepth 20000 in
theorem gL_law_X4_remove : GoodIn wsL_law (wsV RL 102 RX4 yX4_remove wsX4_remove) := goodIn_app (goodIn_of _ (by decide +kernel)) ggL_law_X4_remove
set_option maxRecDepth 20000 in
theorem ggL_law_L_speed : GoodIn wsL_law wsL_speed := goodIn_ca (goodIn_ca (goodIn_r _ [236, 213, 77, 237, 238, 239, 2, 240, 218, 219, 83, 84, 17, 220, 132, 133, 16, 134, 36, 90, 91, 92, 87, 88, 89, 97, 98, 99, 100, 20, 19, 101, 102, 103, 104, 18, 105, 106, 107, 108, 37, 38, 39, 40, 41, 42, 43, 241, 136, 137, 138, 242, 243, 244, 245, 113, 114, 115, 116, 117, 118, 119, 120, 121, 122, 24, 25, 123, 124, 125, 23, 126, 51, 52, 53, 127, 128, 129, 130, 131, 135, 139, 140, 141, 142, 143, 144, 145, 146, 147, 148, 149, 150, 151, 152, 153, 154, 48, 49, 50, 155, 156, 157, 158, 159, 160, 161, 162, 163, 164, 165, 166, 167, 857, 858, 859, 860, 861, 862, 863, 864, 887, 888, 889, 890, 891, 892, 893, 894, 895, 896, 897, 898, 899, 900] (by decide +kernel) (by decide +kernel)) (goodIn_sub (fun _ h => List.mem_append_right _ h) (by decide +kernel))) (goodIn_sub (fun _ h => List.mem_append_left _ (List.mem_append_left _ (List.mem_append_right _ h))) (by decide +kernel))
set_option maxRecDepth 20000 in
theorem gL_law_L_speed : GoodIn wsL_law (va_wsS RL 103 yL_speed wsL_speed) := goodIn_app (goodIn_of _ (by decide +kernel)) ggL_law_L_speed
set_option maxRecDepth 20000 in
theorem ggL_law_X4_speed : GoodIn wsL_law wsX4_speed := goodIn_r _ [249, 172, 65, 230, 231, 232, 5, 233, 176, 177, 178, 190, 191, 192, 193, 194, 195, 196, 182, 183, 184, 185, 179, 180, 181, 197, 198, 199, 200, 201, 66, 865, 866, 867, 868, 869, 870, 871, 872, 873, 874, 875, 876, 877, 878, 879, 880, 881, 882, 883, 884, 885, 886] (by decide +kernel) (by decide +kernel)
set_option maxRecDepth 20000 in
theorem gL_law_X4_speed : GoodIn wsL_law (wsV RL 105 RX4 yX4_speed wsX4_speed) := goodIn_app (goodIn_of _ (by decide +kernel)) ggL_law_X4_speed
