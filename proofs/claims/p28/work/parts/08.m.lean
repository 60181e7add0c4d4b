set_option maxRecDepth 20000 in
theorem gd_told_1 : GoodIn wsL_law (.code yL_told cL_told 17 (some .boolean) :: wsL_told_r1) := goodIn_r _ [61, 62, 63, 64, 60, 65, 66, 67, 68, 69, 70, 71, 72, 73, 74, 75, 76, 77, 78, 79, 80, 2, 81, 82, 83] (by decide +kernel) (by decide +kernel)
set_option maxRecDepth 20000 in
theorem gd_told_2 : GoodIn wsL_law wsL_told_r2 := goodIn_r _ [84, 85, 15, 86, 87, 88, 89, 90, 91, 92, 93, 22, 23, 94, 95, 96, 21, 97, 45, 98, 99, 100, 101, 48] (by decide +kernel) (by decide +kernel)
set_option maxRecDepth 20000 in
theorem gd_told_3 : GoodIn wsL_law wsL_told_r3 := goodIn_r _ [102, 103, 104, 105, 106, 107, 108, 109, 110, 111, 112, 113, 114, 115, 116, 14, 117, 33, 118, 119, 120, 121, 47, 46] (by decide +kernel) (by decide +kernel)
set_option maxRecDepth 20000 in
theorem gd_told_4 : GoodIn wsL_law wsL_told_r4 := goodIn_r _ [122, 123, 124, 125, 126, 127, 128, 129, 37, 130, 131, 132, 133, 134, 135, 136, 137, 138, 139, 140, 141, 142, 143, 144] (by decide +kernel) (by decide +kernel)
set_option maxRecDepth 20000 in
theorem gd_told_5 : GoodIn wsL_law wsL_told_r5 := goodIn_r _ [145, 146, 147, 148, 149, 150, 151, 152, 153, 154, 155, 156, 157, 158, 159, 34, 160, 161, 162, 163, 35, 164, 165, 166] (by decide +kernel) (by decide +kernel)
set_option maxRecDepth 20000 in
theorem gd_told_6 : GoodIn wsL_law wsL_told_r6 := goodIn_r _ [167, 168, 169, 170, 171, 172, 173, 174, 175, 176, 177, 178, 179, 180, 181, 39, 182, 183, 184, 185, 186, 187, 188, 189] (by decide +kernel) (by decide +kernel)
set_option maxRecDepth 20000 in
theorem gd_told_7 : GoodIn wsL_law wsL_told_r7 := goodIn_r _ [190, 191, 192, 193, 36, 194, 195, 196, 197, 18, 198, 199, 200, 201, 202, 203, 204, 205, 206, 207, 208, 209, 210, 211] (by decide +kernel) (by decide +kernel)
set_option maxRecDepth 20000 in
theorem gd_told_8 : GoodIn wsL_law wsL_told_r8 := goodIn_r _ [212, 213, 214, 215, 216, 217, 218] (by decide +kernel) (by decide +kernel)
set_option maxRecDepth 20000 in
theorem gd_told_wsX30 : GoodIn wsL_law wsX30 := goodIn_r _ [362, 363, 364, 365, 366, 367, 368, 369] (by decide +kernel) (by decide +kernel)
set_option maxRecDepth 20000 in
theorem gd_told_wsX10 : GoodIn wsL_law wsX10 := goodIn_r _ [370, 371, 372, 373, 374, 375, 376, 377] (by decide +kernel) (by decide +kernel)
set_option maxRecDepth 20000 in
theorem gd_told_wsX00 : GoodIn wsL_law wsX00 := goodIn_r _ [378, 379, 380, 381, 382, 383] (by decide +kernel) (by decide +kernel)
set_option maxRecDepth 20000 in
theorem ggL_law_L_told : GoodIn wsL_law wsL_told := goodIn_ca (goodIn_ca (goodIn_ca (goodIn_ca (goodIn_ca (goodIn_ca gd_told_1 (goodIn_app gd_told_2 (goodIn_app gd_told_3 (goodIn_app gd_told_4 (goodIn_app gd_told_5 (goodIn_app gd_told_6 (goodIn_app gd_told_7 gd_told_8))))))) gd_told_wsX30) gd_told_wsX10) gd_told_wsX00) (goodIn_sub (fun _ h => List.mem_append_left _ (List.mem_append_left _ (List.mem_append_right _ h))) (by decide +kernel))) (goodIn_sub (fun _ h => List.mem_append_left _ (List.mem_append_right _ h)) (by decide +kernel))
set_option maxRecDepth 20000 in
theorem gL_law_L_told : GoodIn wsL_law (va_wsS RL 94 yL_told wsL_told) := goodIn_app (goodIn_of _ (by decide +kernel)) ggL_law_L_told
set_option maxRecDepth 20000 in
theorem gd_act_1 : GoodIn wsL_law (.code yL_act cL_act 14 (some .boolean) :: wsL_act_r1) := goodIn_r _ [228, 229, 230, 223, 224, 60, 225, 231, 232, 233, 2, 234, 84, 85, 235, 236, 15, 87, 88, 89, 237, 238, 239, 240, 241] (by decide +kernel) (by decide +kernel)
set_option maxRecDepth 20000 in
theorem gd_act_2 : GoodIn wsL_law wsL_act_r2 := goodIn_r _ [242, 14, 243, 33, 244, 245, 246, 247, 18, 17, 248, 249, 250, 251, 16, 252, 253, 254, 255, 34, 35, 36, 37, 38] (by decide +kernel) (by decide +kernel)
set_option maxRecDepth 20000 in
theorem gd_act_3 : GoodIn wsL_law wsL_act_r3 := goodIn_r _ [39, 40, 256, 257, 258, 259, 260, 261, 262, 263, 264, 265, 90, 91, 92, 93, 22, 23, 266, 267, 268, 21, 269, 48] (by decide +kernel) (by decide +kernel)
set_option maxRecDepth 20000 in
theorem gd_act_4 : GoodIn wsL_law wsL_act_r4 := goodIn_r _ [49, 50, 270, 271, 272, 273, 274, 115, 116, 117, 172, 161, 162, 163, 173, 174, 175, 176, 177, 157, 158, 159, 178, 179] (by decide +kernel) (by decide +kernel)
set_option maxRecDepth 20000 in
theorem gd_act_5 : GoodIn wsL_law wsL_act_r5 := goodIn_r _ [180, 181, 275, 276, 277, 278, 45, 46, 47, 279, 280, 281, 282, 283, 284, 285, 286, 287, 288, 289, 290, 291, 292, 293] (by decide +kernel) (by decide +kernel)
set_option maxRecDepth 20000 in
theorem gd_act_6 : GoodIn wsL_law wsL_act_r6 := goodIn_r _ [294, 63, 64, 65, 62, 66, 67, 68, 69, 70, 71, 72, 73, 74, 75, 76, 77, 295, 296, 297, 298, 299, 300, 301] (by decide +kernel) (by decide +kernel)
set_option maxRecDepth 20000 in
theorem gd_act_7 : GoodIn wsL_law wsL_act_r7 := goodIn_r _ [302, 303, 304, 305, 306, 86, 307, 308, 309, 310, 311, 312, 313, 314, 315, 316, 317, 318, 319, 320, 321, 322, 82, 83] (by decide +kernel) (by decide +kernel)
set_option maxRecDepth 20000 in
theorem gd_act_8 : GoodIn wsL_law wsL_act_r8 := goodIn_r _ [210, 211, 323, 207, 208, 209, 324, 325, 326, 327, 24, 328, 110, 111, 112, 113, 94, 95, 96, 97, 98, 99, 100, 101] (by decide +kernel) (by decide +kernel)
set_option maxRecDepth 20000 in
theorem gd_act_9 : GoodIn wsL_law wsL_act_r9 := goodIn_r _ [329, 330, 331, 332, 333, 334, 335, 336, 337, 338, 339, 114, 160, 340, 341, 342, 343, 344, 345, 346, 347, 348, 349, 156] (by decide +kernel) (by decide +kernel)
set_option maxRecDepth 20000 in
theorem gd_act_10 : GoodIn wsL_law wsL_act_r10 := goodIn_r _ [350, 351, 352, 353, 354, 355, 356, 357, 358, 359, 360, 361] (by decide +kernel) (by decide +kernel)
set_option maxRecDepth 20000 in
theorem gd_act_wsX30 : GoodIn wsL_law wsX30 := goodIn_r _ [362, 363, 364, 365, 366, 367, 368, 369] (by decide +kernel) (by decide +kernel)
set_option maxRecDepth 20000 in
theorem gd_act_wsX10 : GoodIn wsL_law wsX10 := goodIn_r _ [370, 371, 372, 373, 374, 375, 376, 377] (by decide +kernel) (by decide +kernel)
set_option maxRecDepth 20000 in
theorem gd_act_wsX00 : GoodIn wsL_law wsX00 := goodIn_r _ [378, 379, 380, 381, 382, 383] (by decide +kernel) (by decide +kernel)
set_option maxRecDepth 20000 in
theorem ggL_law_L_act : GoodIn wsL_law wsL_act := goodIn_ca (goodIn_ca (goodIn_ca (goodIn_ca (goodIn_ca (goodIn_ca (goodIn_ca gd_act_1 (goodIn_app gd_act_2 (goodIn_app gd_act_3 (goodIn_app gd_act_4 (goodIn_app gd_act_5 (goodIn_app gd_act_6 (goodIn_app gd_act_7 (goodIn_app gd_act_8 (goodIn_app gd_act_9 gd_act_10))))))))) gd_act_wsX30) gd_act_wsX10) gd_act_wsX00) (goodIn_sub (fun _ h => List.mem_append_left _ (List.mem_append_right _ h)) (by decide +kernel))) (goodIn_sub (fun _ h => List.mem_append_right _ h) (by decide +kernel))) (goodIn_sub (fun _ h => List.mem_append_left _ (List.mem_append_left _ (List.mem_append_right _ h))) (by decide +kernel))
set_option maxRecDepth 20000 in
theorem gL_law_L_act : GoodIn wsL_law (va_wsS RL 103 yL_act wsL_act) := goodIn_app (goodIn_of _ (by decide +kernel)) ggL_law_L_act
