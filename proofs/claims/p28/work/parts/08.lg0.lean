set_option maxRecDepth 20000 in
theorem ggL_wins_L_first : GoodIn wsL_wins wsL_first := goodIn_r _ [4] (by decide +kernel) (by decide +kernel)
set_option maxRecDepth 20000 in
theorem gL_wins_L_first : GoodIn wsL_wins (va_wsS RL 8 yL_first wsL_first) := goodIn_app (goodIn_of _ (by decide +kernel)) ggL_wins_L_first
set_option maxRecDepth 20000 in
theorem ggL_begin_L_size : GoodIn wsL_begin wsL_size := goodIn_r _ [4] (by decide +kernel) (by decide +kernel)
set_option maxRecDepth 20000 in
theorem gL_begin_L_size : GoodIn wsL_begin (va_wsS RL 14 yL_size wsL_size) := goodIn_app (goodIn_of _ (by decide +kernel)) ggL_begin_L_size
set_option maxRecDepth 20000 in
theorem ggL_turns_L_begin : GoodIn wsL_turns wsL_begin := goodIn_r _ [5, 6, 7, 4, 8] (by decide +kernel) (by decide +kernel)
set_option maxRecDepth 20000 in
theorem gL_turns_L_begin : GoodIn wsL_turns (va_wsS RL 20 yL_begin wsL_begin) := goodIn_app (goodIn_of _ (by decide +kernel)) ggL_turns_L_begin
set_option maxRecDepth 20000 in
theorem ggL_turns_L_size : GoodIn wsL_turns wsL_size := goodIn_r _ [8] (by decide +kernel) (by decide +kernel)
set_option maxRecDepth 20000 in
theorem gL_turns_L_size : GoodIn wsL_turns (va_wsS RL 14 yL_size wsL_size) := goodIn_app (goodIn_of _ (by decide +kernel)) ggL_turns_L_size
set_option maxRecDepth 20000 in
theorem ggL_turns_L_wins : GoodIn wsL_turns wsL_wins := goodIn_r _ [11, 12, 13, 4, 14] (by decide +kernel) (by decide +kernel)
set_option maxRecDepth 20000 in
theorem gL_turns_L_wins : GoodIn wsL_turns (va_wsS RL 23 yL_wins wsL_wins) := goodIn_app (goodIn_of _ (by decide +kernel)) ggL_turns_L_wins
set_option maxRecDepth 20000 in
theorem ggL_told_L_turns : GoodIn wsL_told wsL_turns := goodIn_r _ [5, 1, 6, 7, 4, 8, 9, 10, 11, 12, 13, 14, 15, 16, 17] (by decide +kernel) (by decide +kernel)
set_option maxRecDepth 20000 in
theorem gL_told_L_turns : GoodIn wsL_told (va_wsS RL 27 yL_turns wsL_turns) := goodIn_app (goodIn_of _ (by decide +kernel)) ggL_told_L_turns
set_option maxRecDepth 20000 in
theorem ggL_told_X3_contest : GoodIn wsL_told wsX3_contest := goodIn_ca (goodIn_ca (goodIn_r _ [22, 23, 24, 25, 26, 27, 28, 29, 30, 21, 31, 32, 33, 34, 35, 36, 37, 38, 39, 40, 41, 42, 43, 44, 45, 46, 47, 48, 49, 50, 51, 52, 53, 54, 55, 56, 57, 58, 59, 60, 61, 62, 63, 64, 65, 66, 67, 68, 69, 70, 71, 72, 73, 74, 75, 76, 77, 78, 79, 80, 81, 176, 177, 178, 179, 180, 181, 182, 183, 184, 185, 186, 187, 188, 189, 190, 191, 192, 193, 194, 195, 196, 197] (by decide +kernel) (by decide +kernel)) (goodIn_sub (fun _ h => List.mem_cons_of_mem _ (List.mem_append_left _ (List.mem_append_right _ h))) (by decide +kernel))) (goodIn_sub (fun _ h => List.mem_cons_of_mem _ (List.mem_append_right _ h)) (by decide +kernel))
set_option maxRecDepth 20000 in
theorem gL_told_X3_contest : GoodIn wsL_told (wsV RL 31 RX3 yX3_contest wsX3_contest) := goodIn_app (goodIn_of _ (by decide +kernel)) ggL_told_X3_contest
set_option maxRecDepth 20000 in
theorem ggL_told_L_same : GoodIn wsL_told wsL_same := goodIn_r _ [84] (by decide +kernel) (by decide +kernel)
set_option maxRecDepth 20000 in
theorem gL_told_L_same : GoodIn wsL_told (va_wsS RL 37 yL_same wsL_same) := goodIn_app (goodIn_of _ (by decide +kernel)) ggL_told_L_same
