set_option maxRecDepth 20000 in
theorem ggL_told_X3_nextTurn : GoodIn wsL_told wsX3_nextTurn := goodIn_ca (goodIn_r _ [88, 25, 26, 27, 28, 89, 90, 91, 21, 92, 93, 32, 33, 34, 35, 36, 37, 94, 95, 96, 41, 97, 98, 68, 69, 70, 71, 72, 44, 45, 46, 47, 48, 99, 74, 75, 76, 67, 73, 100, 101, 102, 103, 176, 177, 178, 179, 180, 181, 182, 183, 184, 185, 186, 187, 188, 189, 190, 191, 192, 193, 194, 195, 196, 197] (by decide +kernel) (by decide +kernel)) (goodIn_sub (fun _ h => List.mem_cons_of_mem _ (List.mem_append_right _ h)) (by decide +kernel))
set_option maxRecDepth 20000 in
theorem gL_told_X3_nextTurn : GoodIn wsL_told (wsV RL 41 RX3 yX3_nextTurn wsX3_nextTurn) := goodIn_app (goodIn_of _ (by decide +kernel)) ggL_told_X3_nextTurn
set_option maxRecDepth 20000 in
theorem ggL_told_L_first : GoodIn wsL_told wsL_first := goodIn_r _ [17] (by decide +kernel) (by decide +kernel)
set_option maxRecDepth 20000 in
theorem gL_told_L_first : GoodIn wsL_told (va_wsS RL 8 yL_first wsL_first) := goodIn_app (goodIn_of _ (by decide +kernel)) ggL_told_L_first
set_option maxRecDepth 20000 in
theorem ggL_told_L_wins : GoodIn wsL_told wsL_wins := goodIn_r _ [14, 15, 16, 4, 17] (by decide +kernel) (by decide +kernel)
set_option maxRecDepth 20000 in
theorem gL_told_L_wins : GoodIn wsL_told (va_wsS RL 23 yL_wins wsL_wins) := goodIn_app (goodIn_of _ (by decide +kernel)) ggL_told_L_wins
set_option maxRecDepth 20000 in
theorem ggL_told_X3_mover : GoodIn wsL_told wsX3_mover := goodIn_ca (goodIn_ca (goodIn_r _ [107, 23, 24, 25, 26, 27, 36, 28, 61, 62, 63, 64, 65, 66, 108, 109, 110, 111, 112, 113, 114, 115, 116, 117, 118, 119, 120, 121, 122, 123, 124, 125, 126, 127, 128, 129, 130, 131, 132, 133, 134, 135, 136, 137, 138, 139, 21, 140, 57, 58, 59, 60, 32, 33, 34, 35, 37, 38, 39, 40, 41, 42, 43, 44, 45, 46, 47, 48, 141, 142, 143, 144, 67, 68, 69, 70, 71, 72, 73, 74, 75, 76, 145, 146, 147, 148, 149, 176, 177, 178, 179, 180, 181, 182, 183, 184, 185, 186, 187, 188, 189, 190, 191, 192, 193, 194, 195, 196, 197] (by decide +kernel) (by decide +kernel)) (goodIn_sub (fun _ h => List.mem_cons_of_mem _ (List.mem_append_left _ (List.mem_append_right _ h))) (by decide +kernel))) (goodIn_sub (fun _ h => List.mem_cons_of_mem _ (List.mem_append_right _ h)) (by decide +kernel))
set_option maxRecDepth 20000 in
theorem gL_told_X3_mover : GoodIn wsL_told (wsV RL 44 RX3 yX3_mover wsX3_mover) := goodIn_app (goodIn_of _ (by decide +kernel)) ggL_told_X3_mover
set_option maxRecDepth 20000 in
theorem ggL_told_X3_count : GoodIn wsL_told wsX3_count := goodIn_ca (goodIn_r _ [153, 25, 26, 27, 28, 36, 93, 154, 155, 156, 157, 64, 158, 66, 159, 160, 161, 162, 81, 77, 78, 79, 80, 30, 21, 31, 176, 177, 178, 179, 180, 181, 182, 183, 184, 185, 186, 187, 188, 189, 190, 191, 192, 193, 194, 195, 196, 197] (by decide +kernel) (by decide +kernel)) (goodIn_sub (fun _ h => List.mem_cons_of_mem _ (List.mem_append_right _ h)) (by decide +kernel))
set_option maxRecDepth 20000 in
theorem gL_told_X3_count : GoodIn wsL_told (wsV RL 47 RX3 yX3_count wsX3_count) := goodIn_app (goodIn_of _ (by decide +kernel)) ggL_told_X3_count
set_option maxRecDepth 20000 in
theorem ggL_told_X3_setting : GoodIn wsL_told wsX3_setting := goodIn_ca (goodIn_r _ [166, 23, 24, 27, 167, 168, 176, 177, 178, 179, 180, 181, 182, 183, 184, 185, 186, 187, 188, 189, 190, 191] (by decide +kernel) (by decide +kernel)) (goodIn_sub (fun _ h => List.mem_cons_of_mem _ (List.mem_append_left _ (List.mem_append_right _ h))) (by decide +kernel))
set_option maxRecDepth 20000 in
theorem gL_told_X3_setting : GoodIn wsL_told (wsV RL 50 RX3 yX3_setting wsX3_setting) := goodIn_app (goodIn_of _ (by decide +kernel)) ggL_told_X3_setting
set_option maxRecDepth 20000 in
theorem ggL_told_L_spans : GoodIn wsL_told wsL_spans := goodIn_ca (goodIn_ca (goodIn_r _ [171, 172, 173, 174, 21, 175, 25, 26, 36, 93, 27, 28, 29, 30, 31, 38, 39, 40, 41, 42, 43, 44, 45, 46, 47, 48, 67, 68, 69, 70, 71, 72, 73, 74, 75, 76, 104, 105, 106, 107, 23, 24, 61, 62, 63, 64, 65, 66, 108, 109, 110, 111, 112, 113, 114, 115, 116, 117, 118, 119, 120, 121, 122, 123, 124, 125, 126, 127, 128, 129, 130, 131, 132, 133, 134, 135, 136, 137, 138, 139, 140, 57, 58, 59, 60, 32, 33, 34, 35, 37, 141, 142, 143, 144, 145, 146, 147, 148, 149, 176, 177, 178, 179, 180, 181, 182, 183, 192, 193, 194, 195, 196, 197, 184, 185, 186, 187, 188, 189, 190, 191] (by decide +kernel) (by decide +kernel)) (goodIn_sub (fun _ h => List.mem_cons_of_mem _ (List.mem_append_right _ h)) (by decide +kernel))) (goodIn_sub (fun _ h => List.mem_cons_of_mem _ (List.mem_append_left _ (List.mem_append_right _ h))) (by decide +kernel))
set_option maxRecDepth 20000 in
theorem gL_told_L_spans : GoodIn wsL_told (va_wsS RL 53 yL_spans wsL_spans) := goodIn_app (goodIn_of _ (by decide +kernel)) ggL_told_L_spans
set_option maxRecDepth 20000 in
theorem ggL_spans_X3_span : GoodIn wsL_spans wsX3_span := goodIn_ca (goodIn_r _ [5, 6, 7, 8, 9, 10, 11, 12, 13, 4, 14, 15, 16, 17, 18, 19, 20, 21, 22, 23, 24, 25, 26, 27, 28, 29, 30, 31, 32, 33, 34, 35, 99, 100, 101, 102, 103, 104, 105, 106, 107, 108, 109, 110, 111, 112, 113, 114, 115, 116, 117, 118, 119, 120] (by decide +kernel) (by decide +kernel)) (goodIn_sub (fun _ h => List.mem_cons_of_mem _ (List.mem_append_left _ (List.mem_append_right _ h))) (by decide +kernel))
set_option maxRecDepth 20000 in
theorem gL_spans_X3_span : GoodIn wsL_spans (wsV RL 57 RX3 yX3_span wsX3_span) := goodIn_app (goodIn_of _ (by decide +kernel)) ggL_spans_X3_span
