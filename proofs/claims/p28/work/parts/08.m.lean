theorem goodIn_q {big : List Cond} (ws : List Cond) (ps : List Nat) (hp : ws.filter k2_isCode = ps.filterMap (fun i => big[i]?)) (qs : List Nat) (hq : ws.filter (fun w => !k2_isCode w) = qs.filterMap (fun i => big[i]?)) (h : (ws.filter (fun w => !k2_isCode w)).all goodWord = true) : GoodIn big ws := by
  intro w hw
  by_cases hc : k2_isCode w = true
  · have h1 : w ∈ ws.filter k2_isCode := List.mem_filter.mpr ⟨hw, hc⟩
    rw [hp] at h1
    obtain ⟨i, -, hi⟩ := List.mem_filterMap.mp h1
    have hm : w ∈ big := List.mem_of_getElem? hi
    refine ⟨hm, ?_⟩
    cases w <;> first | (simp [k2_isCode] at hc; done) | exact Or.inl rfl
  · have h0 : w ∈ ws.filter (fun w => !k2_isCode w) := List.mem_filter.mpr ⟨hw, by simpa using hc⟩
    have h1 := List.all_eq_true.mp h w h0
    rw [hq] at h0
    obtain ⟨i, -, hi⟩ := List.mem_filterMap.mp h0
    exact ⟨List.mem_of_getElem? hi, good_of_word h1⟩
theorem goodIn_c {big ws : List Cond} {c : Cond} {i : Nat} (h : big[i]? = some c) (hg : goodWord c = true) (hw : GoodIn big ws) : GoodIn big (c :: ws) := fun w hm => (List.mem_cons.mp hm).elim (fun e => by rw [e]; exact ⟨List.mem_of_getElem? h, good_of_word hg⟩) (hw w)
set_option maxRecDepth 20000 in
theorem gd_told_1 : GoodIn wsL_law (.code yL_told cL_told 17 (some .boolean) :: wsL_told_r1) := goodIn_c (i := 61) rfl (by decide +kernel) (goodIn_q wsL_told_r1 [65, 68, 71, 74, 77, 81] rfl [62, 63, 64, 60, 66, 67, 69, 70, 72, 73, 75, 76, 78, 79, 80, 2, 82, 83] (by decide +kernel) (by decide +kernel))
set_option maxRecDepth 20000 in
theorem gd_told_2 : GoodIn wsL_law wsL_told_r2 := goodIn_q wsL_told_r2 [89, 93, 97, 101] rfl [84, 85, 15, 86, 87, 88, 90, 91, 92, 22, 23, 94, 95, 96, 21, 45, 98, 99, 100, 48] (by decide +kernel) (by decide +kernel)
set_option maxRecDepth 20000 in
theorem gd_told_3 : GoodIn wsL_law wsL_told_r3 := goodIn_q wsL_told_r3 [105, 109, 113, 117, 121] rfl [102, 103, 104, 106, 107, 108, 110, 111, 112, 114, 115, 116, 14, 33, 118, 119, 120, 47, 46] (by decide +kernel) (by decide +kernel)
set_option maxRecDepth 20000 in
theorem gd_told_4 : GoodIn wsL_law wsL_told_r4 := goodIn_q wsL_told_r4 [125, 129, 132, 136, 140] rfl [122, 123, 124, 126, 127, 128, 37, 130, 131, 133, 134, 135, 137, 138, 139, 141, 142, 143, 144] (by decide +kernel) (by decide +kernel)
set_option maxRecDepth 20000 in
theorem gd_told_5 : GoodIn wsL_law wsL_told_r5 := goodIn_q wsL_told_r5 [145, 151, 155, 159, 163] rfl [146, 147, 148, 149, 150, 152, 153, 154, 156, 157, 158, 34, 160, 161, 162, 35, 164, 165, 166] (by decide +kernel) (by decide +kernel)
set_option maxRecDepth 20000 in
theorem gd_told_6 : GoodIn wsL_law wsL_told_r6 := goodIn_q wsL_told_r6 [167, 171, 176, 181, 185, 189] rfl [168, 169, 170, 172, 173, 174, 175, 177, 178, 179, 180, 39, 182, 183, 184, 186, 187, 188] (by decide +kernel) (by decide +kernel)
set_option maxRecDepth 20000 in
theorem gd_told_7 : GoodIn wsL_law wsL_told_r7 := goodIn_q wsL_told_r7 [193, 197, 201, 205, 209] rfl [190, 191, 192, 36, 194, 195, 196, 18, 198, 199, 200, 202, 203, 204, 206, 207, 208, 210, 211] (by decide +kernel) (by decide +kernel)
set_option maxRecDepth 20000 in
theorem gd_told_8 : GoodIn wsL_law wsL_told_r8 := goodIn_q wsL_told_r8 [214, 218] rfl [212, 213, 215, 216, 217] (by decide +kernel) (by decide +kernel)
set_option maxRecDepth 20000 in
theorem gd_told_wsX30 : GoodIn wsL_law wsX30 := goodIn_r _ [362, 363, 364, 365, 366, 367, 368, 369] (by decide +kernel) (by decide +kernel)
set_option maxRecDepth 20000 in
theorem gd_told_wsX10 : GoodIn wsL_law wsX10 := goodIn_r _ [370, 371, 372, 373, 374, 375, 376, 377] (by decide +kernel) (by decide +kernel)
set_option maxRecDepth 20000 in
theorem gd_told_wsX00 : GoodIn wsL_law wsX00 := goodIn_r _ [378, 379, 380, 381, 382, 383] (by decide +kernel) (by decide +kernel)
set_option maxRecDepth 20000 in
theorem ggL_law_L_told : GoodIn wsL_law wsL_told := goodIn_ca (goodIn_ca (goodIn_ca (goodIn_ca (goodIn_ca (goodIn_ca gd_told_1 (goodIn_app gd_told_2 (goodIn_app gd_told_3 (goodIn_app gd_told_4 (goodIn_app gd_told_5 (goodIn_app gd_told_6 (goodIn_app gd_told_7 gd_told_8))))))) gd_told_wsX30) gd_told_wsX10) gd_told_wsX00) (goodIn_sub (fun _ h => List.mem_append_left _ (List.mem_append_left _ (List.mem_append_right _ h))) (by decide +kernel))) (goodIn_sub (fun _ h => List.mem_append_left _ (List.mem_append_right _ h)) (by decide +kernel))
set_option maxRecDepth 20000 in
theorem gL_law_L_told : GoodIn wsL_law (va_wsS RL 94 yL_told wsL_told) := goodIn_app (goodIn_of _ (by decide +kernel)) ggL_law_L_told
set_option maxRecDepth 20000 in
theorem gd_act_1 : GoodIn wsL_law (.code yL_act cL_act 14 (some .boolean) :: wsL_act_r1) := goodIn_c (i := 228) rfl (by decide +kernel) (goodIn_q wsL_act_r1 [225, 234, 89, 239] rfl [229, 230, 223, 224, 60, 231, 232, 233, 2, 84, 85, 235, 236, 15, 87, 88, 237, 238, 240, 241] (by decide +kernel) (by decide +kernel))
set_option maxRecDepth 20000 in
theorem gd_act_2 : GoodIn wsL_law wsL_act_r2 := goodIn_q wsL_act_r2 [243, 247, 251, 255] rfl [242, 14, 33, 244, 245, 246, 18, 17, 248, 249, 250, 16, 252, 253, 254, 34, 35, 36, 37, 38] (by decide +kernel) (by decide +kernel)
set_option maxRecDepth 20000 in
theorem gd_act_3 : GoodIn wsL_law wsL_act_r3 := goodIn_q wsL_act_r3 [259, 261, 265, 93, 269] rfl [39, 40, 256, 257, 258, 260, 262, 263, 264, 90, 91, 92, 22, 23, 266, 267, 268, 21, 48] (by decide +kernel) (by decide +kernel)
set_option maxRecDepth 20000 in
theorem gd_act_4 : GoodIn wsL_law wsL_act_r4 := goodIn_q wsL_act_r4 [273, 117, 163, 176, 159] rfl [49, 50, 270, 271, 272, 274, 115, 116, 172, 161, 162, 173, 174, 175, 177, 157, 158, 178, 179] (by decide +kernel) (by decide +kernel)
set_option maxRecDepth 20000 in
theorem gd_act_5 : GoodIn wsL_law wsL_act_r5 := goodIn_q wsL_act_r5 [181, 278, 282, 288, 291] rfl [180, 275, 276, 277, 45, 46, 47, 279, 280, 281, 283, 284, 285, 286, 287, 289, 290, 292, 293] (by decide +kernel) (by decide +kernel)
set_option maxRecDepth 20000 in
theorem gd_act_6 : GoodIn wsL_law wsL_act_r6 := goodIn_q wsL_act_r6 [294, 65, 68, 71, 74, 77, 298] rfl [63, 64, 62, 66, 67, 69, 70, 72, 73, 75, 76, 295, 296, 297, 299, 300, 301] (by decide +kernel) (by decide +kernel)
set_option maxRecDepth 20000 in
theorem gd_act_7 : GoodIn wsL_law wsL_act_r7 := goodIn_q wsL_act_r7 [302, 306, 310, 314, 318, 322] rfl [303, 304, 305, 86, 307, 308, 309, 311, 312, 313, 315, 316, 317, 319, 320, 321, 82, 83] (by decide +kernel) (by decide +kernel)
set_option maxRecDepth 20000 in
theorem gd_act_8 : GoodIn wsL_law wsL_act_r8 := goodIn_q wsL_act_r8 [209, 327, 113, 97, 101] rfl [210, 211, 323, 207, 208, 324, 325, 326, 24, 328, 110, 111, 112, 94, 95, 96, 98, 99, 100] (by decide +kernel) (by decide +kernel)
set_option maxRecDepth 20000 in
theorem gd_act_9 : GoodIn wsL_law wsL_act_r9 := goodIn_q wsL_act_r9 [332, 335, 339, 343, 347] rfl [329, 330, 331, 333, 334, 336, 337, 338, 114, 160, 340, 341, 342, 344, 345, 346, 348, 349, 156] (by decide +kernel) (by decide +kernel)
set_option maxRecDepth 20000 in
theorem gd_act_10 : GoodIn wsL_law wsL_act_r10 := goodIn_q wsL_act_r10 [353, 357, 361] rfl [350, 351, 352, 354, 355, 356, 358, 359, 360] (by decide +kernel) (by decide +kernel)
set_option maxRecDepth 20000 in
theorem gd_act_wsX30 : GoodIn wsL_law wsX30 := goodIn_r _ [362, 363, 364, 365, 366, 367, 368, 369] (by decide +kernel) (by decide +kernel)
set_option maxRecDepth 20000 in
theorem gd_act_wsX10 : GoodIn wsL_law wsX10 := goodIn_r _ [370, 371, 372, 373, 374, 375, 376, 377] (by decide +kernel) (by decide +kernel)
set_option maxRecDepth 20000 in
theorem gd_act_wsX00 : GoodIn wsL_law wsX00 := goodIn_r _ [378, 379, 380, 381, 382, 383] (by decide +kernel) (by decide +kernel)
set_option maxRecDepth 20000 in
theorem ggL_law_L_act : GoodIn wsL_law wsL_act := goodIn_ca (goodIn_ca (goodIn_ca (goodIn_ca (goodIn_ca (goodIn_ca (goodIn_ca gd_act_1 (goodIn_app gd_act_2 (goodIn_app gd_act_3 (goodIn_app gd_act_4 (goodIn_app gd_act_5 (goodIn_app gd_act_6 (goodIn_app gd_act_7 (goodIn_app gd_act_8 (goodIn_app gd_act_9 gd_act_10))))))))) gd_act_wsX30) gd_act_wsX10) gd_act_wsX00) (goodIn_sub (fun _ h => List.mem_append_left _ (List.mem_append_right _ h)) (by decide +kernel))) (goodIn_sub (fun _ h => List.mem_append_right _ h) (by decide +kernel))) (goodIn_sub (fun _ h => List.mem_append_left _ (List.mem_append_left _ (List.mem_append_right _ h))) (by decide +kernel))
set_option maxRecDepth 20000 in
theorem gL_law_L_act : GoodIn wsL_law (va_wsS RL 103 yL_act wsL_act) := goodIn_app (goodIn_of _ (by decide +kernel)) ggL_law_L_act
